/-! ===== the class's rows of slices, exactly ===== -/
theorem tl_mul9 {x y : Int64} {a b : Int} (hx : x.toInt = a) (hy : y.toInt = b) (h : -9223372036854775808 ≤ a * b ∧ a * b < 9223372036854775808) : (x * y).toInt = a * b := by rw [Int64.toInt_mul, hx, hy]; exact tl_bmod h.1 h.2
set_option maxRecDepth 100000 in
theorem ptL : ∀ d : Nat, d < 31 → 1 ≤ d → (Int32.toInt64 1 * (2329089562800 / Int32.toInt64 (nI d))).toInt = pt d ∧ (2329089562800 / Int32.toInt64 (nI d)).toInt = pt d ∧ ¬ Int32.toInt64 (nI d) = 0 := by decide +kernel
noncomputable def bl (b : Bool) : Int32 := if b = true then 1 else 0
noncomputable def SA (A : Int32) (d : Nat) : Bool := inS A (nI d)
section CRW
variable {d : Nat} {I : Im} {J : Jm} {R : Rm} {Q : Qt}
theorem px_cr1 {n : Nat} (h1 : 1 ≤ n) (h2 : n ≤ 30) (hQ : ∀ y : Int64, y.toInt = pt n → Q 0 y I J R) : AM (d + 1) 167 112 [.int 1, .int (nI n)] I J R Q :=
  w_X11_crumbs ⟨fun _ => ⟨(ptL n (by omega) h1).2.2, hQ _ (ptL n (by omega) h1).1⟩, fun c => absurd ((nle_nI (a := 1) (by omega) (by omega)).mpr h1) c⟩
end CRW
