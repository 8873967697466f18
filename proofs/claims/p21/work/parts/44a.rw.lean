/-! ===== rows of slices, purely ===== -/
noncomputable def pt (d : Nat) : Int := 2329089562800 / (d : Int)
theorem pt_b' : ∀ d, d < 31 → 1 ≤ d → 0 < pt d ∧ pt d ≤ 2329089562800 ∧ pt d * (d : Int) = 2329089562800 := by decide +kernel
theorem pt_b {d : Nat} (h1 : 1 ≤ d) (h2 : d ≤ 30) : 0 < pt d ∧ pt d ≤ 2329089562800 ∧ pt d * (d : Int) = 2329089562800 := pt_b' d (by omega) h1
/-- all rows of k slices out of the last f ones, members of S, that are together l; the first ones first -/
noncomputable def rws (S : Nat → Bool) : Nat → Nat → Int → List (List Nat)
  | 0, 0, l => if l = 0 then [[]] else []
  | 0, _ + 1, _ => []
  | _ + 1, 0, l => if l = 0 then [[]] else []
  | f + 1, k + 1, l => (if S (30 - f) = true then (rws S f k (l - pt (30 - f))).map (fun r => (30 - f) :: r) else []) ++ rws S f (k + 1) l
