section PT3x0
/-! ===== numbers, bounds, what is kept ===== -/
theorem bif_t {b : Bool} {X : Prop} (h : b = true) (x : X) : bif b then X else False := by rw [h]; exact x
theorem bif_e {b : Bool} {X Y : Prop} (h : b = true) (x : X) : bif b then X else Y := by rw [h]; exact x
theorem bif_t2 {b c : Bool} {X : Prop} (h : b = true) (h2 : c = true) (x : X) : bif (b && c) then X else False := by rw [h, h2]; exact x
theorem vp_of {i : Int32} {n : Nat} {a : Int} (h : i.toInt = a) (h1 : 0 ≤ a) (h2 : a < n) : vp_in i n := vp_in_iff.mpr (by rw [h]; exact ⟨h1, h2⟩)
theorem ti_bmod {z : Int} (h1 : -2147483648 ≤ z) (h2 : z < 2147483648) : z.bmod (2 ^ 32) = z := Int.bmod_eq_of_le (by omega) (by omega)
theorem ti_add {x y : Int32} {a b : Int} (hx : x.toInt = a) (hy : y.toInt = b) (h : -2147483648 ≤ a + b ∧ a + b < 2147483648) : (x + y).toInt = a + b := by
  rw [Int32.toInt_add, hx, hy]; exact ti_bmod h.1 h.2
theorem ti_sub {x y : Int32} {a b : Int} (hx : x.toInt = a) (hy : y.toInt = b) (h : -2147483648 ≤ a - b ∧ a - b < 2147483648) : (x - y).toInt = a - b := by
  rw [Int32.toInt_sub, hx, hy]; exact ti_bmod h.1 h.2
theorem ti_mul {x y : Int32} {a b : Int} (hx : x.toInt = a) (hy : y.toInt = b) (h : -2147483648 ≤ a * b ∧ a * b < 2147483648) : (x * y).toInt = a * b := by
  rw [Int32.toInt_mul, hx, hy]; exact ti_bmod h.1 h.2
theorem ci_lt {x y : Int32} {a b : Int} (hx : x.toInt = a) (hy : y.toInt = b) (h : x < y) : a < b := by rw [← hx, ← hy]; exact Int32.lt_iff_toInt_lt.mp h
theorem ci_nlt {x y : Int32} {a b : Int} (hx : x.toInt = a) (hy : y.toInt = b) (h : ¬ x < y) : b ≤ a := by rw [← hx, ← hy]; exact Int.not_lt.mp (fun q => h (Int32.lt_iff_toInt_lt.mpr q))
theorem ci_le {x y : Int32} {a b : Int} (hx : x.toInt = a) (hy : y.toInt = b) (h : x ≤ y) : a ≤ b := by rw [← hx, ← hy]; exact Int32.le_iff_toInt_le.mp h
theorem ci_nle {x y : Int32} {a b : Int} (hx : x.toInt = a) (hy : y.toInt = b) (h : ¬ x ≤ y) : b < a := by rw [← hx, ← hy]; exact Int.not_le.mp (fun q => h (Int32.le_iff_toInt_le.mpr q))
theorem ci_eq {x y : Int32} {a b : Int} (hx : x.toInt = a) (hy : y.toInt = b) (h : x = y) : a = b := by rw [← hx, ← hy, h]
theorem ci_ne {x y : Int32} {a b : Int} (hx : x.toInt = a) (hy : y.toInt = b) (h : ¬ x = y) : ¬ a = b := fun q => h (Int32.toInt_inj.mp (by rw [hx, hy]; exact q))
theorem tn_of {x : Int32} {a : Int} (hx : x.toInt = a) (h : 0 ≤ a) : ((x.toNatClampNeg : Nat) : Int) = a := by
  have h1 : x.toNatClampNeg = x.toInt.toNat := rfl
  rw [h1, hx]; omega
/-- bounds of the ints of an object, by class and place -/
noncomputable def bnd (ci k : Nat) : Option (Int × Int) := match ci, k with
  | 0, 4 => some (0, 6)
  | 2, 2 => some (0, 60)
  | 3, 1 => some (0, 3)
  | 5, 2 => some (0, 31)
  | 6, 1 => some (0, 900)
  | 6, 4 => some (0, 900)
  | 6, 5 => some (0, 900)
  | 6, 6 => some (0, 900)
  | 7, 2 => some (0, 5)
  | 7, 5 => some (0, 5)
  | 8, 2 => some (0, 8)
  | 9, 1 => some (0, 12)
  | 10, 1 => some (-1, 60)
  | 11, 13 => some (0, 3)
  | 12, 8 => some (0, 900)
  | 12, 9 => some (0, 900)
  | 12, 15 => some (0, 900)
  | 12, 16 => some (0, 900)
  | 12, 23 => some (0, 3)
  | 12, 27 => some (0, 30)
  | 12, 12 => some (0, 7)
  | 12, 43 => some (0, 300)
  | 12, 42 => some (0, 65535)
  | 12, 14 => some (0, 4)
  | 12, 41 => some (0, 1)
  | 12, 40 => some (0, 1)
  | 12, 25 => some (0, 1)
  | 12, 24 => some (0, 1)
  | 6, 3 => some (0, 1)
  | 4, 0 => some (0, 1)
  | 2, 0 => some (0, 1)
  | 1, 1 => some (0, 1)
  | 1, 0 => some (0, 1)
  | _, _ => none
/-- bounds of the elements of an array -/
noncomputable def bna (a : Nat) : Option (Int × Int) := match a with
  | 36 => some (0, 30)
  | 99 => some (-1, 60)
  | 105 => some (0, 30)
  | 102 => some (-2147483648, 2147483647)
  | _ => none
noncomputable def clsOf (o : Nat) : Nat := (shl.getD (o - 1) (999, 0)).1
/-- what stands in a cell of the reference's blocks, by its place alone -/
noncomputable def CB (j : Nat) (z : Int) : Prop := (j % 324 = 0 → 0 ≤ z ∧ z ≤ 6) ∧ (j % 324 = 3 → 0 ≤ z) ∧ (j % 324 = 53 → 0 ≤ z ∧ z ≤ 30) ∧ (54 ≤ j % 324 → (j % 324 - 54) % 9 = 0 → 0 ≤ z ∧ z ≤ 8) ∧ (54 ≤ j % 324 → (j % 324 - 54) % 9 = 8 → 0 ≤ z ∧ z ≤ 30) ∧ (54 ≤ j % 324 → ¬ (j % 324 - 54) % 9 = 7 → ¬ (j % 324 - 54) % 9 = 5 → 0 ≤ z ∧ z ≤ 99)
/-- what a step's record may hold: where it goes on; slices, men, numbers that may stand there -/
noncomputable def Rec (k f1 f2 f3 f5 f8 s lim men : Int) : Prop := s < f8 ∧ f8 ≤ lim ∧ (k = 0 → 1 ≤ f1 ∧ f1 ≤ 30 ∧ 1 ≤ f2 ∧ f2 ≤ 30 ∧ 1 ≤ f3 ∧ f3 ≤ 30) ∧ (k = 1 → 1 ≤ f1 ∧ f1 ≤ 30 ∧ 2 ≤ f2 ∧ f2 ≤ 30) ∧ (k = 2 ∨ k = 3 → 0 ≤ f1 ∧ f1 < men ∧ 1 ≤ f2 ∧ f2 ≤ 30) ∧ (k = 4 → 1 ≤ f1 ∧ f1 ≤ 9) ∧ (k = 6 → (f5 = 1 → 1 ≤ f1 ∧ f1 ≤ 30) ∧ (¬ f5 = 1 → 0 ≤ f1 ∧ f1 < men))
noncomputable def RecOk (f : Nat → Int32) (b s : Nat) : Prop := Rec (f (324 * b + 54 + 9 * s)).toInt (f (324 * b + 54 + 9 * s + 1)).toInt (f (324 * b + 54 + 9 * s + 2)).toInt (f (324 * b + 54 + 9 * s + 3)).toInt (f (324 * b + 54 + 9 * s + 5)).toInt (f (324 * b + 54 + 9 * s + 8)).toInt (s : Int) (f (324 * b + 53)).toInt (f (324 * b)).toInt
/-- the blocks: by what is due to a man that there is can be divided; the days are sound -/
noncomputable def CK (f : Nat → Int32) : Prop := (∀ j, CB j (f j).toInt) ∧ (∀ b k : Nat, b < 5 → (k : Int) < (f (324 * b)).toInt → 1 ≤ (f (324 * b + 40 + k)).toInt) ∧ ∀ b s : Nat, b < 4 → ¬ (f (324 * b + 52)).toInt = 0 → (s : Int) < (f (324 * b + 53)).toInt → RecOk f b s
/-- all that has a bound keeps it -/
noncomputable def Bd (I : Im) : Prop := (∀ o k lo hi, bnd (clsOf o) k = some (lo, hi) → lo ≤ (I o k).toInt ∧ (I o k).toInt ≤ hi) ∧ (∀ a j lo hi, bna a = some (lo, hi) → lo ≤ (I a j).toInt ∧ (I a j).toInt ≤ hi) ∧ CK (I 102)
theorem Bd.o {I : Im} (h : Bd I) {o ci k : Nat} {lo hi : Int} (ho : isO 112 o ci = true) (hb : bnd ci k = some (lo, hi)) : lo ≤ (I o k).toInt ∧ (I o k).toInt ≤ hi := h.1 o k lo hi (by rw [show clsOf o = ci from (isO_spec ho).2.2]; exact hb)
theorem Bd.a {I : Im} (h : Bd I) {a : Nat} (j : Nat) {lo hi : Int} (hb : bna a = some (lo, hi)) : lo ≤ (I a j).toInt ∧ (I a j).toInt ≤ hi := h.2.1 a j lo hi hb
theorem Bd.ck {I : Im} (h : Bd I) : CK (I 102) := h.2.2
/-- what stands in a cell of the blocks -/
theorem Bd.c {I : Im} (h : Bd I) {j : Nat} {z : Int} (hj : (j : Int) = z) : (z % 324 = 0 → 0 ≤ (I 102 j).toInt ∧ (I 102 j).toInt ≤ 6) ∧ (z % 324 = 3 → 0 ≤ (I 102 j).toInt) ∧ (z % 324 = 53 → 0 ≤ (I 102 j).toInt ∧ (I 102 j).toInt ≤ 30) ∧ (54 ≤ z % 324 → (z % 324 - 54) % 9 = 0 → 0 ≤ (I 102 j).toInt ∧ (I 102 j).toInt ≤ 8) ∧ (54 ≤ z % 324 → (z % 324 - 54) % 9 = 8 → 0 ≤ (I 102 j).toInt ∧ (I 102 j).toInt ≤ 30) ∧ (54 ≤ z % 324 → ¬ (z % 324 - 54) % 9 = 7 → ¬ (z % 324 - 54) % 9 = 5 → 0 ≤ (I 102 j).toInt ∧ (I 102 j).toInt ≤ 99) := by
  obtain ⟨h1, h2, h3, h4, h5, h6⟩ := h.2.2.1 j
  exact ⟨fun q => h1 (by omega), fun q => h2 (by omega), fun q => h3 (by omega), fun q r => h4 (by omega) (by omega), fun q r => h5 (by omega) (by omega), fun q r t => h6 (by omega) (by omega) (by omega)⟩
theorem Bd.up {I : Im} (h : Bd I) {a j : Nat} {v : Int32} (h1 : ∀ lo hi, bnd (clsOf a) j = some (lo, hi) → lo ≤ v.toInt ∧ v.toInt ≤ hi) (h2 : ∀ lo hi, bna a = some (lo, hi) → lo ≤ v.toInt ∧ v.toInt ≤ hi) (h3 : a = 102 → CK (upd (I 102) j v)) : Bd (uI I a j v) := by
  refine ⟨fun o k lo hi hb => ?_, fun o k lo hi hb => ?_, ?_⟩
  · by_cases ho : o = a
    · subst ho
      rw [uI_eq]
      by_cases hk : k = j
      · subst hk; rw [show upd (I o) k v k = v from if_pos rfl]; exact h1 lo hi hb
      · rw [show upd (I o) j v k = I o k from if_neg hk]; exact h.1 o k lo hi hb
    · rw [uI_ne ho]; exact h.1 o k lo hi hb
  · by_cases ho : o = a
    · subst ho
      rw [uI_eq]
      by_cases hk : k = j
      · subst hk; rw [show upd (I o) k v k = v from if_pos rfl]; exact h2 lo hi hb
      · rw [show upd (I o) j v k = I o k from if_neg hk]; exact h.2.1 o k lo hi hb
    · rw [uI_ne ho]; exact h.2.1 o k lo hi hb
  · by_cases ho : a = 102
    · have q := h3 ho
      subst ho
      rw [uI_eq]; exact q
    · rw [uI_ne (fun q => ho q.symm)]; exact h.2.2
end PT3x0
