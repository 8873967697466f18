section PT3x0
/-! ===== numbers, bounds, what is kept ===== -/
theorem bif_t {b : Bool} {X : Prop} (h : b = true) (x : X) : bif b then X else False := by rw [h]; exact x
theorem bif_e {b : Bool} {X Y : Prop} (h : b = true) (x : X) : bif b then X else Y := by rw [h]; exact x
theorem bif_t2 {b c : Bool} {X : Prop} (h : b = true) (h2 : c = true) (x : X) : bif (b && c) then X else False := by rw [h, h2]; exact x
theorem vp_of {i : Int32} {n : Nat} {a : Int} (h : i.toInt = a) (h1 : 0 ≤ a) (h2 : a < n) : vp_in i n := vp_in_iff.mpr (by rw [h]; exact ⟨h1, h2⟩)
theorem ti_bmod {z : Int} (h1 : -2147483648 ≤ z) (h2 : z < 2147483648) : z.bmod (2 ^ 32) = z := Int.bmod_eq_of_le (by omega) (by omega)
theorem ti_add {x y : Int32} {a b : Int} (hx : x.toInt = a) (hy : y.toInt = b) (h : -2147483648 ≤ a + b ∧ a + b < 2147483648) : (x + y).toInt = a + b := by
  rw [Int32.toInt_add, hx, hy]; exact ti_bmod h.1 h.2
theorem ti_sub {x y : Int32} {a b : Int} (hx : x.toInt = a) (hy : y.toInt = b) (h : -2147483648 ≤ a - b ∧ a - b < 2147483648) : (x - y).toInt = a - b := by
  rw [Int32.toInt_sub, hx, hy]; exact ti_bmod h.1 h.2
theorem ti_mul {x y : Int32} {a b : Int} (hx : x.toInt = a) (hy : y.toInt = b) (h : -2147483648 ≤ a * b ∧ a * b < 2147483648) : (x * y).toInt = a * b := by
  rw [Int32.toInt_mul, hx, hy]; exact ti_bmod h.1 h.2
theorem ci_lt {x y : Int32} {a b : Int} (hx : x.toInt = a) (hy : y.toInt = b) (h : x < y) : a < b := by rw [← hx, ← hy]; exact Int32.lt_iff_toInt_lt.mp h
theorem ci_nlt {x y : Int32} {a b : Int} (hx : x.toInt = a) (hy : y.toInt = b) (h : ¬ x < y) : b ≤ a := by rw [← hx, ← hy]; exact Int.not_lt.mp (fun q => h (Int32.lt_iff_toInt_lt.mpr q))
theorem ci_le {x y : Int32} {a b : Int} (hx : x.toInt = a) (hy : y.toInt = b) (h : x ≤ y) : a ≤ b := by rw [← hx, ← hy]; exact Int32.le_iff_toInt_le.mp h
theorem ci_nle {x y : Int32} {a b : Int} (hx : x.toInt = a) (hy : y.toInt = b) (h : ¬ x ≤ y) : b < a := by rw [← hx, ← hy]; exact Int.not_le.mp (fun q => h (Int32.le_iff_toInt_le.mpr q))
theorem ci_eq {x y : Int32} {a b : Int} (hx : x.toInt = a) (hy : y.toInt = b) (h : x = y) : a = b := by rw [← hx, ← hy, h]
theorem ci_ne {x y : Int32} {a b : Int} (hx : x.toInt = a) (hy : y.toInt = b) (h : ¬ x = y) : ¬ a = b := fun q => h (Int32.toInt_inj.mp (by rw [hx, hy]; exact q))
theorem tn_of {x : Int32} {a : Int} (hx : x.toInt = a) (h : 0 ≤ a) : ((x.toNatClampNeg : Nat) : Int) = a := by
  have h1 : x.toNatClampNeg = x.toInt.toNat := rfl
  rw [h1, hx]; omega
/-- bounds of the ints of an object, by class and place -/
noncomputable def bnd (ci k : Nat) : Option (Int × Int) := match ci, k with
  | 0, 4 => some (0, 6)
  | 2, 2 => some (0, 60)
  | 3, 1 => some (0, 3)
  | 5, 2 => some (0, 31)
  | 6, 1 => some (0, 900)
  | 6, 4 => some (0, 900)
  | 6, 5 => some (0, 900)
  | 6, 6 => some (0, 900)
  | 7, 2 => some (0, 5)
  | 7, 5 => some (0, 5)
  | 8, 2 => some (0, 8)
  | 9, 1 => some (0, 12)
  | 10, 1 => some (-1, 60)
  | 11, 13 => some (0, 3)
  | 12, 8 => some (0, 900)
  | 12, 9 => some (0, 900)
  | 12, 15 => some (0, 900)
  | 12, 16 => some (0, 900)
  | 12, 23 => some (0, 3)
  | 12, 27 => some (0, 30)
  | 12, 12 => some (0, 7)
  | 12, 43 => some (0, 300)
  | 12, 42 => some (0, 65535)
  | 12, 14 => some (0, 4)
  | 12, 41 => some (0, 1)
  | 12, 40 => some (0, 1)
  | 12, 25 => some (0, 1)
  | 12, 24 => some (0, 1)
  | 6, 3 => some (0, 1)
  | 4, 0 => some (0, 1)
  | 2, 0 => some (0, 1)
  | 1, 1 => some (0, 1)
  | 1, 0 => some (0, 1)
  | _, _ => none
/-- bounds of the elements of an array -/
noncomputable def bna (a : Nat) : Option (Int × Int) := match a with
  | 36 => some (0, 30)
  | 99 => some (-1, 60)
  | 105 => some (0, 30)
  | 102 => some (-2147483648, 2147483647)
  | _ => none
noncomputable def clsOf (o : Nat) : Nat := (shl.getD (o - 1) (999, 0)).1
/-- what stands in a cell of the reference's blocks, by its place alone -/
noncomputable def CB (j : Nat) (z : Int) : Prop := (j % 324 = 0 → 0 ≤ z ∧ z ≤ 6) ∧ (j % 324 = 3 → 0 ≤ z) ∧ (j % 324 = 53 → 0 ≤ z ∧ z ≤ 30) ∧ (54 ≤ j % 324 → (j % 324 - 54) % 9 = 0 → 0 ≤ z ∧ z ≤ 8) ∧ (54 ≤ j % 324 → (j % 324 - 54) % 9 = 8 → 0 ≤ z ∧ z ≤ 30) ∧ (54 ≤ j % 324 → ¬ (j % 324 - 54) % 9 = 7 → ¬ (j % 324 - 54) % 9 = 5 → 0 ≤ z ∧ z ≤ 99)
/-- what a step's record may hold: where it goes on; slices, men, numbers that may stand there -/
noncomputable def Rec (k f1 f2 f3 f5 f8 s lim men : Int) : Prop := s < f8 ∧ f8 ≤ lim ∧ (k = 0 → 1 ≤ f1 ∧ f1 ≤ 30 ∧ 1 ≤ f2 ∧ f2 ≤ 30 ∧ 1 ≤ f3 ∧ f3 ≤ 30) ∧ (k = 1 → 1 ≤ f1 ∧ f1 ≤ 30 ∧ 2 ≤ f2 ∧ f2 ≤ 30) ∧ (k = 2 ∨ k = 3 → 0 ≤ f1 ∧ f1 < men ∧ 1 ≤ f2 ∧ f2 ≤ 30) ∧ (k = 4 → 1 ≤ f1 ∧ f1 ≤ 9) ∧ (k = 6 → (f5 = 1 → 1 ≤ f1 ∧ f1 ≤ 30) ∧ (¬ f5 = 1 → 0 ≤ f1 ∧ f1 < men))
noncomputable def RecOk (f : Nat → Int32) (b s : Nat) : Prop := Rec (f (324 * b + 54 + 9 * s)).toInt (f (324 * b + 54 + 9 * s + 1)).toInt (f (324 * b + 54 + 9 * s + 2)).toInt (f (324 * b + 54 + 9 * s + 3)).toInt (f (324 * b + 54 + 9 * s + 5)).toInt (f (324 * b + 54 + 9 * s + 8)).toInt (s : Int) (f (324 * b + 53)).toInt (f (324 * b)).toInt
/-- the blocks: by what is due to a man that there is can be divided; the days are sound -/
noncomputable def CK (f : Nat → Int32) : Prop := (∀ j, CB j (f j).toInt) ∧ (∀ b k : Nat, b < 5 → (k : Int) < (f (324 * b)).toInt → 1 ≤ (f (324 * b + 40 + k)).toInt) ∧ ∀ b s : Nat, b < 4 → ¬ (f (324 * b + 52)).toInt = 0 → (s : Int) < (f (324 * b + 53)).toInt → RecOk f b s
/-- all that has a bound keeps it -/
noncomputable def Bd (I : Im) : Prop := (∀ o k lo hi, bnd (clsOf o) k = some (lo, hi) → lo ≤ (I o k).toInt ∧ (I o k).toInt ≤ hi) ∧ (∀ a j lo hi, bna a = some (lo, hi) → lo ≤ (I a j).toInt ∧ (I a j).toInt ≤ hi) ∧ CK (I 102)
theorem Bd.o {I : Im} (h : Bd I) {o ci k : Nat} {lo hi : Int} (ho : isO 112 o ci = true) (hb : bnd ci k = some (lo, hi)) : lo ≤ (I o k).toInt ∧ (I o k).toInt ≤ hi := h.1 o k lo hi (by rw [show clsOf o = ci from (isO_spec ho).2.2]; exact hb)
theorem Bd.a {I : Im} (h : Bd I) {a : Nat} (j : Nat) {lo hi : Int} (hb : bna a = some (lo, hi)) : lo ≤ (I a j).toInt ∧ (I a j).toInt ≤ hi := h.2.1 a j lo hi hb
theorem Bd.ck {I : Im} (h : Bd I) : CK (I 102) := h.2.2
/-- what stands in a cell of the blocks -/
theorem Bd.c {I : Im} (h : Bd I) {j : Nat} {z : Int} (hj : (j : Int) = z) : (z % 324 = 0 → 0 ≤ (I 102 j).toInt ∧ (I 102 j).toInt ≤ 6) ∧ (z % 324 = 3 → 0 ≤ (I 102 j).toInt) ∧ (z % 324 = 53 → 0 ≤ (I 102 j).toInt ∧ (I 102 j).toInt ≤ 30) ∧ (54 ≤ z % 324 → (z % 324 - 54) % 9 = 0 → 0 ≤ (I 102 j).toInt ∧ (I 102 j).toInt ≤ 8) ∧ (54 ≤ z % 324 → (z % 324 - 54) % 9 = 8 → 0 ≤ (I 102 j).toInt ∧ (I 102 j).toInt ≤ 30) ∧ (54 ≤ z % 324 → ¬ (z % 324 - 54) % 9 = 7 → ¬ (z % 324 - 54) % 9 = 5 → 0 ≤ (I 102 j).toInt ∧ (I 102 j).toInt ≤ 99) := by
  obtain ⟨h1, h2, h3, h4, h5, h6⟩ := h.2.2.1 j
  exact ⟨fun q => h1 (by omega), fun q => h2 (by omega), fun q => h3 (by omega), fun q r => h4 (by omega) (by omega), fun q r => h5 (by omega) (by omega), fun q r t => h6 (by omega) (by omega) (by omega)⟩
theorem Bd.up {I : Im} (h : Bd I) {a j : Nat} {v : Int32} (h1 : ∀ lo hi, bnd (clsOf a) j = some (lo, hi) → lo ≤ v.toInt ∧ v.toInt ≤ hi) (h2 : ∀ lo hi, bna a = some (lo, hi) → lo ≤ v.toInt ∧ v.toInt ≤ hi) (h3 : a = 102 → CK (upd (I 102) j v)) : Bd (uI I a j v) := by
  refine ⟨fun o k lo hi hb => ?_, fun o k lo hi hb => ?_, ?_⟩
  · by_cases ho : o = a
    · subst ho
      rw [uI_eq]
      by_cases hk : k = j
      · subst hk; rw [show upd (I o) k v k = v from if_pos rfl]; exact h1 lo hi hb
      · rw [show upd (I o) j v k = I o k from if_neg hk]; exact h.1 o k lo hi hb
    · rw [uI_ne ho]; exact h.1 o k lo hi hb
  · by_cases ho : o = a
    · subst ho
      rw [uI_eq]
      by_cases hk : k = j
      · subst hk; rw [show upd (I o) k v k = v from if_pos rfl]; exact h2 lo hi hb
      · rw [show upd (I o) j v k = I o k from if_neg hk]; exact h.2.1 o k lo hi hb
    · rw [uI_ne ho]; exact h.2.1 o k lo hi hb
  · by_cases ho : a = 102
    · have q := h3 ho
      subst ho
      rw [uI_eq]; exact q
    · rw [uI_ne (fun q => ho q.symm)]; exact h.2.2
theorem bna_O {o ci : Nat} (ho : isO 112 o ci = true) (hci : ci < 13) : bna o = none := by
  have h : ∀ o, o < 113 → ∀ ci, ci < 13 → isO 112 o ci = true → bna o = none := by decide +kernel
  exact h o (by have := (isO_spec ho).2.1; omega) ci hci ho
/-- a place of an object without a bound -/
theorem Bd.o0 {I : Im} (h : Bd I) {o ci j : Nat} {v : Int32} (ho : isO 112 o ci = true) (hci : ci < 13) (hb : bnd ci j = none) : Bd (uI I o j v) :=
  h.up (fun lo hi q => by rw [show clsOf o = ci from (isO_spec ho).2.2, hb] at q; cases q) (fun lo hi q => by rw [bna_O ho hci] at q; cases q) (fun q => by subst q; cases (bna_O ho hci))
theorem Bd.o1 {I : Im} (h : Bd I) {o ci j : Nat} {v : Int32} {lo hi a : Int} (ho : isO 112 o ci = true) (hci : ci < 13) (hb : bnd ci j = some (lo, hi)) (hv : v.toInt = a) (h1 : lo ≤ a ∧ a ≤ hi) : Bd (uI I o j v) :=
  h.up (fun lo2 hi2 q => by rw [show clsOf o = ci from (isO_spec ho).2.2, hb] at q; cases q; rw [hv]; exact h1) (fun lo hi q => by rw [bna_O ho hci] at q; cases q) (fun q => by subst q; cases (bna_O ho hci))
theorem bnd_A {a t : Nat} (ha : isA 112 a t = true) (j : Nat) : bnd (clsOf a) j = none := by
  rw [show clsOf a = 100 + t from (isA_spec ha).2.2]
  unfold bnd
  split <;> first | rfl | omega
theorem Bd.a0 {I : Im} (h : Bd I) {a t j : Nat} {v : Int32} (ha : isA 112 a t = true) (hb : bna a = none) : Bd (uI I a j v) :=
  h.up (fun lo hi q => by rw [bnd_A ha] at q; cases q) (fun lo hi q => by rw [hb] at q; cases q) (fun q => by subst q; cases hb)
theorem Bd.a1 {I : Im} (h : Bd I) {a t j : Nat} {v : Int32} {lo hi z : Int} (ha : isA 112 a t = true) (hb : bna a = some (lo, hi)) (hv : v.toInt = z) (h1 : lo ≤ z ∧ z ≤ hi) (hn : ¬ a = 102 := by decide) : Bd (uI I a j v) :=
  h.up (fun lo hi q => by rw [bnd_A ha] at q; cases q) (fun lo2 hi2 q => by rw [hb] at q; cases q; rw [hv]; exact h1) (fun q => absurd q hn)
/-- an int's number is in its range -/
theorem i32 (x : Int32) : -2147483648 ≤ x.toInt ∧ x.toInt < 2147483648 := ⟨Int32.le_toInt x, Int32.toInt_lt x⟩
theorem tl_i2l {x : Int32} {a : Int} (h : x.toInt = a) : x.toInt64.toInt = a := by rw [← h]; exact Int32.toInt_toInt64 x
theorem tl_bmod {z : Int} (h1 : -9223372036854775808 ≤ z) (h2 : z < 9223372036854775808) : z.bmod (2 ^ 64) = z := Int.bmod_eq_of_le (by omega) (by omega)
theorem tl_add {x y : Int64} {a b : Int} (hx : x.toInt = a) (hy : y.toInt = b) (h : -9223372036854775808 ≤ a + b ∧ a + b < 9223372036854775808) : (x + y).toInt = a + b := by
  rw [Int64.toInt_add, hx, hy]; exact tl_bmod h.1 h.2
theorem tl_sub {x y : Int64} {a b : Int} (hx : x.toInt = a) (hy : y.toInt = b) (h : -9223372036854775808 ≤ a - b ∧ a - b < 9223372036854775808) : (x - y).toInt = a - b := by
  rw [Int64.toInt_sub, hx, hy]; exact tl_bmod h.1 h.2
theorem cl_lt {x y : Int64} {a b : Int} (hx : x.toInt = a) (hy : y.toInt = b) (h : x < y) : a < b := by rw [← hx, ← hy]; exact Int64.lt_iff_toInt_lt.mp h
theorem cl_nlt {x y : Int64} {a b : Int} (hx : x.toInt = a) (hy : y.toInt = b) (h : ¬ x < y) : b ≤ a := by rw [← hx, ← hy]; exact Int.not_lt.mp (fun q => h (Int64.lt_iff_toInt_lt.mpr q))
theorem cl_le {x y : Int64} {a b : Int} (hx : x.toInt = a) (hy : y.toInt = b) (h : x ≤ y) : a ≤ b := by rw [← hx, ← hy]; exact Int64.le_iff_toInt_le.mp h
theorem cl_nle {x y : Int64} {a b : Int} (hx : x.toInt = a) (hy : y.toInt = b) (h : ¬ x ≤ y) : b < a := by rw [← hx, ← hy]; exact Int.not_le.mp (fun q => h (Int64.le_iff_toInt_le.mpr q))
theorem cl_eq {x y : Int64} {a b : Int} (hx : x.toInt = a) (hy : y.toInt = b) (h : x = y) : a = b := by rw [← hx, ← hy, h]
theorem cl_ne {x y : Int64} {a b : Int} (hx : x.toInt = a) (hy : y.toInt = b) (h : ¬ x = y) : ¬ a = b := fun q => h (Int64.toInt_inj.mp (by rw [hx, hy]; exact q))
theorem i64 (x : Int64) : -9223372036854775808 ≤ x.toInt ∧ x.toInt < 9223372036854775808 := ⟨Int64.le_toInt x, Int64.toInt_lt x⟩
theorem ti_max {x y : Int32} {a b : Int} (hx : x.toInt = a) (hy : y.toInt = b) : (if x < y then y else x).toInt = max a b := by
  by_cases h : x < y
  · rw [if_pos h, hy]; have := ci_lt hx hy h; omega
  · rw [if_neg h, hx]; have := ci_nlt hx hy h; omega
theorem ti_min {x y : Int32} {a b : Int} (hx : x.toInt = a) (hy : y.toInt = b) : (if y < x then y else x).toInt = min a b := by
  by_cases h : y < x
  · rw [if_pos h, hy]; have := ci_lt hy hx h; omega
  · rw [if_neg h, hx]; have := ci_nlt hy hx h; omega
theorem tl_l2i {x : Int64} {a : Int} (hx : x.toInt = a) (h : -2147483648 ≤ a ∧ a < 2147483648) : x.toInt32.toInt = a := by
  rw [Int64.toInt_toInt32, hx]; exact ti_bmod h.1 h.2
theorem Bd.cp {I : Im} (h : Bd I) {a0 a1 t sp dp n : Nat} (ha : isA 112 a1 t = true) (hb : bna a1 = none) : Bd (cI I a0 a1 sp dp n) := by
  have hn : ¬ (102 : Nat) = a1 := fun q => by subst q; cases hb
  refine ⟨fun o k lo hi q => ?_, fun o k lo hi q => ?_, ?_⟩
  · by_cases ho : o = a1
    · subst ho; rw [bnd_A ha] at q; cases q
    · rw [show cI I a0 a1 sp dp n o = I o from if_neg ho]; exact h.1 o k lo hi q
  · by_cases ho : o = a1
    · subst ho; rw [hb] at q; cases q
    · rw [show cI I a0 a1 sp dp n o = I o from if_neg ho]; exact h.2.1 o k lo hi q
  · rw [show cI I a0 a1 sp dp n 102 = I 102 from if_neg hn]; exact h.2.2
theorem shl1 {y : Int32} {a : Int} (hy : y.toInt = a) (h : 0 ≤ a ∧ a ≤ 12) : 1 ≤ ((1 : Int32) <<< (y &&& 31)).toInt ∧ ((1 : Int32) <<< (y &&& 31)).toInt ≤ 4096 ∧ (a ≤ 11 → ((1 : Int32) <<< (y &&& 31)).toInt ≤ 2048) := by
  have hz : ∃ k : Nat, k ≤ 12 ∧ y = nI k := ⟨a.toNat, by omega, Int32.toInt_inj.mp (by rw [hy, nI_toInt (by omega)]; omega)⟩
  obtain ⟨k, hk, rfl⟩ := hz
  rw [nI_toInt (by omega)] at hy
  have hd : ∀ k, k ≤ 12 → (1 ≤ ((1 : Int32) <<< (nI k &&& 31)).toInt ∧ ((1 : Int32) <<< (nI k &&& 31)).toInt ≤ 4096 ∧ (k ≤ 11 → ((1 : Int32) <<< (nI k &&& 31)).toInt ≤ 2048)) := by decide +kernel
  obtain ⟨h1, h2, h3⟩ := hd k hk
  exact ⟨h1, h2, fun q => h3 (by omega)⟩
theorem bl_of {x : Int32} (h : 0 ≤ x.toInt ∧ x.toInt ≤ 1) : x = 0 ∨ x = 1 := by
  by_cases hx : x.toInt = 0
  · exact Or.inl (Int32.toInt_inj.mp hx)
  · exact Or.inr (Int32.toInt_inj.mp (show x.toInt = 1 by omega))
theorem bl_ti {x : Int32} (h : x = 0 ∨ x = 1) : 0 ≤ x.toInt ∧ x.toInt ≤ 1 := by
  rcases h with h | h <;> subst h <;> decide
theorem rd_ne {I : Im} {a j o k : Nat} {v : Int32} (h : ¬ o = a) : uI I a j v o k = I o k := congrFun (uI_ne h) k
theorem rd_k {I : Im} {o j k : Nat} {v : Int32} (h : ¬ k = j) : uI I o j v o k = I o k := by rw [uI_eq]; exact if_neg h
theorem rd_eq {I : Im} {o j : Nat} {v : Int32} : uI I o j v o j = v := by rw [uI_eq]; exact if_pos rfl
theorem rd_c {I : Im} {a0 a1 sp dp n o k : Nat} (h : ¬ o = a1) : cI I a0 a1 sp dp n o k = I o k := congrFun (show cI I a0 a1 sp dp n o = I o from if_neg h) k
theorem cne {o a c e : Nat} (h1 : clsOf o = c) (h2 : clsOf a = e) (h : Nat.beq c e = false) : ¬ o = a := fun q => by
  subst q; rw [h1] at h2; subst h2; rw [Nat.beq_refl] at h; cases h
theorem clO {o c : Nat} (h : isO 112 o c = true) : clsOf o = c := (isO_spec h).2.2
theorem clA {o t : Nat} (h : isA 112 o t = true) : clsOf o = 100 + t := (isA_spec h).2.2
theorem ti_nat {x : Int32} {k : Nat} (hk : k < 2147483648) (h : x.toInt = (k : Int)) : x.toBitVec.toNat = k := by
  have h1 : x.toInt = x.toBitVec.toInt := rfl
  rw [h1, BitVec.toInt_eq_toNat_cond] at h
  have h2 := x.toBitVec.isLt
  split at h <;> omega
theorem or12 {x y : Int32} {a b : Int} (hx : x.toInt = a) (hy : y.toInt = b) (ha : 0 ≤ a ∧ a ≤ 4095) (hb : 0 ≤ b ∧ b ≤ 4095) : 0 ≤ (x ||| y).toInt ∧ (x ||| y).toInt ≤ 4095 := by
  have h1 := ti_nat (x := x) (k := a.toNat) (by omega) (by omega)
  have h2 := ti_nat (x := y) (k := b.toNat) (by omega) (by omega)
  have h3 : (x ||| y).toBitVec.toNat = a.toNat ||| b.toNat := by
    rw [Int32.toBitVec_or, BitVec.toNat_or, h1, h2]
  have h4 : a.toNat ||| b.toNat < 2 ^ 12 := Nat.or_lt_two_pow (by omega) (by omega)
  have h5 : (x ||| y).toInt = (x ||| y).toBitVec.toInt := rfl
  rw [h5, BitVec.toInt_eq_toNat_cond, h3]
  have h6 : (2 : Nat) ^ 12 = 4096 := by decide
  split <;> omega
theorem upd_i {f : Nat → Int32} {j k : Nat} {v : Int32} (h : ¬ k = j) : upd f j v k = f k := if_neg h
theorem upd_s {f : Nat → Int32} {j : Nat} {v : Int32} : upd f j v j = v := if_pos rfl
/-- a cell of the blocks that none of their laws speaks of -/
theorem CK.free {f : Nat → Int32} (h : CK f) {j : Nat} {v : Int32} (h1 : 0 < j % 324) (h2 : ¬ j % 324 = 3) (h3 : j % 324 < 40 ∨ (46 ≤ j % 324 ∧ j % 324 < 52)) : CK (upd f j v) := by
  have hs : ∀ k : Nat, k % 324 = 0 ∨ k % 324 = 3 ∨ (40 ≤ k % 324 ∧ k % 324 ≤ 45) ∨ 52 ≤ k % 324 → upd f j v k = f k := fun k hk => upd_i (by omega)
  refine ⟨fun k => ?_, fun b k hb hk => ?_, fun b s hb hd hs2 => ?_⟩
  · by_cases hk : k = j
    · subst hk
      rw [upd_s]
      unfold CB
      omega
    · rw [upd_i hk]; exact h.1 k
  · rw [hs _ (by omega)] at hk
    have h6 := (h.1 (324 * b)).1 (by omega)
    rw [hs _ (by omega)]
    exact h.2.1 b k hb hk
  · rw [hs _ (by omega)] at hd hs2
    have h6 := (h.1 (324 * b + 53)).2.2.1 (by omega)
    have q := h.2.2 b s hb hd hs2
    unfold RecOk at q ⊢
    simp only [hs _ (show (324 * b + 54 + 9 * s + 8) % 324 = 0 ∨ (324 * b + 54 + 9 * s + 8) % 324 = 3 ∨ (40 ≤ (324 * b + 54 + 9 * s + 8) % 324 ∧ (324 * b + 54 + 9 * s + 8) % 324 ≤ 45) ∨ 52 ≤ (324 * b + 54 + 9 * s + 8) % 324 by omega), hs (324 * b + 53) (by omega), hs (324 * b) (by omega), hs (324 * b + 54 + 9 * s) (by omega), hs (324 * b + 54 + 9 * s + 1) (by omega), hs (324 * b + 54 + 9 * s + 2) (by omega), hs (324 * b + 54 + 9 * s + 3) (by omega), hs (324 * b + 54 + 9 * s + 5) (by omega)]
    exact q
theorem Bd.cfree {I : Im} (h : Bd I) {i v : Int32} {z : Int} (hi : i.toInt = z) (h0 : 0 ≤ z) (h1 : 0 < z % 324) (h2 : ¬ z % 324 = 3) (h3 : z % 324 < 40 ∨ (46 ≤ z % 324 ∧ z % 324 < 52)) : Bd (uI I 102 (Int32.toNatClampNeg i) v) := by
  have hj := tn_of hi h0
  exact h.up (fun lo hi q => by cases q) (fun lo hi q => by cases q; exact ⟨Int32.le_toInt _, by have := Int32.toInt_lt v; omega⟩) (fun _ => h.ck.free (by omega) (by omega) (by omega))
theorem hb102 {I : Im} (h : Bd I) {j : Nat} {v : Int32} (hc : CK (upd (I 102) j v)) : Bd (uI I 102 j v) :=
  h.up (fun lo hi q => by cases q) (fun lo hi q => by cases q; exact ⟨Int32.le_toInt _, by have := Int32.toInt_lt v; omega⟩) (fun _ => hc)
theorem CK.known {f : Nat → Int32} (h : CK f) {j : Nat} {v : Int32} (h1 : j % 324 = 3) (hv : 0 ≤ v.toInt) : CK (upd f j v) := by
  have hs : ∀ k : Nat, ¬ k % 324 = 3 → upd f j v k = f k := fun k hk => upd_i (by omega)
  refine ⟨fun k => ?_, fun b k hb hk => ?_, fun b s hb hd hs2 => ?_⟩
  · by_cases hk : k = j
    · subst hk
      rw [upd_s]
      unfold CB
      omega
    · rw [upd_i hk]; exact h.1 k
  · rw [hs _ (by omega)] at hk
    have h6 := (h.1 (324 * b)).1 (by omega)
    rw [hs _ (by omega)]
    exact h.2.1 b k hb hk
  · rw [hs _ (by omega)] at hd hs2
    have h6 := (h.1 (324 * b + 53)).2.2.1 (by omega)
    have q := h.2.2 b s hb hd hs2
    unfold RecOk at q ⊢
    simp only [hs (324 * b + 54 + 9 * s + 8) (by omega), hs (324 * b + 53) (by omega), hs (324 * b) (by omega), hs (324 * b + 54 + 9 * s) (by omega), hs (324 * b + 54 + 9 * s + 1) (by omega), hs (324 * b + 54 + 9 * s + 2) (by omega), hs (324 * b + 54 + 9 * s + 3) (by omega), hs (324 * b + 54 + 9 * s + 5) (by omega)]
    exact q
theorem Bd.cknown {I : Im} (h : Bd I) {i v : Int32} {z y : Int} (hi : i.toInt = z) (hv : v.toInt = y) (h0 : 0 ≤ z) (h1 : z % 324 = 3) (h2 : 0 ≤ y) : Bd (uI I 102 (Int32.toNatClampNeg i) v) := by
  have hj := tn_of hi h0
  exact hb102 h (h.ck.known (by omega) (by omega))
theorem CK.new {f : Nat → Int32} (h : CK f) {j : Nat} {v : Int32} (h1 : 1350 ≤ j) (h2 : j < 1620) (hv : CB j v.toInt) : CK (upd f j v) := by
  have hs : ∀ k : Nat, k < 1350 → upd f j v k = f k := fun k hk => upd_i (by omega)
  refine ⟨fun k => ?_, fun b k hb hk => ?_, fun b s hb hd hs2 => ?_⟩
  · by_cases hk : k = j
    · subst hk
      rw [upd_s]
      exact hv
    · rw [upd_i hk]; exact h.1 k
  · rw [hs _ (by omega)] at hk
    have h6 := (h.1 (324 * b)).1 (by omega)
    rw [hs _ (by omega)]
    exact h.2.1 b k hb hk
  · rw [hs _ (by omega)] at hd hs2
    have h6 := (h.1 (324 * b + 53)).2.2.1 (by omega)
    have q := h.2.2 b s hb hd hs2
    unfold RecOk at q ⊢
    simp only [hs (324 * b + 54 + 9 * s + 8) (by omega), hs (324 * b + 53) (by omega), hs (324 * b) (by omega), hs (324 * b + 54 + 9 * s) (by omega), hs (324 * b + 54 + 9 * s + 1) (by omega), hs (324 * b + 54 + 9 * s + 2) (by omega), hs (324 * b + 54 + 9 * s + 3) (by omega), hs (324 * b + 54 + 9 * s + 5) (by omega)]
    exact q
theorem Bd.cnew {I : Im} (h : Bd I) {i v : Int32} {z y : Int} (hi : i.toInt = z) (hv : v.toInt = y) (h0 : 1350 ≤ z) (h1 : z < 1620) (h2 : (z - 1350) % 9 = 7 ∨ (z - 1350) % 9 = 5 ∨ (0 ≤ y ∧ y ≤ 99 ∧ ((z - 1350) % 9 = 0 → y ≤ 8) ∧ ((z - 1350) % 9 = 8 → y ≤ 30))) : Bd (uI I 102 (Int32.toNatClampNeg i) v) := by
  have hj := tn_of hi (by omega)
  refine hb102 h (h.ck.new (by omega) (by omega) ?_)
  unfold CB
  omega
theorem CK.second {f : Nat → Int32} (h : CK f) {j : Nat} {v : Int32} (h1 : 40 ≤ j % 324 ∧ j % 324 < 46) (hv : 1 ≤ v.toInt) : CK (upd f j v) := by
  have hs : ∀ k : Nat, ¬ (40 ≤ k % 324 ∧ k % 324 < 46) → upd f j v k = f k := fun k hk => upd_i (fun q => hk (by subst q; exact h1))
  refine ⟨fun k => ?_, fun b k hb hk => ?_, fun b s hb hd hs2 => ?_⟩
  · by_cases hk : k = j
    · subst hk
      rw [upd_s]
      unfold CB
      omega
    · rw [upd_i hk]; exact h.1 k
  · rw [hs _ (by omega)] at hk
    by_cases q : 324 * b + 40 + k = j
    · rw [q, upd_s]; exact hv
    · rw [upd_i q]; exact h.2.1 b k hb hk
  · rw [hs _ (by omega)] at hd hs2
    have h6 := (h.1 (324 * b + 53)).2.2.1 (by omega)
    have q := h.2.2 b s hb hd hs2
    unfold RecOk at q ⊢
    simp only [hs (324 * b + 54 + 9 * s + 8) (by omega), hs (324 * b + 53) (by omega), hs (324 * b) (by omega), hs (324 * b + 54 + 9 * s) (by omega), hs (324 * b + 54 + 9 * s + 1) (by omega), hs (324 * b + 54 + 9 * s + 2) (by omega), hs (324 * b + 54 + 9 * s + 3) (by omega), hs (324 * b + 54 + 9 * s + 5) (by omega)]
    exact q
theorem Bd.csecond {I : Im} (h : Bd I) {i v : Int32} {z y : Int} (hi : i.toInt = z) (hv : v.toInt = y) (h0 : 0 ≤ z) (h1 : 40 ≤ z % 324 ∧ z % 324 < 46) (h2 : 1 ≤ y) : Bd (uI I 102 (Int32.toNatClampNeg i) v) := by
  have hj := tn_of hi h0
  exact hb102 h (h.ck.second (by omega) (by omega))
theorem Bd.div {I : Im} (h : Bd I) {b k : Nat} {i : Int32} {z : Int} (hi : i.toInt = z) (hz : z = 324 * b + 40 + k) (hb : b < 5) (hk : (k : Int) < (I 102 (324 * b)).toInt) : 1 ≤ (I 102 (Int32.toNatClampNeg i)).toInt := by
  have hj := tn_of hi (by omega)
  rw [show Int32.toNatClampNeg i = 324 * b + 40 + k by omega]
  exact h.ck.2.1 b k hb hk
theorem ori {x y : Int32} {a b : Int} (hx : x.toInt = a) (hy : y.toInt = b) (ha : 0 ≤ a) (hb : 0 ≤ b) : 0 ≤ (x ||| y).toInt := by
  have r1 := i32 x
  have r2 := i32 y
  have h1 := ti_nat (x := x) (k := a.toNat) (by omega) (by omega)
  have h2 := ti_nat (x := y) (k := b.toNat) (by omega) (by omega)
  have h3 : (x ||| y).toBitVec.toNat = a.toNat ||| b.toNat := by
    rw [Int32.toBitVec_or, BitVec.toNat_or, h1, h2]
  have h4 : a.toNat ||| b.toNat < 2 ^ 31 := Nat.or_lt_two_pow (by omega) (by omega)
  have h5 : (x ||| y).toInt = (x ||| y).toBitVec.toInt := rfl
  rw [h5, BitVec.toInt_eq_toNat_cond, h3]
  have h6 : (2 : Nat) ^ 31 = 2147483648 := by decide
  split <;> omega
theorem shlp {y : Int32} {a : Int} (hy : y.toInt = a) (h : 0 ≤ a ∧ a ≤ 30) : 1 ≤ ((1 : Int32) <<< (y &&& 31)).toInt := by
  have hz : ∃ k : Nat, k ≤ 30 ∧ y = nI k := ⟨a.toNat, by omega, Int32.toInt_inj.mp (by rw [hy, nI_toInt (by omega)]; omega)⟩
  obtain ⟨k, hk, rfl⟩ := hz
  have hd : ∀ k, k ≤ 30 → 1 ≤ ((1 : Int32) <<< (nI k &&& 31)).toInt := by decide +kernel
  exact hd k hk
theorem xori {x y : Int32} {a b : Int} (hx : x.toInt = a) (hy : y.toInt = b) (ha : 0 ≤ a) (hb : 0 ≤ b) : 0 ≤ (x ^^^ y).toInt := by
  have r1 := i32 x
  have r2 := i32 y
  have h1 := ti_nat (x := x) (k := a.toNat) (by omega) (by omega)
  have h2 := ti_nat (x := y) (k := b.toNat) (by omega) (by omega)
  have h3 : (x ^^^ y).toBitVec.toNat = a.toNat ^^^ b.toNat := by
    rw [Int32.toBitVec_xor, BitVec.toNat_xor, h1, h2]
  have h4 : a.toNat ^^^ b.toNat < 2 ^ 31 := Nat.xor_lt_two_pow (by omega) (by omega)
  have h5 : (x ^^^ y).toInt = (x ^^^ y).toBitVec.toInt := rfl
  rw [h5, BitVec.toInt_eq_toNat_cond, h3]
  have h6 : (2 : Nat) ^ 31 = 2147483648 := by decide
  split <;> omega
end PT3x0
section PT3x1
/-! facts of given cells -/
theorem io9_112_1_11 : isO 112 1 11 = true := rfl
theorem io9_112_3_6 : isO 112 3 6 = true := rfl
theorem io9_112_35_7 : isO 112 35 7 = true := rfl
theorem io9_112_39_8 : isO 112 39 8 = true := rfl
theorem io9_112_42_5 : isO 112 42 5 = true := rfl
theorem io9_112_45_9 : isO 112 45 9 = true := rfl
theorem io9_112_49_4 : isO 112 49 4 = true := rfl
theorem io9_112_51_4 : isO 112 51 4 = true := rfl
theorem io9_112_6_1 : isO 112 6 1 = true := rfl
theorem io9_112_7_3 : isO 112 7 3 = true := rfl
theorem io9_112_97_12 : isO 112 97 12 = true := rfl
theorem bd9_0_1 : bnd 0 1 = none := rfl
theorem bd9_0_2 : bnd 0 2 = none := rfl
theorem bd9_0_3 : bnd 0 3 = none := rfl
theorem bd9_0_4 : bnd 0 4 = some (0, 6) := rfl
theorem bd9_1_0 : bnd 1 0 = some (0, 1) := rfl
theorem bd9_1_1 : bnd 1 1 = some (0, 1) := rfl
theorem bd9_1_2 : bnd 1 2 = none := rfl
theorem bd9_10_0 : bnd 10 0 = none := rfl
theorem bd9_10_1 : bnd 10 1 = some (-1, 60) := rfl
theorem bd9_11_0 : bnd 11 0 = none := rfl
theorem bd9_11_13 : bnd 11 13 = some (0, 3) := rfl
theorem bd9_12_0 : bnd 12 0 = none := rfl
theorem bd9_12_1 : bnd 12 1 = none := rfl
theorem bd9_12_10 : bnd 12 10 = none := rfl
theorem bd9_12_11 : bnd 12 11 = none := rfl
theorem bd9_12_12 : bnd 12 12 = some (0, 7) := rfl
theorem bd9_12_13 : bnd 12 13 = none := rfl
theorem bd9_12_14 : bnd 12 14 = some (0, 4) := rfl
theorem bd9_12_15 : bnd 12 15 = some (0, 900) := rfl
theorem bd9_12_16 : bnd 12 16 = some (0, 900) := rfl
theorem bd9_12_17 : bnd 12 17 = none := rfl
theorem bd9_12_18 : bnd 12 18 = none := rfl
theorem bd9_12_23 : bnd 12 23 = some (0, 3) := rfl
theorem bd9_12_24 : bnd 12 24 = some (0, 1) := rfl
theorem bd9_12_25 : bnd 12 25 = some (0, 1) := rfl
theorem bd9_12_26 : bnd 12 26 = none := rfl
theorem bd9_12_27 : bnd 12 27 = some (0, 30) := rfl
theorem bd9_12_31 : bnd 12 31 = none := rfl
theorem bd9_12_32 : bnd 12 32 = none := rfl
theorem bd9_12_33 : bnd 12 33 = none := rfl
theorem bd9_12_34 : bnd 12 34 = none := rfl
theorem bd9_12_40 : bnd 12 40 = some (0, 1) := rfl
theorem bd9_12_41 : bnd 12 41 = some (0, 1) := rfl
theorem bd9_12_42 : bnd 12 42 = some (0, 65535) := rfl
theorem bd9_12_43 : bnd 12 43 = some (0, 300) := rfl
theorem bd9_12_44 : bnd 12 44 = none := rfl
theorem bd9_12_45 : bnd 12 45 = none := rfl
theorem bd9_12_46 : bnd 12 46 = none := rfl
theorem bd9_12_47 : bnd 12 47 = none := rfl
theorem bd9_12_48 : bnd 12 48 = none := rfl
theorem bd9_12_8 : bnd 12 8 = some (0, 900) := rfl
theorem bd9_12_9 : bnd 12 9 = some (0, 900) := rfl
theorem bd9_2_0 : bnd 2 0 = some (0, 1) := rfl
theorem bd9_2_1 : bnd 2 1 = none := rfl
theorem bd9_2_2 : bnd 2 2 = some (0, 60) := rfl
theorem bd9_3_1 : bnd 3 1 = some (0, 3) := rfl
theorem bd9_4_0 : bnd 4 0 = some (0, 1) := rfl
theorem bd9_4_1 : bnd 4 1 = none := rfl
theorem bd9_4_2 : bnd 4 2 = none := rfl
theorem bd9_4_3 : bnd 4 3 = none := rfl
theorem bd9_4_4 : bnd 4 4 = none := rfl
theorem bd9_4_5 : bnd 4 5 = none := rfl
theorem bd9_4_6 : bnd 4 6 = none := rfl
theorem bd9_4_7 : bnd 4 7 = none := rfl
theorem bd9_5_2 : bnd 5 2 = some (0, 31) := rfl
theorem bd9_6_1 : bnd 6 1 = some (0, 900) := rfl
theorem bd9_6_11 : bnd 6 11 = none := rfl
theorem bd9_6_12 : bnd 6 12 = none := rfl
theorem bd9_6_13 : bnd 6 13 = none := rfl
theorem bd9_6_3 : bnd 6 3 = some (0, 1) := rfl
theorem bd9_6_4 : bnd 6 4 = some (0, 900) := rfl
theorem bd9_6_5 : bnd 6 5 = some (0, 900) := rfl
theorem bd9_6_6 : bnd 6 6 = some (0, 900) := rfl
theorem bd9_6_7 : bnd 6 7 = none := rfl
theorem bd9_6_8 : bnd 6 8 = none := rfl
theorem bd9_6_9 : bnd 6 9 = none := rfl
theorem bd9_7_0 : bnd 7 0 = none := rfl
theorem bd9_7_1 : bnd 7 1 = none := rfl
theorem bd9_7_2 : bnd 7 2 = some (0, 5) := rfl
theorem bd9_7_5 : bnd 7 5 = some (0, 5) := rfl
theorem bd9_7_6 : bnd 7 6 = none := rfl
theorem bd9_8_2 : bnd 8 2 = some (0, 8) := rfl
theorem bd9_9_1 : bnd 9 1 = some (0, 12) := rfl
end PT3x1
section PT3x2
/-! printed by fa.py: where the arrays of an object lie; what the references are -/
theorem fa_0_0 {o : Nat} (h : isO 112 o 0 = true) : isA 112 (o + 1) 0 = true ∧ aL (o + 1) = 31 ∧ bna (o + 1) = none := by
  have h2 : ∀ o, o < 113 → isO 112 o 0 = true → (isA 112 (o + 1) 0 = true ∧ aL (o + 1) = 31 ∧ bna (o + 1) = none) := by decide +kernel
  exact h2 o (by have := (isO_spec h).2.1; omega) h
theorem fa_0_5 {o : Nat} (h : isO 112 o 0 = true) : isA 112 (o + 2) 1 = true ∧ aL (o + 2) = 6 ∧ bna (o + 2) = none := by
  have h2 : ∀ o, o < 113 → isO 112 o 0 = true → (isA 112 (o + 2) 1 = true ∧ aL (o + 2) = 6 ∧ bna (o + 2) = none) := by decide +kernel
  exact h2 o (by have := (isO_spec h).2.1; omega) h
theorem fa_0_6 {o : Nat} (h : isO 112 o 0 = true) : isA 112 (o + 3) 0 = true ∧ aL (o + 3) = 6 ∧ bna (o + 3) = none := by
  have h2 : ∀ o, o < 113 → isO 112 o 0 = true → (isA 112 (o + 3) 0 = true ∧ aL (o + 3) = 6 ∧ bna (o + 3) = none) := by decide +kernel
  exact h2 o (by have := (isO_spec h).2.1; omega) h
theorem fa_0_7 {o : Nat} (h : isO 112 o 0 = true) : isA 112 (o + 4) 0 = true ∧ aL (o + 4) = 6 ∧ bna (o + 4) = none := by
  have h2 : ∀ o, o < 113 → isO 112 o 0 = true → (isA 112 (o + 4) 0 = true ∧ aL (o + 4) = 6 ∧ bna (o + 4) = none) := by decide +kernel
  exact h2 o (by have := (isO_spec h).2.1; omega) h
theorem fa_0_8 {o : Nat} (h : isO 112 o 0 = true) : isA 112 (o + 5) 0 = true ∧ aL (o + 5) = 6 ∧ bna (o + 5) = none := by
  have h2 : ∀ o, o < 113 → isO 112 o 0 = true → (isA 112 (o + 5) 0 = true ∧ aL (o + 5) = 6 ∧ bna (o + 5) = none) := by decide +kernel
  exact h2 o (by have := (isO_spec h).2.1; omega) h
theorem fa_2_3 {o : Nat} (h : isO 112 o 2 = true) : isA 112 (o + 1) 0 = true ∧ aL (o + 1) = 60 ∧ bna (o + 1) = none := by
  have h2 : ∀ o, o < 113 → isO 112 o 2 = true → (isA 112 (o + 1) 0 = true ∧ aL (o + 1) = 60 ∧ bna (o + 1) = none) := by decide +kernel
  exact h2 o (by have := (isO_spec h).2.1; omega) h
theorem fa_2_4 {o : Nat} (h : isO 112 o 2 = true) : isA 112 (o + 2) 0 = true ∧ aL (o + 2) = 60 ∧ bna (o + 2) = none := by
  have h2 : ∀ o, o < 113 → isO 112 o 2 = true → (isA 112 (o + 2) 0 = true ∧ aL (o + 2) = 60 ∧ bna (o + 2) = none) := by decide +kernel
  exact h2 o (by have := (isO_spec h).2.1; omega) h
theorem fa_2_5 {o : Nat} (h : isO 112 o 2 = true) : isA 112 (o + 3) 0 = true ∧ aL (o + 3) = 60 ∧ bna (o + 3) = none := by
  have h2 : ∀ o, o < 113 → isO 112 o 2 = true → (isA 112 (o + 3) 0 = true ∧ aL (o + 3) = 60 ∧ bna (o + 3) = none) := by decide +kernel
  exact h2 o (by have := (isO_spec h).2.1; omega) h
theorem fa_2_6 {o : Nat} (h : isO 112 o 2 = true) : isA 112 (o + 4) 0 = true ∧ aL (o + 4) = 60 ∧ bna (o + 4) = none := by
  have h2 : ∀ o, o < 113 → isO 112 o 2 = true → (isA 112 (o + 4) 0 = true ∧ aL (o + 4) = 60 ∧ bna (o + 4) = none) := by decide +kernel
  exact h2 o (by have := (isO_spec h).2.1; omega) h
theorem fa_2_7 {o : Nat} (h : isO 112 o 2 = true) : isA 112 (o + 5) 0 = true ∧ aL (o + 5) = 60 ∧ bna (o + 5) = none := by
  have h2 : ∀ o, o < 113 → isO 112 o 2 = true → (isA 112 (o + 5) 0 = true ∧ aL (o + 5) = 60 ∧ bna (o + 5) = none) := by decide +kernel
  exact h2 o (by have := (isO_spec h).2.1; omega) h
theorem fa_4_8 {o : Nat} (h : isO 112 o 4 = true) : isA 112 (o + 1) 0 = true ∧ aL (o + 1) = 60 ∧ bna (o + 1) = none := by
  have h2 : ∀ o, o < 113 → isO 112 o 4 = true → (isA 112 (o + 1) 0 = true ∧ aL (o + 1) = 60 ∧ bna (o + 1) = none) := by decide +kernel
  exact h2 o (by have := (isO_spec h).2.1; omega) h
theorem fa_10_2 {o : Nat} (h : isO 112 o 10 = true) : isA 112 (o + 1) 1 = true ∧ aL (o + 1) = 60 ∧ bna (o + 1) = none := by
  have h2 : ∀ o, o < 113 → isO 112 o 10 = true → (isA 112 (o + 1) 1 = true ∧ aL (o + 1) = 60 ∧ bna (o + 1) = none) := by decide +kernel
  exact h2 o (by have := (isO_spec h).2.1; omega) h
/-- where the bakeries and the days lie -/
noncomputable def RP (R : Rm) : Prop := ((R 1 7 = 9 ∧ R 1 8 = 15) ∨ (R 1 7 = 15 ∧ R 1 8 = 9)) ∧ ((R 1 9 = 21 ∧ R 1 10 = 27) ∨ (R 1 9 = 27 ∧ R 1 10 = 21)) ∧ (∀ j, j < 3 → R 33 j = 61 + 12 * j) ∧ ∀ j, j < 3 → R 34 j = 67 + 12 * j
/-- what the references are: two bakeries, two plans at hand, four trays, three of each kept -/
noncomputable def RI (R : Rm) : Prop := (isO 112 (R 1 7) 0 = true ∧ ¬ R 1 7 = 0) ∧ (isO 112 (R 1 8) 0 = true ∧ ¬ R 1 8 = 0) ∧ (isO 112 (R 1 9) 2 = true ∧ ¬ R 1 9 = 0) ∧ (isO 112 (R 1 10) 2 = true ∧ ¬ R 1 10 = 0) ∧
  (∀ j, j < 4 → (¬ R 2 j = 0 ∧ isO 112 (R 2 j) 10 = true)) ∧ (∀ j, j < 3 → (¬ R 33 j = 0 ∧ isO 112 (R 33 j) 0 = true)) ∧ (∀ j, j < 3 → (¬ R 34 j = 0 ∧ isO 112 (R 34 j) 2 = true)) ∧ (∀ j, j < 4 → R 2 j = 53 + 2 * j) ∧ RP R
theorem RI.now {R : Rm} (h : RI R) : isO 112 (R 1 7) 0 = true ∧ ¬ R 1 7 = 0 := h.1
theorem RI.spare {R : Rm} (h : RI R) : isO 112 (R 1 8) 0 = true ∧ ¬ R 1 8 = 0 := h.2.1
theorem RI.plan {R : Rm} (h : RI R) : isO 112 (R 1 9) 2 = true ∧ ¬ R 1 9 = 0 := h.2.2.1
theorem RI.splan {R : Rm} (h : RI R) : isO 112 (R 1 10) 2 = true ∧ ¬ R 1 10 = 0 := h.2.2.2.1
theorem RI.tray {R : Rm} (h : RI R) (j : Nat) (hj : (j : Int) < 4) : ¬ R 2 j = 0 ∧ isO 112 (R 2 j) 10 = true := h.2.2.2.2.1 j (by omega)
theorem RI.kb {R : Rm} (h : RI R) (j : Nat) (hj : (j : Int) < 3) : ¬ R 33 j = 0 ∧ isO 112 (R 33 j) 0 = true := h.2.2.2.2.2.1 j (by omega)
theorem RI.kd {R : Rm} (h : RI R) (j : Nat) (hj : (j : Int) < 3) : ¬ R 34 j = 0 ∧ isO 112 (R 34 j) 2 = true := h.2.2.2.2.2.2.1 j (by omega)
theorem RI.tr {R : Rm} (h : RI R) (j : Nat) (hj : j < 4) : R 2 j = 53 + 2 * j := h.2.2.2.2.2.2.2.1 j hj
theorem RI.rp {R : Rm} (h : RI R) : RP R := h.2.2.2.2.2.2.2.2
end PT3x2
section PT3x3
/-! ===== Arrays.fill ===== -/
theorem bif_tF {b : Bool} {X Y : Prop} (h : b = true) (x : X) : bif b then X else Y := by rw [h]; exact x
theorem ofNat_ti {n : Nat} (h : n ≤ 4096) : (Int32.ofNat n).toInt = n := nI_toInt (by omega)
theorem sp_J7_fill_d0a16 {d : Nat} {Q : Qt} {v0 : Nat} {v1 : Int64} {I : Im} {J : Jm} {R : Rm} (hB0 : Bd I) (hR0 : RI R) (ha : isA 112 v0 1 = true) (hQ : ∀ (x : Int32) (y : Int64) (I2 : Im) (J2 : Jm), Bd I2 → I2 = I → Q x y I2 J2 R) : AM (d + 1) 320 112 [.ref v0, .long v1] I J R Q := by
  have hn : isA 112 v0 0 = false := by
    cases h : isA 112 v0 0 with
    | false => rfl
    | true => have h1 := (isA_spec h).2.2; have h2 := (isA_spec ha).2.2; omega
  refine am_J7_fill_d0a16 (fun P hc => ?_)
  have hle := aL_le v0
  have L : ∀ n : Nat, ∀ (v3 : Int32) (J : Jm), 0 ≤ v3.toInt ∧ v3.toInt ≤ aL v0 → (aL v0 : Int) - v3.toInt < (n : Int) → P 6 112 [(0, .ref v0), (1, .long v1), (3, .int v3), (4, .int (Int32.ofNat (aL v0)))] [] I J R := by
    intro n
    induction n with
    | zero => exact fun v3 J hi hm => absurd hm (by omega)
    | succ n ih =>
      intro v3 J hi hm
      refine sg_J7_fill_d0a16_6 hc _ _ _ _ _ _ _ ?_
      refine ⟨fun c1 => ?_, fun c1 => ?_⟩
      · exact hQ _ _ _ _ hB0 rfl
      · have d1 := ci_nle (ofNat_ti hle) rfl c1
        refine bif_t ha ?_
        refine ⟨vp_of rfl hi.1 d1, ?_⟩
        have e1 : (v3 + 1 : Int32).toInt = v3.toInt + 1 := ti_add rfl rfl (by omega)
        exact ih _ _ (by omega) (by omega)
  refine sg_J7_fill_d0a16_0 hc _ _ _ _ _ ?_
  rw [hn]
  refine bif_t ha ?_
  exact L 5000 _ _ (by have h0 : (0 : Int32).toInt = 0 := rfl; omega) (by have h0 : (0 : Int32).toInt = 0 := rfl; omega)
theorem sp_J7_fill_53178 {d : Nat} {Q : Qt} {v0 : Nat} {v1 : Int32} {I : Im} {J : Jm} {R : Rm} (hB0 : Bd I) (hR0 : RI R) (ha : isA 112 v0 0 = true) (hna : bna v0 = none) (hQ : ∀ (x : Int32) (y : Int64) (I2 : Im) (J2 : Jm), Bd I2 → (∀ i, i ≠ v0 → I2 i = I i) → Q x y I2 J2 R) : AM (d + 1) 321 112 [.ref v0, .int v1] I J R Q := by
  refine am_J7_fill_53178 (fun P hc => ?_)
  have hle := aL_le v0
  have L : ∀ n : Nat, ∀ (v3 : Int32) (I1 : Im), Bd I1 → (∀ i, i ≠ v0 → I1 i = I i) → 0 ≤ v3.toInt ∧ v3.toInt ≤ aL v0 → (aL v0 : Int) - v3.toInt < (n : Int) → P 5 112 [(0, .ref v0), (1, .int v1), (2, .int v3), (3, .int (Int32.ofNat (aL v0)))] [] I1 J R := by
    intro n
    induction n with
    | zero => exact fun v3 I1 hB hI hi hm => absurd hm (by omega)
    | succ n ih =>
      intro v3 I1 hB hI hi hm
      refine sg_J7_fill_53178_5 hc _ _ _ _ _ _ _ ?_
      refine ⟨fun c1 => ?_, fun c1 => ?_⟩
      · exact hQ _ _ _ _ hB hI
      · have d1 := ci_nle (ofNat_ti hle) rfl c1
        refine bif_t ha ?_
        refine ⟨vp_of rfl hi.1 d1, ?_⟩
        have e1 : (v3 + 1 : Int32).toInt = v3.toInt + 1 := ti_add rfl rfl (by omega)
        exact ih _ _ (Bd.a0 hB ha hna) (fun i hi2 => by rw [uI_ne hi2]; exact hI i hi2) (by omega) (by omega)
  refine sg_J7_fill_53178_0 hc _ _ _ _ _ ?_
  refine bif_tF ha ?_
  exact L 5000 _ _ hB0 (fun _ _ => rfl) (by have h0 : (0 : Int32).toInt = 0 := rfl; omega) (by have h0 : (0 : Int32).toInt = 0 := rfl; omega)
end PT3x3
section PT3x4
/-! ===== methods that write nothing ===== -/
noncomputable def pureE (pl : List Nat) (i : Jvm.ClassFile.Instr) (ax : List Nat) : Bool := match i with
  | .new _ => false
  | .newarray _ => false
  | .anewarray _ => false
  | .putfield _ => false
  | .iastore => false
  | .bastore => false
  | .lastore => false
  | .aastore => false
  | .invokevirtual _ => match ax with
    | [_, mi, _, _, _, _, _, _] => pl.elem mi
    | _ => true
  | .invokestatic _ => match ax with
    | [_, mi, _, _, _, _, _, _] => pl.elem mi
    | [kind, _] => Nat.ble 6 kind
    | _ => true
  | .invokespecial _ => match ax with
    | [_, mi, _, _, _, _, _, _] => pl.elem mi
    | _ => true
  | _ => true
noncomputable def Mkp (pl : List Nat) (M : Mc) : Prop := ∀ (mi n : Nat) (as : List Value) (I : Im) (J : Jm) (R : Rm) (Q : Qt), pl.elem mi = true → M mi n as I J R Q → M mi n as I J R (fun x y I' J' R' => I' = I ∧ J' = J ∧ R' = R ∧ Q x y I' J' R')
theorem cal_p {M : Mc} (hM : Mono M) {pl : List Nat} (hMp : Mkp pl M) {ph : Bool} {nend n : Nat} {I : Im} {J : Jm} {R : Rm} {K K' : Kt} (hK : ∀ pc n lv st, K pc n lv st I J R → K' pc n lv st I J R) {pc : Nat} {lv : Lv} {st : List Value} {kind mi na rk al ci ph1 kr : Nat} (hk : pl.elem mi = true) (h : cal M ph nend K pc n lv st I J R kind mi na rk al ci ph1 kr) : cal M ph nend K' pc n lv st I J R kind mi na rk al ci ph1 kr := by
  have key : M mi n (st.take na).reverse I J R (fun x y I' J' R' => bf rk x (K (pc + 3) (n + al) lv (psh rk x y (st.drop na)) I' J' (bif Nat.beq kr 1 then R else R'))) → M mi n (st.take na).reverse I J R (fun x y I' J' R' => bf rk x (K' (pc + 3) (n + al) lv (psh rk x y (st.drop na)) I' J' (bif Nat.beq kr 1 then R else R'))) := fun q => hM _ _ _ _ _ _ _ _ (fun x y I' J' R' w => by
    obtain ⟨rfl, rfl, rfl, w⟩ := w
    have e : (bif Nat.beq kr 1 then R' else R') = R' := by cases Nat.beq kr 1 <;> rfl
    rw [e] at w ⊢
    exact bf_m (hK _ _ _ _) w) (hMp mi n _ I J R _ hk q)
  exact cond_m (cond_m (and_m key) key) id h
set_option maxHeartbeats 4000000 in
theorem stI_p {M : Mc} (hM : Mono M) {pl : List Nat} (hMp : Mkp pl M) {ph isl : Bool} {L : Nat} {xs : Nat → Int32} {rk nend n : Nat} {I : Im} {J : Jm} {R : Rm} {Q Q' : Nat → Qt} (hQ : ∀ n x y, Q n x y I J R → Q' n x y I J R) {K K' : Kt} (hK : ∀ pc n lv st, K pc n lv st I J R → K' pc n lv st I J R) {pc : Nat} {ax : List Nat} {ks : List Int32} {lz : Int64} {lv : Lv} {st : List Value} (i : Jvm.ClassFile.Instr) (hk : pureE pl i ax = true) (h : stI M ph isl L xs rk nend Q K pc ax ks lz n lv st I J R i) : stI M ph isl L xs rk nend Q' K' pc ax ks lz n lv st I J R i := by
  have k0 : ∀ {pc n lv st}, K pc n lv st I J R → K' pc n lv st I J R := fun h => hK _ _ _ _ h
  cases i with
  | iconst _ =>
    exact k0 h
  | bipush _ =>
    exact k0 h
  | sipush _ =>
    exact k0 h
  | ldc _ =>
    exact k0 h
  | ldc_w _ =>
    exact k0 h
  | ldc2_w _ =>
    exact k0 h
  | lconst _ =>
    exact k0 h
  | goto _ =>
    exact k0 h
  | iload_n _ =>
    exact lI_m (fun x => k0) h
  | iload _ =>
    exact lI_m (fun x => k0) h
  | lload_n _ =>
    exact lL_m (fun x => k0) h
  | lload _ =>
    exact lL_m (fun x => k0) h
  | aload_n _ =>
    exact lR_m (fun x => k0) h
  | aload _ =>
    exact lR_m (fun x => k0) h
  | istore_n _ =>
    exact sI_m (fun x r => k0) h
  | istore _ =>
    exact sI_m (fun x r => k0) h
  | lstore_n _ =>
    exact sL_m (fun x r => k0) h
  | lstore _ =>
    exact sL_m (fun x r => k0) h
  | astore_n _ =>
    exact sR_m (fun x r => k0) h
  | astore _ =>
    exact sR_m (fun x r => k0) h
  | iinc _ _ =>
    exact lI_m (fun x => k0) h
  | iadd =>
    exact sII_m (fun x y r => k0) h
  | isub =>
    exact sII_m (fun x y r => k0) h
  | imul =>
    exact sII_m (fun x y r => k0) h
  | iand =>
    exact sII_m (fun x y r => k0) h
  | ior =>
    exact sII_m (fun x y r => k0) h
  | ixor =>
    exact sII_m (fun x y r => k0) h
  | ishl =>
    exact sII_m (fun x y r => k0) h
  | ishr =>
    exact sII_m (fun x y r => k0) h
  | iushr =>
    exact sII_m (fun x y r => k0) h
  | idiv =>
    exact sII_m (fun x y r => and_m k0) h
  | irem =>
    exact sII_m (fun x y r => and_m k0) h
  | ladd =>
    exact sLL_m (fun x y r => k0) h
  | lsub =>
    exact sLL_m (fun x y r => k0) h
  | lmul =>
    exact sLL_m (fun x y r => k0) h
  | land =>
    exact sLL_m (fun x y r => k0) h
  | lor =>
    exact sLL_m (fun x y r => k0) h
  | lcmp =>
    exact sLL_m (fun x y r => k0) h
  | ldiv =>
    exact sLL_m (fun x y r => and_m k0) h
  | lrem =>
    exact sLL_m (fun x y r => and_m k0) h
  | lneg =>
    exact sL_m (fun x r => k0) h
  | l2i =>
    exact sL_m (fun x r => k0) h
  | pop2 =>
    exact sL_m (fun x r => k0) h
  | lshl =>
    exact sLI_m (fun x y r => k0) h
  | i2l =>
    exact sI_m (fun x r => k0) h
  | i2b =>
    exact sI_m (fun x r => k0) h
  | i2s =>
    exact sI_m (fun x r => k0) h
  | dup =>
    unfold stI at h ⊢
    dsimp only at h ⊢
    split at h
    · exact k0 h
    · exact k0 h
    · exact h.elim
  | pop =>
    unfold stI at h ⊢
    dsimp only at h ⊢
    split at h
    · exact k0 h
    · exact k0 h
    · exact h.elim
  | dup2 =>
    unfold stI at h ⊢
    dsimp only at h ⊢
    split at h
    · exact k0 h
    · exact h.elim
  | ifCond _ _ =>
    exact sI_m (fun x r => icz_m k0 k0) h
  | if_icmp _ _ =>
    exact sII_m (fun x y r => icc_m k0 k0) h
  | tableswitch _ _ _ _ =>
    exact sI_m (fun x r => swT_m (fun t => k0) k0 _ _ _) h
  | lookupswitch _ _ =>
    exact sI_m (fun x r => swT_m (fun t => k0) k0 _ _ _) h
  | getfield _ =>
    unfold stI at h ⊢
    dsimp only at h ⊢
    split at h
    · exact fgt_m (fun r => k0) h
    · exact h.elim
  | putfield _ =>
    cases hk
  | iaload =>
    exact sRI_m (fun a x r => cond_m (and_m k0) (cond_m (and_m k0) id)) h
  | baload =>
    exact sRI_m (fun a x r => cond_m (and_m k0) id) h
  | laload =>
    exact sRI_m (fun a x r => cond_m (and_m k0) id) h
  | aaload =>
    unfold stI at h ⊢
    dsimp only at h ⊢
    split at h
    · exact sRI_m (fun a x r => cond_m (and_m (and_m k0)) id) h
    · exact h.elim
  | iastore =>
    cases hk
  | bastore =>
    cases hk
  | lastore =>
    cases hk
  | aastore =>
    cases hk
  | arraylength =>
    exact sR_m (fun a r => cond_m k0 (cond_m k0 (cond_m k0 id))) h
  | new _ =>
    cases hk
  | newarray _ =>
    cases hk
  | anewarray _ =>
    cases hk
  | invokevirtual _ =>
    unfold stI at h ⊢
    dsimp only at h ⊢
    split at h
    · exact cond_m (cal_p hM hMp hK hk) id h
    · exact h.elim
  | invokespecial _ =>
    unfold stI at h ⊢
    dsimp only at h ⊢
    split at h
    · exact cond_m (cal_p hM hMp hK hk) id h
    · exact sR_m (fun a r => cond_m k0 id) h
    · exact h.elim
  | invokestatic _ =>
    unfold stI at h ⊢
    dsimp only at h ⊢
    split at h
    · exact cond_m (cal_p hM hMp hK hk) id h
    · try dsimp only at h ⊢
      split at h
      · exact Bool.noConfusion (show false = true from hk)
      · exact Bool.noConfusion (show false = true from hk)
      · exact sII_m (fun x y r => cond_m k0 id) h
      · exact sII_m (fun x y r => cond_m k0 id) h
      · exact sL_m (fun x r => cond_m k0 id) h
      · exact h.elim
    · exact h.elim
  | return_ =>
    refine cond_m (fun h => ?_) id h
    try dsimp only at h ⊢
    split at h
    · exact hQ _ _ _ h
    · exact h.elim
  | lreturn =>
    refine cond_m (fun h => ?_) id h
    try dsimp only at h ⊢
    split at h
    · exact hQ _ _ _ h
    · exact h.elim
  | ireturn =>
    refine cond_m (fun h => ?_) (cond_m (fun h => ?_) id) h
    · try dsimp only at h ⊢
      split at h
      · exact hQ _ _ _ h
      · exact h.elim
    · try dsimp only at h ⊢
      split at h
      · exact ⟨h.1, hQ _ _ _ h.2⟩
      · exact h.elim
  | _ => exact h.elim
theorem AW_p {M : Mc} (hM : Mono M) {pl : List Nat} (hMp : Mkp pl M) {ph isl : Bool} {L : Nat} {xs : Nat → Int32} {rk nend : Nat} {code : List En} (hk : ∀ e ∈ code, pureE pl e.2.1 e.2.2.2.1 = true) {Q : Nat → Qt} {pc n : Nat} {lv : Lv} {st : List Value} {I : Im} {J : Jm} {R : Rm} (h : AW M ph isl L xs rk nend code Q pc n lv st I J R) : AW M ph isl L xs rk nend code (fun n' x y I' J' R' => I' = I ∧ J' = J ∧ R' = R ∧ Q n' x y I' J' R') pc n lv st I J R := by
  intro P hP
  refine h (fun pc n' lv st I' J' R' => I' = I → J' = J → R' = R → P pc n' lv st I' J' R') ⟨fun e he n' lv st I' J' R' hs h1 h2 h3 => ?_, fun pc n' ks lv st I' J' R' q h1 h2 h3 => hP.2 _ _ ks _ _ _ _ _ (q h1 h2 h3)⟩ rfl rfl rfl
  subst h1
  subst h2
  subst h3
  exact hP.1 e he _ lv st _ _ _ (stI_p hM hMp (fun n x y q => ⟨rfl, rfl, rfl, q⟩) (fun pc n lv st q => q rfl rfl rfl) e.2.1 (hk e he) hs)
noncomputable def PuT (pl : List Nat) : Prop := ∀ mi, pl.elem mi = true → Nat.beq mi mReader = false ∧ (mQ mi).1.all (fun e => pureE pl e.2.1 e.2.2.2.1) = true
theorem PuT.of {pl : List Nat} (h : pl.all (fun mi => !Nat.beq mi mReader && (mQ mi).1.all (fun e => pureE pl e.2.1 e.2.2.2.1)) = true) : PuT pl := by
  intro mi hm
  have h1 := List.all_eq_true.mp h mi (List.elem_iff.mp hm)
  simp only [Bool.and_eq_true, Bool.not_eq_true'] at h1
  exact h1
theorem AM_p {pl : List Nat} (hp : PuT pl) : ∀ d, Mkp pl (AM d) := by
  intro d
  induction d with
  | zero => intro mi n as I J R Q hd h; exact h.elim
  | succ d ih =>
    intro mi n as I J R Q hd h
    obtain ⟨c1, c2⟩ := hp mi hd
    unfold AM at h ⊢
    rw [c1] at h ⊢
    exact ⟨h.1, AW_m (AM_m d) (fun n x y I' J' R' q => ⟨q.2.2.2.1, q.2.2.2.2.1, q.1, q.2.1, q.2.2.1, q.2.2.2.2.2⟩) (AW_p (AM_m d) ih (List.all_eq_true.mp c2) h.2)⟩
end PT3x4
section PT3x5
/-! ===== what is not written stays: places of ints, whole arrays ===== -/
noncomputable def kvO (bad : Nat → Bool) (v : Value) : Prop := ∀ a, v = .ref a → bad a = false
noncomputable def kvS (bad : Nat → Bool) (st : List Value) : Prop := ∀ v ∈ st, kvO bad v
noncomputable def kvL (bad : Nat → Bool) (lv : Lv) : Prop := ∀ q ∈ lv, kvO bad q.2
section KVG
variable {bad : Nat → Bool} {st r : List Value} {v : Value} {lv : Lv}
theorem kvO.i {x : Int32} : kvO bad (.int x) := fun _ h => by cases h
theorem kvO.l {x : Int64} : kvO bad (.long x) := fun _ h => by cases h
theorem kvO.rf {a : Nat} (h : bad a = false) : kvO bad (.ref a) := fun b e => by cases e; exact h
theorem kvS.n : kvS bad [] := fun _ h => by cases h
theorem kvS.c (h : kvO bad v) (hr : kvS bad r) : kvS bad (v :: r) := fun w hw => by
  rcases List.mem_cons.mp hw with rfl | hw
  · exact h
  · exact hr w hw
theorem kvS.t (h : kvS bad (v :: r)) : kvS bad r := fun w hw => h w (List.mem_cons_of_mem _ hw)
theorem kvS.a (h : kvS bad (v :: r)) : kvO bad v := h v List.mem_cons_self
theorem kvL.g {i a : Nat} (h : kvL bad lv) (e : lgt lv i = .ref a) : bad a = false := h (i, .ref a) (lgt_mem e (by intro q; cases q)) a rfl
theorem kvL.p {i : Nat} (h : kvL bad lv) (hv : kvO bad v) : kvL bad (lpt lv i v) := fun q hq => by
  rcases List.mem_cons.mp hq with rfl | hq
  · exact hv
  · exact h q (List.mem_filter.mp hq).1
theorem kvL.p2 {i : Nat} (h : kvL bad lv) (hv : kvO bad v) : kvL bad (lpt2 lv i v) := fun q hq => by
  rcases List.mem_cons.mp hq with rfl | hq
  · exact hv
  · exact h q (List.mem_filter.mp hq).1
theorem kvL.k {ks : List Nat} (h : kvL bad lv) : kvL bad (pk ks lv) := fun q hq => h q (pk_mem hq)
theorem kvL.args : ∀ (as : List Value) (k : Nat), kvS bad as → kvL bad (lv_args k as) := by
  intro as
  induction as with
  | nil => intro k _ q hq; cases hq
  | cons v r ih =>
    intro k h q hq
    rcases List.mem_cons.mp hq with rfl | hq
    · exact h.a
    · exact ih _ h.t q hq
theorem sI_g {f g : Int32 → List Value → Prop} (hs : kvS bad st) (hm : ∀ x r, kvS bad r → f x r → g x r) (h : sI st f) : sI st g := by
  unfold sI at h ⊢
  split at h
  · exact hm _ _ hs.t h
  · exact h.elim
theorem sII_g {f g : Int32 → Int32 → List Value → Prop} (hs : kvS bad st) (hm : ∀ x y r, kvS bad r → f x y r → g x y r) (h : sII st f) : sII st g := by
  unfold sII at h ⊢
  split at h
  · exact hm _ _ _ hs.t.t h
  · exact h.elim
theorem sL_g {f g : Int64 → List Value → Prop} (hs : kvS bad st) (hm : ∀ x r, kvS bad r → f x r → g x r) (h : sL st f) : sL st g := by
  unfold sL at h ⊢
  split at h
  · exact hm _ _ hs.t h
  · exact h.elim
theorem sLL_g {f g : Int64 → Int64 → List Value → Prop} (hs : kvS bad st) (hm : ∀ x y r, kvS bad r → f x y r → g x y r) (h : sLL st f) : sLL st g := by
  unfold sLL at h ⊢
  split at h
  · exact hm _ _ _ hs.t.t h
  · exact h.elim
theorem sLI_g {f g : Int64 → Int32 → List Value → Prop} (hs : kvS bad st) (hm : ∀ x y r, kvS bad r → f x y r → g x y r) (h : sLI st f) : sLI st g := by
  unfold sLI at h ⊢
  split at h
  · exact hm _ _ _ hs.t.t h
  · exact h.elim
theorem sR_g {f g : Nat → List Value → Prop} (hs : kvS bad st) (hm : ∀ a r, bad a = false → kvS bad r → f a r → g a r) (h : sR st f) : sR st g := by
  unfold sR at h ⊢
  split at h
  · exact hm _ _ (hs.a _ rfl) hs.t h
  · exact h.elim
theorem sRI_g {f g : Nat → Int32 → List Value → Prop} (hs : kvS bad st) (hm : ∀ a x r, bad a = false → kvS bad r → f a x r → g a x r) (h : sRI st f) : sRI st g := by
  unfold sRI at h ⊢
  split at h
  · exact hm _ _ _ (hs.t.a _ rfl) hs.t.t h
  · exact h.elim
theorem sRL_g {f g : Nat → Int64 → List Value → Prop} (hs : kvS bad st) (hm : ∀ a x r, bad a = false → kvS bad r → f a x r → g a x r) (h : sRL st f) : sRL st g := by
  unfold sRL at h ⊢
  split at h
  · exact hm _ _ _ (hs.t.a _ rfl) hs.t.t h
  · exact h.elim
theorem sRR_g {f g : Nat → Nat → List Value → Prop} (hs : kvS bad st) (hm : ∀ a v r, bad a = false → bad v = false → kvS bad r → f a v r → g a v r) (h : sRR st f) : sRR st g := by
  unfold sRR at h ⊢
  split at h
  · exact hm _ _ _ (hs.t.a _ rfl) (hs.a _ rfl) hs.t.t h
  · exact h.elim
theorem sRII_g {f g : Nat → Int32 → Int32 → List Value → Prop} (hs : kvS bad st) (hm : ∀ a i x r, bad a = false → kvS bad r → f a i x r → g a i x r) (h : sRII st f) : sRII st g := by
  unfold sRII at h ⊢
  split at h
  · exact hm _ _ _ _ (hs.t.t.a _ rfl) hs.t.t.t h
  · exact h.elim
theorem sRIL_g {f g : Nat → Int32 → Int64 → List Value → Prop} (hs : kvS bad st) (hm : ∀ a i x r, bad a = false → kvS bad r → f a i x r → g a i x r) (h : sRIL st f) : sRIL st g := by
  unfold sRIL at h ⊢
  split at h
  · exact hm _ _ _ _ (hs.t.t.a _ rfl) hs.t.t.t h
  · exact h.elim
theorem sCpy_g {f g : Nat → Int32 → Nat → Int32 → Int32 → List Value → Prop} (hs : kvS bad st) (hm : ∀ a sp a1 dp n r, bad a1 = false → kvS bad r → f a sp a1 dp n r → g a sp a1 dp n r) (h : sCpy st f) : sCpy st g := by
  unfold sCpy at h ⊢
  split at h
  · exact hm _ _ _ _ _ _ (hs.t.t.a _ rfl) hs.t.t.t.t.t h
  · exact h.elim
theorem lR_g {i : Nat} {f g : Nat → Prop} (hl : kvL bad lv) (hm : ∀ x, bad x = false → f x → g x) (h : lR lv i f) : lR lv i g := by
  unfold lR at h ⊢
  split at h
  · rename_i x e
    exact hm _ (hl.g e) h
  · exact h.elim
end KVG
theorem cond_g {b : Bool} {p p' : Prop} (h1 : b = true → p → p') (h : bif b then p else False) : bif b then p' else False := by
  cases b
  · exact h.elim
  · exact h1 rfl h
/-- the references that may change, and those in arrays, are none of the bad -/
noncomputable def HRf (bad : Nat → Bool) (R : Rm) : Prop := (∀ o ci k, 0 < o → (shl.getD (o - 1) (999, 0)).1 = ci → fkd ci k = 3 → bad (R o k) = false) ∧ ∀ a t j, (shl.getD (a - 1) (999, 0)).1 = 103 + t → j < aL a → bad (R a j) = false
theorem HRf.u {bad : Nat → Bool} {R : Rm} {o k v : Nat} (h : HRf bad R) (hv : bad v = false) : HRf bad (uR R o k v) := by
  have key : ∀ a j, bad (R a j) = false → bad (uR R o k v a j) = false := by
    intro a j hq
    by_cases h1 : a = o
    · subst h1
      rw [uR_eq]
      by_cases h2 : j = k
      · subst h2; rw [va_up_self]; exact hv
      · rw [va_up_ne _ _ h2]; exact hq
    · rw [uR_ne h1]; exact hq
  exact ⟨fun o' ci k' h0 h1 h2 => key _ _ (h.1 o' ci k' h0 h1 h2), fun a t j h1 h2 => key _ _ (h.2 a t j h1 h2)⟩
/-- what the picture stands under -/
noncomputable def StG (bad : Nat → Bool) (okp : Nat → Nat → Bool) (F : Im → Jm → Rm → Prop) : Prop :=
  (∀ I J R o ci k x, (shl.getD (o - 1) (999, 0)).1 = ci → ci < 100 → okp ci k = true → F I J R → F (uI I o k x) J R) ∧
  (∀ I J R o ci k x, (shl.getD (o - 1) (999, 0)).1 = ci → ci < 100 → okp ci k = true → F I J R → F I (uJ J o k x) R) ∧
  (∀ I J R a t j x, (shl.getD (a - 1) (999, 0)).1 = 100 + t → bad a = false → F I J R → F (uI I a j x) J R) ∧
  (∀ I J R a t j x, (shl.getD (a - 1) (999, 0)).1 = 100 + t → bad a = false → F I J R → F I (uJ J a j x) R) ∧
  (∀ I J R a0 a1 t p q m, (shl.getD (a1 - 1) (999, 0)).1 = 100 + t → bad a1 = false → F I J R → F (cI I a0 a1 p q m) J R) ∧
  (∀ I J R a0 a1 t p q m, (shl.getD (a1 - 1) (999, 0)).1 = 100 + t → bad a1 = false → F I J R → F I (cJ J a0 a1 p q m) R) ∧
  (∀ I J R o ci k v, (shl.getD (o - 1) (999, 0)).1 = ci → ci < 100 → F I J R → F I J (uR R o k v))
noncomputable def clG (dirty : List Nat) (okg okp : Nat → Nat → Bool) (i : Jvm.ClassFile.Instr) (ax : List Nat) : Bool := match i with
  | .new _ => false
  | .newarray _ => false
  | .anewarray _ => false
  | .aastore => false
  | .getfield _ => match ax with
    | [ci, k, kd, of] => Nat.beq kd (fkd ci k) && (Nat.beq of (fof ci k) && (!Nat.beq kd 4 || okg ci k))
    | _ => true
  | .putfield _ => match ax with
    | [ci, k, kd, _] => Nat.beq kd (fkd ci k) && (Nat.ble kd 3 && (Nat.blt ci 100 && (Nat.beq kd 3 || okp ci k)))
    | _ => true
  | .invokevirtual _ => match ax with
    | [_, mi, _, _, _, _, _, kr] => !dirty.elem mi && Nat.beq kr (qKr (mQ mi))
    | _ => true
  | .invokestatic _ => match ax with
    | [_, mi, _, _, _, _, _, kr] => !dirty.elem mi && Nat.beq kr (qKr (mQ mi))
    | _ => true
  | .invokespecial _ => match ax with
    | [_, mi, _, _, _, _, _, kr] => !dirty.elem mi && Nat.beq kr (qKr (mQ mi))
    | _ => true
  | _ => true
section KVH
variable {bad : Nat → Bool} {okg okp : Nat → Nat → Bool} {dirty : List Nat} {F : Im → Jm → Rm → Prop}
theorem fgt_g (hgf : ∀ o ci k, 0 < o → (shl.getD (o - 1) (999, 0)).1 = ci → fkd ci k = 4 → okg ci k = true → bad (o + fof ci k) = false) {n : Nat} {ph : Bool} {ci k kd of : Nat} {st : List Value} {I : Im} {J : Jm} {R : Rm} {K K' : List Value → Prop} (hs : kvS bad st) (hr : HRf bad R) (hkd : kd = fkd ci k) (hof : of = fof ci k) (hok : kd = 4 → okg ci k = true) (hK : ∀ r, kvS bad r → K r → K' r) (h : fgt n ph ci k kd of st I J R K) : fgt n ph ci k kd of st I J R K' := by
  refine sR_g hs (fun o r ho hrr => cond_g (fun hO q => ?_)) h
  have hsh := (isO_spec hO).2.2
  rcases kd with _ | _ | _ | _ | _ | kd
  · exact hK _ (kvS.c kvO.i hrr) q
  · exact hK _ (kvS.c kvO.i hrr) q
  · exact hK _ (kvS.c kvO.l hrr) q
  · exact and_m (hK _ (kvS.c (kvO.rf (hr.1 o ci k (isO_spec hO).1 hsh hkd.symm)) hrr)) q
  · have hb := hgf o ci k (isO_spec hO).1 hsh hkd.symm (hok rfl)
    rw [← hof] at hb
    exact cond_m (hK _ (kvS.c (kvO.rf hb) hrr)) (and_m (hK _ (kvS.c (kvO.rf hb) hrr))) q
  · exact q
theorem fpt_g (hst : StG bad okp F) {n : Nat} {ph : Bool} {ci k kd of : Nat} {st : List Value} {I : Im} {J : Jm} {R : Rm} {K K' : List Value → Im → Jm → Rm → Prop} (hs : kvS bad st) (hr : HRf bad R) (hF : F I J R) (hk3 : kd ≤ 3) (hci : ci < 100) (hok : ¬ kd = 3 → okp ci k = true) (hK : ∀ r I J R, kvS bad r → HRf bad R → F I J R → K r I J R → K' r I J R) (h : fpt n ph ci k kd of st I J R K) : fpt n ph ci k kd of st I J R K' := by
  rcases kd with _ | _ | _ | _ | kd
  · exact sRI_g hs (fun o x r _ hrr => cond_g (fun hO q => hK _ _ _ _ hrr hr (hst.1 _ _ _ o ci k x (isO_spec hO).2.2 hci (hok (by omega)) hF) q)) h
  · exact sRI_g hs (fun o x r _ hrr => cond_g (fun hO q => and_m (hK _ _ _ _ hrr hr (hst.1 _ _ _ o ci k x (isO_spec hO).2.2 hci (hok (by omega)) hF)) q)) h
  · exact sRL_g hs (fun o x r _ hrr => cond_g (fun hO q => hK _ _ _ _ hrr hr (hst.2.1 _ _ _ o ci k x (isO_spec hO).2.2 hci (hok (by omega)) hF) q)) h
  · exact sRR_g hs (fun o v r _ hv hrr => cond_g (fun hO q => and_m (hK _ _ _ _ hrr (hr.u hv) (hst.2.2.2.2.2.2 _ _ _ o ci k v (isO_spec hO).2.2 hci hF)) q)) h
  · omega
theorem kvS.psv {rk : Nat} {x : Int32} {y : Int64} {st : List Value} (hs : kvS bad st) : kvS bad (psh rk x y st) := by
  unfold psh
  cases Nat.beq rk 0
  · cases Nat.beq rk 3
    · exact kvS.c kvO.i hs
    · exact kvS.c kvO.l hs
  · exact hs
/-- the callees keep the picture -/
noncomputable def Mkg (bad : Nat → Bool) (dirty : List Nat) (F : Im → Jm → Rm → Prop) (M : Mc) : Prop := ∀ (mi n : Nat) (as : List Value) (I : Im) (J : Jm) (R : Rm) (Q : Qt), dirty.elem mi = false → kvS bad as → HRf bad R → F I J R → M mi n as I J R Q → M mi n as I J R (fun x y I' J' R' => (qKr (mQ mi) = 1 → R' = R) ∧ HRf bad R' ∧ F I' J' R' ∧ Q x y I' J' R')
theorem cal_g {M : Mc} (hM : Mono M) (hMg : Mkg bad dirty F M) {ph : Bool} {nend : Nat} {K K' : Kt} {pc n : Nat} {lv : Lv} {st : List Value} {I : Im} {J : Jm} {R : Rm} {kind mi na rk al ci ph1 kr : Nat} (hK : ∀ pc n st I J R, kvS bad st → HRf bad R → F I J R → K pc n lv st I J R → K' pc n lv st I J R) (hd : (!dirty.elem mi && Nat.beq kr (qKr (mQ mi))) = true) (hs : kvS bad st) (hr : HRf bad R) (hF : F I J R) (h : cal M ph nend K pc n lv st I J R kind mi na rk al ci ph1 kr) : cal M ph nend K' pc n lv st I J R kind mi na rk al ci ph1 kr := by
  have hs1 : kvS bad (st.take na).reverse := fun v hv => hs v (List.mem_of_mem_take (List.mem_reverse.mp hv))
  have hs2 : kvS bad (st.drop na) := fun v hv => hs v (List.mem_of_mem_drop hv)
  rw [Bool.and_eq_true, Bool.not_eq_true'] at hd
  have hkr := Nat.eq_of_beq_eq_true hd.2
  have key : M mi n (st.take na).reverse I J R (fun x y I' J' R' => bf rk x (K (pc + 3) (n + al) lv (psh rk x y (st.drop na)) I' J' (bif Nat.beq kr 1 then R else R'))) → M mi n (st.take na).reverse I J R (fun x y I' J' R' => bf rk x (K' (pc + 3) (n + al) lv (psh rk x y (st.drop na)) I' J' (bif Nat.beq kr 1 then R else R'))) :=
    fun q => hM _ _ _ _ _ _ _ _ (fun x y I' J' R' w => by
      obtain ⟨w1, w2, w3, w4⟩ := w
      cases hb : Nat.beq kr 1 with
      | false =>
        rw [hb] at w4
        exact bf_m (hK _ _ _ _ _ _ (kvS.psv hs2) w2 w3) w4
      | true =>
        rw [hb] at w4
        obtain rfl := w1 (hkr ▸ Nat.eq_of_beq_eq_true hb)
        exact bf_m (hK _ _ _ _ _ _ (kvS.psv hs2) w2 w3) w4) (hMg mi n _ I J R _ hd.1 hs1 hr hF q)
  exact cond_m (cond_m (and_m key) key) id h
set_option maxHeartbeats 4000000 in
theorem stI_g {M : Mc} (hM : Mono M) (hMg : Mkg bad dirty F M) (hgf : ∀ o ci k, 0 < o → (shl.getD (o - 1) (999, 0)).1 = ci → fkd ci k = 4 → okg ci k = true → bad (o + fof ci k) = false) (hst : StG bad okp F) {ph isl : Bool} {L : Nat} {xs : Nat → Int32} {rk nend : Nat} {Q Q' : Nat → Qt} (hQ : ∀ n x y I J R, HRf bad R → F I J R → Q n x y I J R → Q' n x y I J R) {K' : Kt} {pc : Nat} {ax : List Nat} {ks : List Int32} {lz : Int64} {n : Nat} {lv : Lv} {st : List Value} {I : Im} {J : Jm} {R : Rm} (hl : kvL bad lv) (hs : kvS bad st) (hr : HRf bad R) (hF : F I J R) (i : Jvm.ClassFile.Instr) (hc : clG dirty okg okp i ax = true)
    (h : stI M ph isl L xs rk nend Q (fun pc n lv st I J R => kvL bad lv → kvS bad st → HRf bad R → F I J R → K' pc n lv st I J R) pc ax ks lz n lv st I J R i) : stI M ph isl L xs rk nend Q' K' pc ax ks lz n lv st I J R i := by
  have hin : ∀ {i : Int32} {m : Nat}, vp_in i m → i.toNatClampNeg < m := fun hq => Nat.not_le.mp fun q => hq (Or.inr q)
  have hKc : ∀ pc n st I J R, kvS bad st → HRf bad R → F I J R → (kvL bad lv → kvS bad st → HRf bad R → F I J R → K' pc n lv st I J R) → K' pc n lv st I J R := fun pc n st I J R a b c q => q hl a b c
  cases i with
  | iconst _ => exact h hl (kvS.c kvO.i hs) hr hF
  | bipush _ => exact h hl (kvS.c kvO.i hs) hr hF
  | sipush _ => exact h hl (kvS.c kvO.i hs) hr hF
  | ldc _ => exact h hl (kvS.c kvO.i hs) hr hF
  | ldc_w _ => exact h hl (kvS.c kvO.i hs) hr hF
  | ldc2_w _ => exact h hl (kvS.c kvO.l hs) hr hF
  | lconst _ => exact h hl (kvS.c kvO.l hs) hr hF
  | goto _ => exact h hl hs hr hF
  | iload_n _ => exact lI_m (fun x q => q hl (kvS.c kvO.i hs) hr hF) h
  | iload _ => exact lI_m (fun x q => q hl (kvS.c kvO.i hs) hr hF) h
  | lload_n _ => exact lL_m (fun x q => q hl (kvS.c kvO.l hs) hr hF) h
  | lload _ => exact lL_m (fun x q => q hl (kvS.c kvO.l hs) hr hF) h
  | aload_n _ => exact lR_g hl (fun x hx q => q hl (kvS.c (kvO.rf hx) hs) hr hF) h
  | aload _ => exact lR_g hl (fun x hx q => q hl (kvS.c (kvO.rf hx) hs) hr hF) h
  | istore_n _ => exact sI_g hs (fun x r hrr q => q (hl.p kvO.i) hrr hr hF) h
  | istore _ => exact sI_g hs (fun x r hrr q => q (hl.p kvO.i) hrr hr hF) h
  | lstore_n _ => exact sL_g hs (fun x r hrr q => q (hl.p2 kvO.l) hrr hr hF) h
  | lstore _ => exact sL_g hs (fun x r hrr q => q (hl.p2 kvO.l) hrr hr hF) h
  | astore_n _ => exact sR_g hs (fun x r hx hrr q => q (hl.p (kvO.rf hx)) hrr hr hF) h
  | astore _ => exact sR_g hs (fun x r hx hrr q => q (hl.p (kvO.rf hx)) hrr hr hF) h
  | iinc _ _ => exact lI_m (fun x q => q (hl.p kvO.i) hs hr hF) h
  | iadd => exact sII_g hs (fun x y r hrr q => q hl (kvS.c kvO.i hrr) hr hF) h
  | isub => exact sII_g hs (fun x y r hrr q => q hl (kvS.c kvO.i hrr) hr hF) h
  | imul => exact sII_g hs (fun x y r hrr q => q hl (kvS.c kvO.i hrr) hr hF) h
  | iand => exact sII_g hs (fun x y r hrr q => q hl (kvS.c kvO.i hrr) hr hF) h
  | ior => exact sII_g hs (fun x y r hrr q => q hl (kvS.c kvO.i hrr) hr hF) h
  | ixor => exact sII_g hs (fun x y r hrr q => q hl (kvS.c kvO.i hrr) hr hF) h
  | ishl => exact sII_g hs (fun x y r hrr q => q hl (kvS.c kvO.i hrr) hr hF) h
  | ishr => exact sII_g hs (fun x y r hrr q => q hl (kvS.c kvO.i hrr) hr hF) h
  | iushr => exact sII_g hs (fun x y r hrr q => q hl (kvS.c kvO.i hrr) hr hF) h
  | idiv => exact sII_g hs (fun x y r hrr => and_m (fun q => q hl (kvS.c kvO.i hrr) hr hF)) h
  | irem => exact sII_g hs (fun x y r hrr => and_m (fun q => q hl (kvS.c kvO.i hrr) hr hF)) h
  | ladd => exact sLL_g hs (fun x y r hrr q => q hl (kvS.c kvO.l hrr) hr hF) h
  | lsub => exact sLL_g hs (fun x y r hrr q => q hl (kvS.c kvO.l hrr) hr hF) h
  | lmul => exact sLL_g hs (fun x y r hrr q => q hl (kvS.c kvO.l hrr) hr hF) h
  | land => exact sLL_g hs (fun x y r hrr q => q hl (kvS.c kvO.l hrr) hr hF) h
  | lor => exact sLL_g hs (fun x y r hrr q => q hl (kvS.c kvO.l hrr) hr hF) h
  | lcmp => exact sLL_g hs (fun x y r hrr q => q hl (kvS.c kvO.i hrr) hr hF) h
  | ldiv => exact sLL_g hs (fun x y r hrr => and_m (fun q => q hl (kvS.c kvO.l hrr) hr hF)) h
  | lrem => exact sLL_g hs (fun x y r hrr => and_m (fun q => q hl (kvS.c kvO.l hrr) hr hF)) h
  | lneg => exact sL_g hs (fun x r hrr q => q hl (kvS.c kvO.l hrr) hr hF) h
  | l2i => exact sL_g hs (fun x r hrr q => q hl (kvS.c kvO.i hrr) hr hF) h
  | pop2 => exact sL_g hs (fun x r hrr q => q hl hrr hr hF) h
  | lshl => exact sLI_g hs (fun x y r hrr q => q hl (kvS.c kvO.l hrr) hr hF) h
  | i2l => exact sI_g hs (fun x r hrr q => q hl (kvS.c kvO.l hrr) hr hF) h
  | i2b => exact sI_g hs (fun x r hrr q => q hl (kvS.c kvO.i hrr) hr hF) h
  | i2s => exact sI_g hs (fun x r hrr q => q hl (kvS.c kvO.i hrr) hr hF) h
  | dup =>
    unfold stI at h ⊢
    dsimp only at h ⊢
    split at h
    · exact h hl (kvS.c kvO.i hs) hr hF
    · exact h hl (kvS.c hs.a hs) hr hF
    · exact h.elim
  | pop =>
    unfold stI at h ⊢
    dsimp only at h ⊢
    split at h
    · exact h hl hs.t hr hF
    · exact h hl hs.t hr hF
    · exact h.elim
  | dup2 =>
    unfold stI at h ⊢
    dsimp only at h ⊢
    split at h
    · exact h hl (kvS.c kvO.i (kvS.c hs.t.a hs)) hr hF
    · exact h.elim
  | ifCond _ _ => exact sI_g hs (fun x r hrr => icz_m (fun q => q hl hrr hr hF) (fun q => q hl hrr hr hF)) h
  | if_icmp _ _ => exact sII_g hs (fun x y r hrr => icc_m (fun q => q hl hrr hr hF) (fun q => q hl hrr hr hF)) h
  | tableswitch _ _ _ _ => exact sI_g hs (fun x r hrr => swT_m (fun t q => q hl hrr hr hF) (fun q => q hl hrr hr hF) _ _ _) h
  | lookupswitch _ _ => exact sI_g hs (fun x r hrr => swT_m (fun t q => q hl hrr hr hF) (fun q => q hl hrr hr hF) _ _ _) h
  | getfield _ =>
    unfold stI at h ⊢
    dsimp only at h ⊢
    split at h
    · rename_i ci k kd of
      simp only [clG, Bool.and_eq_true, Bool.or_eq_true, Bool.not_eq_true'] at hc
      obtain ⟨c1, c2, c3⟩ := hc
      refine fgt_g hgf hs hr (Nat.eq_of_beq_eq_true c1) (Nat.eq_of_beq_eq_true c2) (fun e => ?_) (fun r hrr q => q hl hrr hr hF) h
      rcases c3 with c3 | c3
      · rw [e] at c3; exact absurd c3 (by decide)
      · exact c3
    · exact h.elim
  | putfield _ =>
    unfold stI at h ⊢
    dsimp only at h ⊢
    split at h
    · rename_i ci k kd of
      simp only [clG, Bool.and_eq_true, Bool.or_eq_true] at hc
      obtain ⟨c1, c2, c3, c4⟩ := hc
      refine fpt_g hst hs hr hF (Nat.le_of_ble_eq_true c2) (Nat.le_of_ble_eq_true c3) (fun e => ?_) (fun r I J R a b c q => q hl a b c) h
      rcases c4 with c4 | c4
      · exact absurd (Nat.eq_of_beq_eq_true c4) e
      · exact c4
    · exact h.elim
  | iaload => exact sRI_g hs (fun a x r _ hrr => cond_m (and_m (fun q => q hl (kvS.c kvO.i hrr) hr hF)) (cond_m (and_m (fun q => q hl (kvS.c kvO.i hrr) hr hF)) id)) h
  | baload => exact sRI_g hs (fun a x r _ hrr => cond_m (and_m (fun q => q hl (kvS.c kvO.i hrr) hr hF)) id) h
  | laload => exact sRI_g hs (fun a x r _ hrr => cond_m (and_m (fun q => q hl (kvS.c kvO.l hrr) hr hF)) id) h
  | aaload =>
    unfold stI at h ⊢
    dsimp only at h ⊢
    split at h
    · rename_i t
      exact sRI_g hs (fun a x r _ hrr => cond_g (fun hA q => ⟨q.1, q.2.1, q.2.2 hl (kvS.c (kvO.rf (hr.2 a t _ (by have := (isA_spec hA).2.2; omega) (hin q.1))) hrr) hr hF⟩)) h
    · exact h.elim
  | iastore => exact sRII_g hs (fun a i x r ha hrr => cond_g (fun hA => and_m (fun q => q hl hrr hr (hst.2.2.1 _ _ _ a 0 _ _ (isA_spec hA).2.2 ha hF)))) h
  | bastore => exact sRII_g hs (fun a i x r ha hrr => cond_g (fun hA => and_m (fun q => q hl hrr hr (hst.2.2.1 _ _ _ a 2 _ _ (isA_spec hA).2.2 ha hF)))) h
  | lastore => exact sRIL_g hs (fun a i x r ha hrr => cond_g (fun hA => and_m (fun q => q hl hrr hr (hst.2.2.2.1 _ _ _ a 1 _ _ (isA_spec hA).2.2 ha hF)))) h
  | aastore => cases hc
  | arraylength => exact sR_g hs (fun a r _ hrr => cond_m (fun q => q hl (kvS.c kvO.i hrr) hr hF) (cond_m (fun q => q hl (kvS.c kvO.i hrr) hr hF) (cond_m (fun q => q hl (kvS.c kvO.i hrr) hr hF) id))) h
  | new _ => cases hc
  | newarray _ => cases hc
  | anewarray _ => cases hc
  | invokevirtual _ =>
    unfold stI at h ⊢
    dsimp only at h ⊢
    split at h
    · exact cond_m (cal_g hM hMg hKc hc hs hr hF) id h
    · exact h.elim
  | invokespecial _ =>
    unfold stI at h ⊢
    dsimp only at h ⊢
    split at h
    · exact cond_m (cal_g hM hMg hKc hc hs hr hF) id h
    · exact sR_g hs (fun a r _ hrr => cond_m (fun q => q hl hrr hr hF) id) h
    · exact h.elim
  | invokestatic _ =>
    unfold stI at h ⊢
    dsimp only at h ⊢
    split at h
    · exact cond_m (cal_g hM hMg hKc hc hs hr hF) id h
    · try dsimp only at h ⊢
      split at h
      · exact sCpy_g hs (fun a sp a1 dp m r ha hrr => cond_g (fun hA => and_m (fun q => q hl hrr hr (hst.2.2.2.2.1 _ _ _ a a1 0 _ _ _ (isA_spec (by simp only [Bool.and_eq_true] at hA; exact hA.2.2)).2.2 ha hF)))) h
      · exact sCpy_g hs (fun a sp a1 dp m r ha hrr => cond_g (fun hA => and_m (fun q => q hl hrr hr (hst.2.2.2.2.2.1 _ _ _ a a1 1 _ _ _ (isA_spec (by simp only [Bool.and_eq_true] at hA; exact hA.2.2)).2.2 ha hF)))) h
      · exact sII_g hs (fun x y r hrr => cond_m (fun q => q hl (kvS.c kvO.i hrr) hr hF) id) h
      · exact sII_g hs (fun x y r hrr => cond_m (fun q => q hl (kvS.c kvO.i hrr) hr hF) id) h
      · exact sL_g hs (fun x r hrr => cond_m (fun q => q hl (kvS.c kvO.l hrr) hr hF) id) h
      · exact h.elim
    · exact h.elim
  | return_ =>
    refine cond_m (fun h => ?_) id h
    try dsimp only at h ⊢
    split at h
    · exact hQ _ _ _ _ _ _ hr hF h
    · exact h.elim
  | lreturn =>
    refine cond_m (fun h => ?_) id h
    try dsimp only at h ⊢
    split at h
    · exact hQ _ _ _ _ _ _ hr hF h
    · exact h.elim
  | ireturn =>
    refine cond_m (fun h => ?_) (cond_m (fun h => ?_) id) h
    · try dsimp only at h ⊢
      split at h
      · exact hQ _ _ _ _ _ _ hr hF h
      · exact h.elim
    · try dsimp only at h ⊢
      split at h
      · exact ⟨h.1, hQ _ _ _ _ _ _ hr hF h.2⟩
      · exact h.elim
  | _ => exact h.elim
theorem AW_g {M : Mc} (hM : Mono M) (hMg : Mkg bad dirty F M) (hgf : ∀ o ci k, 0 < o → (shl.getD (o - 1) (999, 0)).1 = ci → fkd ci k = 4 → okg ci k = true → bad (o + fof ci k) = false) (hst : StG bad okp F) {ph isl : Bool} {L : Nat} {xs : Nat → Int32} {rk nend : Nat} {code : List En} (hk : ∀ e ∈ code, clG dirty okg okp e.2.1 e.2.2.2.1 = true) {Q : Nat → Qt} {pc n : Nat} {lv : Lv} {st : List Value} {I : Im} {J : Jm} {R : Rm} (hl : kvL bad lv) (hs : kvS bad st) (hr : HRf bad R) (hF : F I J R) (h : AW M ph isl L xs rk nend code Q pc n lv st I J R) : AW M ph isl L xs rk nend code (fun n x y I J R => HRf bad R ∧ F I J R ∧ Q n x y I J R) pc n lv st I J R := by
  intro P hP
  exact h (fun pc n lv st I J R => kvL bad lv → kvS bad st → HRf bad R → F I J R → P pc n lv st I J R)
    ⟨fun e he n lv st I J R q a b c d => hP.1 e he n lv st I J R (stI_g hM hMg hgf hst (fun n x y I J R b c q => ⟨b, c, q⟩) a b c d e.2.1 (hk e he) q), fun pc n ks lv st I J R q a b c d => hP.2 _ _ ks _ _ _ _ _ (q a.k b c d)⟩ hl hs hr hF
/-- no method but the dirty ones writes there: it writes nothing at all, or nothing of that -/
noncomputable def ClT (pl dirty : List Nat) (okg okp : Nat → Nat → Bool) : Prop := ∀ mi, dirty.elem mi = false → pl.elem mi = true ∨ (Nat.beq mi mReader = false ∧ (mQ mi).1.all (fun e => clG dirty okg okp e.2.1 e.2.2.2.1) = true)
theorem ClT.of {pl : List Nat} (h : ∀ mi, mi < nMth → (dirty.elem mi || (pl.elem mi || (!Nat.beq mi mReader && (mQ mi).1.all (fun e => clG dirty okg okp e.2.1 e.2.2.2.1)))) = true) : ClT pl dirty okg okp := by
  intro mi hd
  by_cases hm : mi < nMth
  · have h1 := h mi hm
    rw [hd] at h1
    simp only [Bool.or_eq_true, Bool.and_eq_true, Bool.not_eq_true', Bool.false_eq_true, false_or] at h1
    exact h1
  · have e : mQ mi = ([], ⟨"", "", ""⟩, ⟨#[]⟩, none, []) := mt_out (by omega)
    refine Or.inr ⟨?_, by rw [e]; rfl⟩
    have h58 : mReader < nMth := by decide
    cases hb : Nat.beq mi mReader with
    | false => rfl
    | true => exact absurd (Nat.eq_of_beq_eq_true hb) (by omega)
theorem AM_g {pl : List Nat} (hp : PuT pl) (hcl : ClT pl dirty okg okp) (hgf : ∀ o ci k, 0 < o → (shl.getD (o - 1) (999, 0)).1 = ci → fkd ci k = 4 → okg ci k = true → bad (o + fof ci k) = false) (hst : StG bad okp F) : ∀ d, Mkg bad dirty F (AM d) := by
  intro d
  induction d with
  | zero => intro mi n as I J R Q hd hs hr hF h; exact h.elim
  | succ d ih =>
    intro mi n as I J R Q hd hs hr hF h
    rcases hcl mi hd with hpu | ⟨c1, c2⟩
    · refine AM_m (d + 1) _ _ _ _ _ _ _ _ (fun x y I' J' R' q => ?_) (AM_p hp (d + 1) mi n as I J R Q hpu h)
      obtain ⟨rfl, rfl, rfl, q⟩ := q
      exact ⟨fun _ => rfl, hr, hF, q⟩
    · unfold AM at h ⊢
      rw [c1] at h ⊢
      exact ⟨h.1, AW_m (AM_m d) (fun n x y I' J' R' q => ⟨q.2.2.1, q.2.2.2.1, q.2.2.2.1, q.1, q.2.1, q.2.2.2.2⟩) (AW_g (AM_m d) ih hgf hst (List.all_eq_true.mp c2) (kvL.args as 0 hs) kvS.n hr hF h.2)⟩
/-- what is proved of a clean method is proved with the picture kept -/
theorem AM_w {pl : List Nat} (hp : PuT pl) (hcl : ClT pl dirty okg okp) (hgf : ∀ o ci k, 0 < o → (shl.getD (o - 1) (999, 0)).1 = ci → fkd ci k = 4 → okg ci k = true → bad (o + fof ci k) = false) (hst : StG bad okp F) {d mi n : Nat} {as : List Value} {I : Im} {J : Jm} {R : Rm} {Q : Qt} (hd : dirty.elem mi = false) (hs : kvS bad as) (hr : HRf bad R) (hF : F I J R) (h : AM d mi n as I J R (fun x y I' J' R' => F I' J' R' → Q x y I' J' R')) : AM d mi n as I J R Q :=
  AM_m d _ _ _ _ _ _ _ _ (fun x y I' J' R' q => q.2.2.2 q.2.2.1) (AM_g hp hcl hgf hst d mi n as I J R _ hd hs hr hF h)
end KVH
end PT3x5
section PT3x6
/-! printed by grpE.py: what a method reads, writes, calls: a table, held against the code once -/
noncomputable def okG9 (i : Jvm.ClassFile.Instr) (ax : List Nat) : Bool := match i with
  | .new _ => false
  | .newarray _ => false
  | .anewarray _ => false
  | .aastore => false
  | .getfield _ => match ax with
    | [ci, k, kd, of] => Nat.beq kd (fkd ci k) && (Nat.beq of (fof ci k) && (Nat.blt ci 100 && Nat.blt k 1000))
    | _ => true
  | .putfield _ => match ax with
    | [ci, k, kd, _] => Nat.beq kd (fkd ci k) && (Nat.ble kd 3 && (Nat.blt ci 100 && Nat.blt k 1000))
    | _ => true
  | .invokevirtual _ => match ax with
    | [_, mi, _, _, _, _, _, kr] => Nat.beq kr (qKr (mQ mi))
    | _ => true
  | .invokestatic _ => match ax with
    | [_, mi, _, _, _, _, _, kr] => Nat.beq kr (qKr (mQ mi))
    | _ => true
  | .invokespecial _ => match ax with
    | [_, mi, _, _, _, _, _, kr] => Nat.beq kr (qKr (mQ mi))
    | _ => true
  | _ => true
noncomputable def evG9 (i : Jvm.ClassFile.Instr) (ax : List Nat) : Option Nat := match i with
  | .getfield _ => match ax with
    | [ci, k, kd, _] => bif Nat.beq kd 4 then some (ci * 1000 + k) else none
    | _ => none
  | .putfield _ => match ax with
    | [ci, k, kd, _] => bif Nat.beq kd 3 then none else some (1000000 + (ci * 1000 + k))
    | _ => none
  | .invokevirtual _ => match ax with
    | [_, mi, _, _, _, _, _, _] => some (2000000 + mi)
    | _ => none
  | .invokestatic _ => match ax with
    | [_, mi, _, _, _, _, _, _] => some (2000000 + mi)
    | _ => none
  | .invokespecial _ => match ax with
    | [_, mi, _, _, _, _, _, _] => some (2000000 + mi)
    | _ => none
  | _ => none
noncomputable def clV9 (dirty : List Nat) (okg okp : Nat → Nat → Bool) (v : Nat) : Bool := bif Nat.blt v 1000000 then okg (v / 1000) (v % 1000) else bif Nat.blt v 2000000 then okp ((v - 1000000) / 1000) ((v - 1000000) % 1000) else !dirty.elem (v - 2000000)
theorem clV9_g {dirty : List Nat} {okg okp : Nat → Nat → Bool} {ci k : Nat} (hc : ci < 100) (hk : k < 1000) (h : clV9 dirty okg okp (ci * 1000 + k) = true) : okg ci k = true := by
  unfold clV9 at h
  rw [show Nat.blt (ci * 1000 + k) 1000000 = true from Nat.ble_eq_true_of_le (by omega), show (ci * 1000 + k) / 1000 = ci by omega, show (ci * 1000 + k) % 1000 = k by omega] at h
  exact h
theorem clV9_p {dirty : List Nat} {okg okp : Nat → Nat → Bool} {ci k : Nat} (hc : ci < 100) (hk : k < 1000) (h : clV9 dirty okg okp (1000000 + (ci * 1000 + k)) = true) : okp ci k = true := by
  have h1 : Nat.blt (1000000 + (ci * 1000 + k)) 1000000 = false := by
    cases q : Nat.blt (1000000 + (ci * 1000 + k)) 1000000 with
    | false => rfl
    | true => have := Nat.le_of_ble_eq_true q; omega
  unfold clV9 at h
  rw [h1, show Nat.blt (1000000 + (ci * 1000 + k)) 2000000 = true from Nat.ble_eq_true_of_le (by omega), show (1000000 + (ci * 1000 + k) - 1000000) / 1000 = ci by omega, show (1000000 + (ci * 1000 + k) - 1000000) % 1000 = k by omega] at h
  exact h
theorem clV9_c {dirty : List Nat} {okg okp : Nat → Nat → Bool} {mi : Nat} (h : clV9 dirty okg okp (2000000 + mi) = true) : (!dirty.elem mi) = true := by
  have h1 : Nat.blt (2000000 + mi) 1000000 = false := by
    cases q : Nat.blt (2000000 + mi) 1000000 with
    | false => rfl
    | true => have := Nat.le_of_ble_eq_true q; omega
  have h2 : Nat.blt (2000000 + mi) 2000000 = false := by
    cases q : Nat.blt (2000000 + mi) 2000000 with
    | false => rfl
    | true => have := Nat.le_of_ble_eq_true q; omega
  unfold clV9 at h
  rw [h1, h2, show 2000000 + mi - 2000000 = mi by omega] at h
  exact h
theorem blt9 {a b : Nat} (h : Nat.blt a b = true) : a < b := Nat.le_of_ble_eq_true h
theorem clG_ev {dirty : List Nat} {okg okp : Nat → Nat → Bool} {i : Jvm.ClassFile.Instr} {ax : List Nat} (h1 : okG9 i ax = true) (h2 : ∀ v, evG9 i ax = some v → clV9 dirty okg okp v = true) : clG dirty okg okp i ax = true := by
  cases i with
  | new _ => exact absurd h1 Bool.false_ne_true
  | newarray _ => exact absurd h1 Bool.false_ne_true
  | anewarray _ => exact absurd h1 Bool.false_ne_true
  | aastore => exact absurd h1 Bool.false_ne_true
  | getfield _ =>
    rcases ax with _ | ⟨ci, _ | ⟨k, _ | ⟨kd, _ | ⟨of, _ | ⟨x, r⟩⟩⟩⟩⟩
    · rfl
    · rfl
    · rfl
    · rfl
    · have h3 : (Nat.beq kd (fkd ci k) && (Nat.beq of (fof ci k) && (Nat.blt ci 100 && Nat.blt k 1000))) = true := h1
      have h4 : ∀ v, (bif Nat.beq kd 4 then some (ci * 1000 + k) else none) = some v → clV9 dirty okg okp v = true := h2
      show (Nat.beq kd (fkd ci k) && (Nat.beq of (fof ci k) && (!Nat.beq kd 4 || okg ci k))) = true
      rw [Bool.and_eq_true, Bool.and_eq_true, Bool.and_eq_true] at h3
      rw [h3.1, h3.2.1]
      cases q : Nat.beq kd 4 with
      | false => rfl
      | true =>
        rw [q] at h4
        have := clV9_g (blt9 h3.2.2.1) (blt9 h3.2.2.2) (h4 _ rfl)
        rw [this]; rfl
    · rfl
  | putfield _ =>
    rcases ax with _ | ⟨ci, _ | ⟨k, _ | ⟨kd, _ | ⟨of, _ | ⟨x, r⟩⟩⟩⟩⟩
    · rfl
    · rfl
    · rfl
    · rfl
    · have h3 : (Nat.beq kd (fkd ci k) && (Nat.ble kd 3 && (Nat.blt ci 100 && Nat.blt k 1000))) = true := h1
      have h4 : ∀ v, (bif Nat.beq kd 3 then none else some (1000000 + (ci * 1000 + k))) = some v → clV9 dirty okg okp v = true := h2
      show (Nat.beq kd (fkd ci k) && (Nat.ble kd 3 && (Nat.blt ci 100 && (Nat.beq kd 3 || okp ci k)))) = true
      rw [Bool.and_eq_true, Bool.and_eq_true, Bool.and_eq_true] at h3
      rw [h3.1, h3.2.1, h3.2.2.1]
      cases q : Nat.beq kd 3 with
      | true => rfl
      | false =>
        rw [q] at h4
        have := clV9_p (blt9 h3.2.2.1) (blt9 h3.2.2.2) (h4 _ rfl)
        rw [this]; rfl
    · rfl
  | invokevirtual _ =>
    rcases ax with _ | ⟨a1, _ | ⟨mi, _ | ⟨a3, _ | ⟨a4, _ | ⟨a5, _ | ⟨a6, _ | ⟨a7, _ | ⟨kr, _ | ⟨x, r⟩⟩⟩⟩⟩⟩⟩⟩⟩
    · rfl
    · rfl
    · rfl
    · rfl
    · rfl
    · rfl
    · rfl
    · rfl
    · have h3 : Nat.beq kr (qKr (mQ mi)) = true := h1
      show (!dirty.elem mi && Nat.beq kr (qKr (mQ mi))) = true
      rw [h3, clV9_c (h2 _ rfl)]; rfl
    · rfl
  | invokestatic _ =>
    rcases ax with _ | ⟨a1, _ | ⟨mi, _ | ⟨a3, _ | ⟨a4, _ | ⟨a5, _ | ⟨a6, _ | ⟨a7, _ | ⟨kr, _ | ⟨x, r⟩⟩⟩⟩⟩⟩⟩⟩⟩
    · rfl
    · rfl
    · rfl
    · rfl
    · rfl
    · rfl
    · rfl
    · rfl
    · have h3 : Nat.beq kr (qKr (mQ mi)) = true := h1
      show (!dirty.elem mi && Nat.beq kr (qKr (mQ mi))) = true
      rw [h3, clV9_c (h2 _ rfl)]; rfl
    · rfl
  | invokespecial _ =>
    rcases ax with _ | ⟨a1, _ | ⟨mi, _ | ⟨a3, _ | ⟨a4, _ | ⟨a5, _ | ⟨a6, _ | ⟨a7, _ | ⟨kr, _ | ⟨x, r⟩⟩⟩⟩⟩⟩⟩⟩⟩
    · rfl
    · rfl
    · rfl
    · rfl
    · rfl
    · rfl
    · rfl
    · rfl
    · have h3 : Nat.beq kr (qKr (mQ mi)) = true := h1
      show (!dirty.elem mi && Nat.beq kr (qKr (mQ mi))) = true
      rw [h3, clV9_c (h2 _ rfl)]; rfl
    · rfl
  | _ => rfl
/-- by method: 1000 class + field (read), 1000000 + the same (written), 2000000 + method (called) -/
noncomputable def evT9 : List (List Nat) := [[], [0, 1000001, 1000002, 1000003, 1000004, 2000321], [0, 5, 6, 7, 8, 1000001, 1000002, 1000003, 1000004], [], [5, 6, 7, 8, 1000004], [5], [0], [0, 2000165], [0, 2000167], [8, 2000166, 2000167], [2000009], [6, 7, 2000009, 2000167], [2000011], [8, 2000007], [0], [0, 1000003, 2000016, 2000161], [0], [0, 1000003, 2000161], [0, 8, 2000003, 2000161, 2000165, 2000166], [0, 8, 2000003, 2000161, 2000165, 2000166], [1001000, 1001001, 1001002], [1001000, 1001001, 1001002, 2000001, 2000022, 2000023, 2000024, 2000025, 2000066], [1000001, 1001000, 2000067, 2000068, 2000070, 2000072], [0, 1001002, 2000067, 2000068, 2000070, 2000072, 2000161, 2000165, 2000166], [8, 2000003, 2000004, 2000005, 2000026, 2000067, 2000068, 2000069, 2000070, 2000072, 2000073], [1000002, 1001001, 2000026, 2000067, 2000068, 2000070], [2000067, 2000072, 2000161, 2000165, 2000166], [], [1002000, 1002001, 1002002], [2003, 2004, 2005, 2006, 2007, 1002000, 1002001, 1002002], [2003, 2004, 2005, 2006, 2007, 1002002], [2007], [], [1002000, 1003001, 2000028, 2000034, 2000035, 2000066], [3000, 1003001, 2000030, 2000031, 2000066, 2000068, 2000070], [3000, 1002001, 1003001, 2000036, 2000038, 2000066, 2000067, 2000068, 2000070], [2000030, 2000037, 2000039, 2000072], [2000030, 2000072], [2000030, 2000039, 2000066, 2000068, 2000071, 2000072], [2000005, 2000067, 2000073], [], [2003, 1004000, 1004001, 1004002, 1004003, 1004004, 1004005, 1004006, 1004007, 2000042, 2000043], [2003, 2007, 4008], [2003, 2004, 2007, 4008, 1004002, 2000044, 2000046, 2000047], [0, 2003, 2004, 2005, 2006, 2000003, 2000011, 2000045, 2000161], [], [2003, 2004, 2005, 2006, 2000019, 2000048, 2000049, 2000050, 2000051], [2000049, 2000050, 2000052], [1004003, 2000015], [1004003, 2000017], [1004004, 2000018], [1004005, 2000014], [1004007], [], [5000, 2000055, 2000056, 2000166], [5000, 2000057], [5000, 5001, 1005002, 2000057], [], [], [], [6000, 1006001, 2000059], [1006001, 1006003, 1006004, 1006005, 1006012, 1006013, 2000062], [6000, 1006005, 1006006, 1006007, 1006008, 1006009, 1006011, 2000063, 2000064], [6000, 6002, 1006005, 1006008, 1006009, 1006010], [6000, 1006005, 1006008, 1006011], [1006012, 1006013], [2000065], [2000065], [2000062], [2000066, 2000068], [2000066, 2000068], [2000062, 2000066], [2000062, 2000066, 2000067], [2000062, 2000066], [], [7007, 1007000, 1007001, 1007005, 1007006, 2000321], [2000075, 2000079], [2000075, 2000079], [2000075, 2000079], [1007002, 2000082], [], [7007, 2000166], [7003, 2000082, 2000083, 2000166, 2000167], [7003, 2000084, 2000166], [7003, 7004, 7007, 1007001, 1007005, 1007006, 2000165], [], [8000, 8001, 10002, 1008002, 2000087], [10002, 2000165, 2000166, 2000167], [], [1009001, 2000090, 2000166], [9000, 9002, 1009001, 2000167], [9002, 9003, 2000092], [9002, 9003], [9002, 2000319], [], [], [10002, 1010000, 1010001, 2000320], [], [10002, 2000097], [], [], [], [], [11003, 2000096, 2000150, 2000152, 2000160], [11003, 2000098, 2000150, 2000152, 2000157], [10002, 11003, 1011000, 2000149, 2000157], [10002, 11003, 2000095, 2000097, 2000150, 2000152, 2000160], [11004, 2000059, 2000060], [11004, 11005, 2000021, 2000028, 2000061, 2000149, 2000151], [11004, 11006, 2000033, 2000061, 2000149, 2000151], [11004], [2000006, 2000007, 2000012, 2000149, 2000151, 2000319], [0, 2000149, 2000151, 2000161], [6, 7, 8, 2000003, 2000149, 2000151], [2000003, 2000009, 2000150, 2000155], [2000003, 2000011, 2000150, 2000155], [2000008, 2000155], [0, 11003, 2000098, 2000149, 2000151, 2000158], [0, 2000014, 2000149, 2000151], [2000006, 2000015, 2000149, 2000151], [2000006, 2000017, 2000149, 2000151], [8, 2000018, 2000149, 2000151, 2000319], [8, 2000019, 2000149, 2000151, 2000319], [6, 7, 2000003, 2000150, 2000152, 2000162], [2000004, 2000149, 2000151, 2000162], [1000002, 2000150, 2000152, 2000161, 2000165, 2000166], [1000001, 2000150, 2000152], [11014, 2000076, 2000149, 2000153, 2000162, 2000167], [11014, 2000076, 2000149, 2000154, 2000162, 2000167], [11014, 2000078, 2000149, 2000151, 2000162, 2000163, 2000167], [7007, 11014, 2000078, 2000150, 2000155, 2000161, 2000162, 2000163, 2000167], [11014, 2000078, 2000081, 2000149, 2000151, 2000162, 2000163, 2000167], [11014, 2000077, 2000149, 2000154, 2000162, 2000167], [2000149, 2000151, 2000162, 2000171], [11003, 11015, 2000086, 2000149, 2000151, 2000159, 2000167], [8000, 8001, 11003, 11015, 2000086, 2000149, 2000151, 2000159, 2000167], [11016, 2000007, 2000054, 2000149, 2000151, 2000161], [5001, 11016, 2000007, 2000054, 2000149, 2000151, 2000161], [11014, 2000003, 2000011, 2000013, 2000076, 2000149, 2000153], [11014, 2000003, 2000011, 2000013, 2000076, 2000149, 2000154], [11017, 2000089, 2000091, 2000149, 2000151, 2000164], [9000, 11017, 2000089, 2000091, 2000149, 2000151, 2000164], [11017, 2000089, 2000093, 2000150, 2000155, 2000162, 2000164, 2000167, 2000170, 2000319], [2000150, 2000155, 2000169, 2000170], [11018, 2000041, 2000149, 2000151], [11018, 2000149, 2000151], [11019, 2000002, 2000010, 2000041, 2000150, 2000155], [11011, 11012, 1011013, 2000002, 2000029, 2000149, 2000151], [11011, 11012, 1011013, 2000002, 2000029, 2000149, 2000151], [1011000], [1011000], [1011000], [1011000], [11014, 2000149, 2000151], [7004, 11014, 2000080, 2000149, 2000151], [1011001, 1011002, 2000152, 2000168], [11003, 2000095, 2000160], [11003, 2000097, 2000156], [11003, 2000156], [10002, 11003, 2000158, 2000162], [], [], [], [], [2000319], [], [], [], [], [], [], [2000168], [], [1012001], [1012001], [1012001], [1012000], [1012000], [], [1012002, 1012003], [], [12004, 12005, 12006, 1012000, 1012001, 2000177], [12005], [12005, 2000182], [12004, 12006, 1012000, 1012001, 2000180, 2000183], [12006, 1012000, 1012001, 2000183], [12004, 12005, 12006, 1012000, 1012001, 2000177], [12006], [2000178], [], [2000189], [12007], [], [], [], [1012014, 1012015, 1012016, 1012017, 1012018, 1012019, 2000191, 2000192, 2000193, 2000194], [], [], [], [2000197, 2000198], [2000197, 2000198], [2000197, 2000198], [2000197, 2000198], [2000197, 2000198], [2000197, 2000198], [2000197, 2000198], [2000197, 2000198], [2000197, 2000198], [2000197, 2000198], [2000197, 2000198], [2000199, 2000200, 2000201, 2000202, 2000203, 2000204, 2000205, 2000206, 2000207, 2000208, 2000209], [2000210], [1012012, 1012013], [2000212], [2000195, 2000213], [2000178, 2000212, 2000213], [2000195, 2000215], [2000214, 2000216], [2000195], [2000189, 2000212, 2000215, 2000216], [1012001, 2000221], [12007, 1012008], [1012008, 1012009, 1012012, 1012016, 2000177, 2000195], [1012010, 1012011, 2000177], [1012001], [12020], [12020, 12022], [2000211, 2000212, 2000213, 2000214, 2000226], [12020, 1012024, 2000212, 2000214, 2000216], [12020, 1012025, 2000212, 2000214, 2000219], [12020, 1012026, 2000189, 2000201, 2000212, 2000214, 2000215, 2000216, 2000218], [12020, 12022, 2000203, 2000204, 2000205, 2000211, 2000212, 2000213, 2000214, 2000217, 2000218, 2000219, 2000226], [2000199, 2000200, 2000202, 2000206, 2000213, 2000228, 2000229, 2000230, 2000231], [12020, 1012000, 1012001, 1012024, 1012025, 1012026, 2000196, 2000214, 2000222, 2000223, 2000225, 2000232, 2000316], [12020, 2000196, 2000208, 2000214, 2000216, 2000227], [12020, 2000216, 2000227, 2000234], [12020, 1012027, 2000195, 2000196, 2000207, 2000209, 2000212, 2000213, 2000214, 2000235, 2000236], [12020, 1012000, 1012001, 1012027, 2000222, 2000223, 2000236], [2000178], [12020, 2000178], [], [], [2000178], [2000189, 2000240], [12020, 2000241, 2000243], [12020], [12020], [12020, 2000244], [12020, 1012000, 1012001, 2000176, 2000178, 2000190, 2000245, 2000246, 2000247], [12020, 1012000, 1012001, 2000176, 2000238], [12020, 1012000, 1012001, 2000176, 2000178, 2000239], [12020, 1012000, 1012001, 2000177, 2000179, 2000239, 2000243], [1012000, 1012001, 2000177, 2000179, 2000239, 2000244], [12020, 1012000, 1012001, 2000179, 2000240], [12005, 12020, 1012000, 1012001, 2000176, 2000178, 2000184, 2000188], [12020], [12020], [12020, 2000240, 2000256], [1012000, 1012001, 2000176, 2000238, 2000245, 2000256, 2000257], [12020, 2000255], [1012000, 1012001, 2000176, 2000178, 2000238, 2000245, 2000255, 2000259], [12020], [12020, 1012000, 1012001, 2000176, 2000178, 2000261], [12020, 2000189], [12020, 1012000, 1012001, 2000176, 2000190, 2000238, 2000239, 2000263], [12020, 2000189], [12020, 1012000, 1012001, 2000176, 2000190, 2000238, 2000239, 2000265], [12020, 1012000, 1012001, 2000177, 2000239, 2000242], [12020, 12022, 1012000, 1012001, 2000176, 2000242], [12020, 1012000, 1012001, 2000177, 2000189, 2000238], [12020, 1012000, 1012001, 2000177, 2000178], [12028, 12029, 12030, 1012031, 2000189, 2000240, 2000271], [12030, 1012031, 2000271], [2000272], [2000176], [12020, 1012000, 1012001, 2000176, 2000241, 2000242, 2000273, 2000274], [12020, 12029, 1012000, 1012001, 2000176, 2000178, 2000241, 2000242, 2000273], [12020, 1012000, 1012001, 2000176, 2000178, 2000241, 2000242, 2000272], [12020, 12030, 1012000, 1012001, 2000177, 2000178, 2000179, 2000238, 2000241, 2000242, 2000272], [12020, 12030, 1012000, 1012001, 2000176, 2000178, 2000189, 2000241, 2000242, 2000272], [12020, 12029, 2000189, 2000240, 2000272], [12029, 1012000, 1012001, 2000176, 2000178, 2000241, 2000242, 2000280], [1012000, 1012001, 2000176, 2000242], [12005, 2000178, 2000187, 2000188, 2000242], [12020, 2000187, 2000189, 2000240], [1012032, 1012033, 1012034, 2000284], [1012000, 1012001, 2000241, 2000283, 2000285], [1012000, 1012001, 2000176, 2000178, 2000241, 2000283, 2000285], [2000240], [12035, 2000288], [12020, 12035, 2000289], [12035, 1012000, 1012001, 2000176, 2000238, 2000290], [12035, 1012000, 1012001, 2000176, 2000178, 2000238, 2000288, 2000290], [12020, 2000244, 2000246, 2000273], [1012000, 1012001, 2000176, 2000239, 2000274, 2000293], [12029, 1012000, 1012001, 2000176, 2000178, 2000239, 2000293], [2000178, 2000190], [1012000, 1012001, 2000176, 2000296, 2000299], [1012000, 1012001, 2000176, 2000274, 2000296, 2000299], [12036, 12037, 2000189, 2000240], [2000189, 2000240, 2000300], [], [1012000, 1012001, 2000177, 2000178, 2000179, 2000190, 2000241, 2000242, 2000296, 2000300, 2000301], [12020, 12038, 1012000, 1012001, 2000177, 2000178, 2000179], [1012042], [1012046, 2000263], [1012047, 2000261], [12020, 2000259, 2000304, 2000305], [12020, 2000257, 2000259, 2000265, 2000305, 2000306, 2000307], [12020, 2000244], [12020, 1012041, 1012043, 1012044, 1012048, 2000308, 2000309, 2000311], [12020, 2000310], [12020, 1012041, 1012042, 1012043, 1012044, 1012045, 1012046, 1012047, 1012048, 2000311], [12020, 12039, 1012000, 1012001, 1012040, 2000176, 2000178, 2000312], [12039, 1012000, 1012001, 2000176, 2000178], [12020, 12021, 1012000, 1012001, 2000177, 2000178, 2000179, 2000243, 2000312], [12020, 12022], [1012000, 1012001, 1012023, 2000176, 2000316], [1012000, 1012001, 1012023, 2000176, 2000316], [], [], []]
noncomputable def exc9 : List Nat := [0, 27, 32, 40, 53, 58, 74, 85, 88, 94, 99, 172]
noncomputable def evM9 (L : List Nat) (code : List En) : Bool := code.all (fun e => okG9 e.2.1 e.2.2.2.1 && (match evG9 e.2.1 e.2.2.2.1 with
  | none => true
  | some v => L.elem v))
set_option maxRecDepth 100000 in
theorem evT9_ok : ∀ mi, mi < nMth → (exc9.elem mi || (!Nat.beq mi mReader && evM9 (evT9.getD mi []) (mQ mi).1)) = true := by decide +kernel
theorem ClT.ev {pl dirty : List Nat} {okg okp : Nat → Nat → Bool} (h : ∀ mi, mi < nMth → (dirty.elem mi || (pl.elem mi || (!exc9.elem mi && (evT9.getD mi []).all (clV9 dirty okg okp)))) = true) : ClT pl dirty okg okp := by
  refine ClT.of (fun mi hm => ?_)
  have h1 := h mi hm
  cases q : dirty.elem mi with
  | true => rfl
  | false =>
    rw [q, Bool.false_or] at h1
    rw [Bool.false_or]
    cases q2 : pl.elem mi with
    | true => rfl
    | false =>
      rw [q2, Bool.false_or, Bool.and_eq_true, Bool.not_eq_true'] at h1
      rw [Bool.false_or]
      have h2 := evT9_ok mi hm
      rw [h1.1, Bool.false_or, Bool.and_eq_true] at h2
      rw [Bool.and_eq_true]
      refine ⟨h2.1, List.all_eq_true.mpr (fun e he => ?_)⟩
      have h3 := List.all_eq_true.mp h2.2 e he
      rw [Bool.and_eq_true] at h3
      refine clG_ev h3.1 (fun v hv => ?_)
      have h4 := h3.2
      rw [hv] at h4
      exact List.all_eq_true.mp h1.2 v (List.elem_iff.mp h4)
/-- a set of numbers as one number -/
noncomputable def mk9m : List Nat → Nat
  | [] => 0
  | i :: r => mk9m r ||| 2 ^ i
theorem mk9m_t {j : Nat} : ∀ l : List Nat, (mk9m l).testBit j = true ↔ j ∈ l := by
  intro l
  induction l with
  | nil => exact ⟨fun h => by rw [show mk9m [] = 0 from rfl, Nat.zero_testBit] at h; exact absurd h Bool.false_ne_true, fun h => by cases h⟩
  | cons i r ih =>
    show (mk9m r ||| 2 ^ i).testBit j = true ↔ _
    rw [Nat.testBit_or, Bool.or_eq_true, ih, Nat.testBit_two_pow, decide_eq_true_eq, List.mem_cons]
    exact ⟨fun h => h.elim Or.inr (fun e => Or.inl e.symm), fun h => h.elim (fun e => Or.inr e.symm) Or.inl⟩
noncomputable def clW9 (m : Nat) (okg okp : Nat → Nat → Bool) (v : Nat) : Bool := bif Nat.blt v 1000000 then okg (v / 1000) (v % 1000) else bif Nat.blt v 2000000 then okp ((v - 1000000) / 1000) ((v - 1000000) % 1000) else !m.testBit (v - 2000000)
theorem clW9_v {dirty : List Nat} {okg okp : Nat → Nat → Bool} {v : Nat} (h : clW9 (mk9m dirty) okg okp v = true) : clV9 dirty okg okp v = true := by
  have key : ∀ (b1 b2 x y e t : Bool), (e = true → t = true) → (bif b1 then x else bif b2 then y else !t) = true → (bif b1 then x else bif b2 then y else !e) = true := by
    intro b1 b2 x y e t het h
    cases b1 <;> cases b2 <;> cases e <;> cases t <;> simp_all
  unfold clW9 at h
  unfold clV9
  exact key _ _ _ _ _ _ (fun q => (mk9m_t dirty).mpr (List.elem_iff.mp q)) h
noncomputable def efg9 (m p : Nat) (okg okp : Nat → Nat → Bool) : Nat → List (List Nat) → Bool
  | _, [] => true
  | i, L :: r => (m.testBit i || (p.testBit i || (!exc9.elem i && L.all (clW9 m okg okp)))) && efg9 m p okg okp (i + 1) r
theorem efg9_s {m p : Nat} {okg okp : Nat → Nat → Bool} : ∀ (T : List (List Nat)) (i : Nat), efg9 m p okg okp i T = true → ∀ j, j < T.length → (m.testBit (i + j) || (p.testBit (i + j) || (!exc9.elem (i + j) && (T.getD j []).all (clW9 m okg okp)))) = true := by
  intro T
  induction T with
  | nil => intro i _ j hj; exact absurd hj (Nat.not_lt_zero _)
  | cons L r ih =>
    intro i h j hj
    have h' : ((m.testBit i || (p.testBit i || (!exc9.elem i && L.all (clW9 m okg okp)))) && efg9 m p okg okp (i + 1) r) = true := h
    rw [Bool.and_eq_true] at h'
    cases j with
    | zero => rw [List.getD_cons_zero]; exact h'.1
    | succ j =>
      have h2 := ih (i + 1) h'.2 j (by rw [List.length_cons] at hj; omega)
      rw [show i + 1 + j = i + (j + 1) by omega] at h2
      rw [List.getD_cons_succ]; exact h2
noncomputable def fN9 (n : Nat) (f : Nat → Bool) : Bool := match n with
  | 0 => f 0
  | k + 1 => f (k + 1)
theorem fN9_e {n : Nat} {f : Nat → Bool} : fN9 n f = f n := by cases n <;> rfl
noncomputable def efd9 (dirty pl : List Nat) (okg okp : Nat → Nat → Bool) : Bool := fN9 (mk9m dirty) (fun m => fN9 (mk9m pl) (fun p => efg9 m p okg okp 0 evT9))
theorem evT9_len : evT9.length = nMth := by decide +kernel
theorem ClT.ef {pl dirty : List Nat} {okg okp : Nat → Nat → Bool} (h : efd9 dirty pl okg okp = true) : ClT pl dirty okg okp := by
  refine ClT.ev (fun mi hm => ?_)
  have h0 : efg9 (mk9m dirty) (mk9m pl) okg okp 0 evT9 = true := by
    have e1 : efd9 dirty pl okg okp = efg9 (mk9m dirty) (mk9m pl) okg okp 0 evT9 := fN9_e.trans fN9_e
    rw [← e1]
    exact h
  have h1 := efg9_s evT9 0 h0 mi (by rw [evT9_len]; exact hm)
  rw [Nat.zero_add] at h1
  cases q : (mk9m dirty).testBit mi with
  | true =>
    rw [List.elem_iff.mpr ((mk9m_t dirty).mp q)]; rfl
  | false =>
    rw [q, Bool.false_or] at h1
    cases q2 : (mk9m pl).testBit mi with
    | true => rw [List.elem_iff.mpr ((mk9m_t pl).mp q2), Bool.true_or, Bool.or_true]
    | false =>
      rw [q2, Bool.false_or, Bool.and_eq_true] at h1
      have h3 : (evT9.getD mi []).all (clV9 dirty okg okp) = true := List.all_eq_true.mpr (fun v hv => clW9_v (List.all_eq_true.mp h1.2 v hv))
      rw [h1.1, h3, show (true && true) = true from rfl, Bool.or_true, Bool.or_true]
end PT3x6
