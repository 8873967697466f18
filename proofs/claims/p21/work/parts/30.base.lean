/-! ===== numbers, bounds, what is kept ===== -/
theorem bif_t {b : Bool} {X : Prop} (h : b = true) (x : X) : bif b then X else False := by rw [h]; exact x
theorem bif_e {b : Bool} {X Y : Prop} (h : b = true) (x : X) : bif b then X else Y := by rw [h]; exact x
theorem bif_t2 {b c : Bool} {X : Prop} (h : b = true) (h2 : c = true) (x : X) : bif (b && c) then X else False := by rw [h, h2]; exact x
theorem vp_of {i : Int32} {n : Nat} {a : Int} (h : i.toInt = a) (h1 : 0 ≤ a) (h2 : a < n) : vp_in i n := vp_in_iff.mpr (by rw [h]; exact ⟨h1, h2⟩)
theorem ti_bmod {z : Int} (h1 : -2147483648 ≤ z) (h2 : z < 2147483648) : z.bmod (2 ^ 32) = z := Int.bmod_eq_of_le (by omega) (by omega)
theorem ti_add {x y : Int32} {a b : Int} (hx : x.toInt = a) (hy : y.toInt = b) (h : -2147483648 ≤ a + b ∧ a + b < 2147483648) : (x + y).toInt = a + b := by
  rw [Int32.toInt_add, hx, hy]; exact ti_bmod h.1 h.2
theorem ti_sub {x y : Int32} {a b : Int} (hx : x.toInt = a) (hy : y.toInt = b) (h : -2147483648 ≤ a - b ∧ a - b < 2147483648) : (x - y).toInt = a - b := by
  rw [Int32.toInt_sub, hx, hy]; exact ti_bmod h.1 h.2
theorem ti_mul {x y : Int32} {a b : Int} (hx : x.toInt = a) (hy : y.toInt = b) (h : -2147483648 ≤ a * b ∧ a * b < 2147483648) : (x * y).toInt = a * b := by
  rw [Int32.toInt_mul, hx, hy]; exact ti_bmod h.1 h.2
theorem ci_lt {x y : Int32} {a b : Int} (hx : x.toInt = a) (hy : y.toInt = b) (h : x < y) : a < b := by rw [← hx, ← hy]; exact Int32.lt_iff_toInt_lt.mp h
theorem ci_nlt {x y : Int32} {a b : Int} (hx : x.toInt = a) (hy : y.toInt = b) (h : ¬ x < y) : b ≤ a := by rw [← hx, ← hy]; exact Int.not_lt.mp (fun q => h (Int32.lt_iff_toInt_lt.mpr q))
theorem ci_le {x y : Int32} {a b : Int} (hx : x.toInt = a) (hy : y.toInt = b) (h : x ≤ y) : a ≤ b := by rw [← hx, ← hy]; exact Int32.le_iff_toInt_le.mp h
theorem ci_nle {x y : Int32} {a b : Int} (hx : x.toInt = a) (hy : y.toInt = b) (h : ¬ x ≤ y) : b < a := by rw [← hx, ← hy]; exact Int.not_le.mp (fun q => h (Int32.le_iff_toInt_le.mpr q))
theorem ci_eq {x y : Int32} {a b : Int} (hx : x.toInt = a) (hy : y.toInt = b) (h : x = y) : a = b := by rw [← hx, ← hy, h]
theorem ci_ne {x y : Int32} {a b : Int} (hx : x.toInt = a) (hy : y.toInt = b) (h : ¬ x = y) : ¬ a = b := fun q => h (Int32.toInt_inj.mp (by rw [hx, hy]; exact q))
theorem tn_of {x : Int32} {a : Int} (hx : x.toInt = a) (h : 0 ≤ a) : ((x.toNatClampNeg : Nat) : Int) = a := by
  have h1 : x.toNatClampNeg = x.toInt.toNat := rfl
  rw [h1, hx]; omega
/-- bounds of the ints of an object, by class and place -/
noncomputable def bnd (ci k : Nat) : Option (Int × Int) := match ci, k with
  | 0, 4 => some (0, 6)
  | 2, 2 => some (0, 60)
  | 3, 1 => some (0, 3)
  | 5, 2 => some (0, 31)
  | 6, 1 => some (0, 900)
  | 6, 4 => some (0, 900)
  | 6, 5 => some (0, 900)
  | 6, 6 => some (0, 900)
  | 7, 2 => some (0, 5)
  | 7, 5 => some (0, 5)
  | 8, 2 => some (0, 8)
  | 9, 1 => some (0, 12)
  | 10, 1 => some (-1, 60)
  | 11, 13 => some (0, 3)
  | 12, 8 => some (0, 900)
  | 12, 9 => some (0, 900)
  | 12, 15 => some (0, 900)
  | 12, 16 => some (0, 900)
  | 12, 23 => some (0, 3)
  | 12, 27 => some (0, 30)
  | 12, 12 => some (0, 7)
  | 12, 43 => some (0, 300)
  | 12, 42 => some (0, 65535)
  | 12, 14 => some (0, 4)
  | 12, 41 => some (0, 1)
  | 12, 40 => some (0, 1)
  | 12, 25 => some (0, 1)
  | 12, 24 => some (0, 1)
  | 6, 3 => some (0, 1)
  | 4, 0 => some (0, 1)
  | 2, 0 => some (0, 1)
  | 1, 1 => some (0, 1)
  | 1, 0 => some (0, 1)
  | _, _ => none
/-- bounds of the elements of an array -/
noncomputable def bna (a : Nat) : Option (Int × Int) := match a with
  | 36 => some (0, 30)
  | 99 => some (-1, 60)
  | 105 => some (0, 30)
  | 102 => some (-2147483648, 2147483647)
  | _ => none
noncomputable def clsOf (o : Nat) : Nat := (shl.getD (o - 1) (999, 0)).1
/-- what stands in a cell of the reference's blocks, by its place alone -/
noncomputable def CB (j : Nat) (z : Int) : Prop := (j % 324 = 0 → 0 ≤ z ∧ z ≤ 6) ∧ (j % 324 = 3 → 0 ≤ z) ∧ (j % 324 = 53 → 0 ≤ z ∧ z ≤ 30) ∧ (54 ≤ j % 324 → (j % 324 - 54) % 9 = 0 → 0 ≤ z ∧ z ≤ 8) ∧ (54 ≤ j % 324 → (j % 324 - 54) % 9 = 8 → 0 ≤ z ∧ z ≤ 30) ∧ (54 ≤ j % 324 → ¬ (j % 324 - 54) % 9 = 7 → ¬ (j % 324 - 54) % 9 = 5 → 0 ≤ z ∧ z ≤ 99)
/-- what a step's record may hold: where it goes on; slices, men, numbers that may stand there -/
noncomputable def Rec (k f1 f2 f3 f5 f8 s lim men : Int) : Prop := s < f8 ∧ f8 ≤ lim ∧ (k = 0 → 1 ≤ f1 ∧ f1 ≤ 30 ∧ 1 ≤ f2 ∧ f2 ≤ 30 ∧ 1 ≤ f3 ∧ f3 ≤ 30) ∧ (k = 1 → 1 ≤ f1 ∧ f1 ≤ 30 ∧ 2 ≤ f2 ∧ f2 ≤ 30) ∧ (k = 2 ∨ k = 3 → 0 ≤ f1 ∧ f1 < men ∧ 1 ≤ f2 ∧ f2 ≤ 30) ∧ (k = 4 → 1 ≤ f1 ∧ f1 ≤ 9) ∧ (k = 6 → (f5 = 1 → 1 ≤ f1 ∧ f1 ≤ 30) ∧ (¬ f5 = 1 → 0 ≤ f1 ∧ f1 < men))
noncomputable def RecOk (f : Nat → Int32) (b s : Nat) : Prop := Rec (f (324 * b + 54 + 9 * s)).toInt (f (324 * b + 54 + 9 * s + 1)).toInt (f (324 * b + 54 + 9 * s + 2)).toInt (f (324 * b + 54 + 9 * s + 3)).toInt (f (324 * b + 54 + 9 * s + 5)).toInt (f (324 * b + 54 + 9 * s + 8)).toInt (s : Int) (f (324 * b + 53)).toInt (f (324 * b)).toInt
/-- the blocks: by what is due to a man that there is can be divided; the days are sound -/
noncomputable def CK (f : Nat → Int32) : Prop := (∀ j, CB j (f j).toInt) ∧ (∀ b k : Nat, b < 5 → (k : Int) < (f (324 * b)).toInt → 1 ≤ (f (324 * b + 40 + k)).toInt) ∧ ∀ b s : Nat, b < 4 → ¬ (f (324 * b + 52)).toInt = 0 → (s : Int) < (f (324 * b + 53)).toInt → RecOk f b s
/-- all that has a bound keeps it -/
noncomputable def Bd (I : Im) : Prop := (∀ o k lo hi, bnd (clsOf o) k = some (lo, hi) → lo ≤ (I o k).toInt ∧ (I o k).toInt ≤ hi) ∧ (∀ a j lo hi, bna a = some (lo, hi) → lo ≤ (I a j).toInt ∧ (I a j).toInt ≤ hi) ∧ CK (I 102)
theorem Bd.o {I : Im} (h : Bd I) {o ci k : Nat} {lo hi : Int} (ho : isO 112 o ci = true) (hb : bnd ci k = some (lo, hi)) : lo ≤ (I o k).toInt ∧ (I o k).toInt ≤ hi := h.1 o k lo hi (by rw [show clsOf o = ci from (isO_spec ho).2.2]; exact hb)
theorem Bd.a {I : Im} (h : Bd I) {a : Nat} (j : Nat) {lo hi : Int} (hb : bna a = some (lo, hi)) : lo ≤ (I a j).toInt ∧ (I a j).toInt ≤ hi := h.2.1 a j lo hi hb
theorem Bd.ck {I : Im} (h : Bd I) : CK (I 102) := h.2.2
/-- what stands in a cell of the blocks -/
theorem Bd.c {I : Im} (h : Bd I) {j : Nat} {z : Int} (hj : (j : Int) = z) : (z % 324 = 0 → 0 ≤ (I 102 j).toInt ∧ (I 102 j).toInt ≤ 6) ∧ (z % 324 = 3 → 0 ≤ (I 102 j).toInt) ∧ (z % 324 = 53 → 0 ≤ (I 102 j).toInt ∧ (I 102 j).toInt ≤ 30) ∧ (54 ≤ z % 324 → (z % 324 - 54) % 9 = 0 → 0 ≤ (I 102 j).toInt ∧ (I 102 j).toInt ≤ 8) ∧ (54 ≤ z % 324 → (z % 324 - 54) % 9 = 8 → 0 ≤ (I 102 j).toInt ∧ (I 102 j).toInt ≤ 30) ∧ (54 ≤ z % 324 → ¬ (z % 324 - 54) % 9 = 7 → ¬ (z % 324 - 54) % 9 = 5 → 0 ≤ (I 102 j).toInt ∧ (I 102 j).toInt ≤ 99) := by
  obtain ⟨h1, h2, h3, h4, h5, h6⟩ := h.2.2.1 j
  exact ⟨fun q => h1 (by omega), fun q => h2 (by omega), fun q => h3 (by omega), fun q r => h4 (by omega) (by omega), fun q r => h5 (by omega) (by omega), fun q r t => h6 (by omega) (by omega) (by omega)⟩
theorem Bd.up {I : Im} (h : Bd I) {a j : Nat} {v : Int32} (h1 : ∀ lo hi, bnd (clsOf a) j = some (lo, hi) → lo ≤ v.toInt ∧ v.toInt ≤ hi) (h2 : ∀ lo hi, bna a = some (lo, hi) → lo ≤ v.toInt ∧ v.toInt ≤ hi) (h3 : a = 102 → CK (upd (I 102) j v)) : Bd (uI I a j v) := by
  refine ⟨fun o k lo hi hb => ?_, fun o k lo hi hb => ?_, ?_⟩
  · by_cases ho : o = a
    · subst ho
      rw [uI_eq]
      by_cases hk : k = j
      · subst hk; rw [show upd (I o) k v k = v from if_pos rfl]; exact h1 lo hi hb
      · rw [show upd (I o) j v k = I o k from if_neg hk]; exact h.1 o k lo hi hb
    · rw [uI_ne ho]; exact h.1 o k lo hi hb
  · by_cases ho : o = a
    · subst ho
      rw [uI_eq]
      by_cases hk : k = j
      · subst hk; rw [show upd (I o) k v k = v from if_pos rfl]; exact h2 lo hi hb
      · rw [show upd (I o) j v k = I o k from if_neg hk]; exact h.2.1 o k lo hi hb
    · rw [uI_ne ho]; exact h.2.1 o k lo hi hb
  · by_cases ho : a = 102
    · have q := h3 ho
      subst ho
      rw [uI_eq]; exact q
    · rw [uI_ne (fun q => ho q.symm)]; exact h.2.2
theorem bna_O {o ci : Nat} (ho : isO 112 o ci = true) (hci : ci < 13) : bna o = none := by
  have h : ∀ o, o < 113 → ∀ ci, ci < 13 → isO 112 o ci = true → bna o = none := by decide +kernel
  exact h o (by have := (isO_spec ho).2.1; omega) ci hci ho
/-- a place of an object without a bound -/
theorem Bd.o0 {I : Im} (h : Bd I) {o ci j : Nat} {v : Int32} (ho : isO 112 o ci = true) (hci : ci < 13) (hb : bnd ci j = none) : Bd (uI I o j v) :=
  h.up (fun lo hi q => by rw [show clsOf o = ci from (isO_spec ho).2.2, hb] at q; cases q) (fun lo hi q => by rw [bna_O ho hci] at q; cases q) (fun q => by subst q; cases (bna_O ho hci))
theorem Bd.o1 {I : Im} (h : Bd I) {o ci j : Nat} {v : Int32} {lo hi a : Int} (ho : isO 112 o ci = true) (hci : ci < 13) (hb : bnd ci j = some (lo, hi)) (hv : v.toInt = a) (h1 : lo ≤ a ∧ a ≤ hi) : Bd (uI I o j v) :=
  h.up (fun lo2 hi2 q => by rw [show clsOf o = ci from (isO_spec ho).2.2, hb] at q; cases q; rw [hv]; exact h1) (fun lo hi q => by rw [bna_O ho hci] at q; cases q) (fun q => by subst q; cases (bna_O ho hci))
theorem bnd_A {a t : Nat} (ha : isA 112 a t = true) (j : Nat) : bnd (clsOf a) j = none := by
  rw [show clsOf a = 100 + t from (isA_spec ha).2.2]
  unfold bnd
  split <;> first | rfl | omega
theorem Bd.a0 {I : Im} (h : Bd I) {a t j : Nat} {v : Int32} (ha : isA 112 a t = true) (hb : bna a = none) : Bd (uI I a j v) :=
  h.up (fun lo hi q => by rw [bnd_A ha] at q; cases q) (fun lo hi q => by rw [hb] at q; cases q) (fun q => by subst q; cases hb)
theorem Bd.a1 {I : Im} (h : Bd I) {a t j : Nat} {v : Int32} {lo hi z : Int} (ha : isA 112 a t = true) (hb : bna a = some (lo, hi)) (hv : v.toInt = z) (h1 : lo ≤ z ∧ z ≤ hi) (hn : ¬ a = 102 := by decide) : Bd (uI I a j v) :=
  h.up (fun lo hi q => by rw [bnd_A ha] at q; cases q) (fun lo2 hi2 q => by rw [hb] at q; cases q; rw [hv]; exact h1) (fun q => absurd q hn)
/-- an int's number is in its range -/
theorem i32 (x : Int32) : -2147483648 ≤ x.toInt ∧ x.toInt < 2147483648 := ⟨Int32.le_toInt x, Int32.toInt_lt x⟩
theorem tl_i2l {x : Int32} {a : Int} (h : x.toInt = a) : x.toInt64.toInt = a := by rw [← h]; exact Int32.toInt_toInt64 x
theorem tl_bmod {z : Int} (h1 : -9223372036854775808 ≤ z) (h2 : z < 9223372036854775808) : z.bmod (2 ^ 64) = z := Int.bmod_eq_of_le (by omega) (by omega)
theorem tl_add {x y : Int64} {a b : Int} (hx : x.toInt = a) (hy : y.toInt = b) (h : -9223372036854775808 ≤ a + b ∧ a + b < 9223372036854775808) : (x + y).toInt = a + b := by
  rw [Int64.toInt_add, hx, hy]; exact tl_bmod h.1 h.2
theorem tl_sub {x y : Int64} {a b : Int} (hx : x.toInt = a) (hy : y.toInt = b) (h : -9223372036854775808 ≤ a - b ∧ a - b < 9223372036854775808) : (x - y).toInt = a - b := by
  rw [Int64.toInt_sub, hx, hy]; exact tl_bmod h.1 h.2
theorem cl_lt {x y : Int64} {a b : Int} (hx : x.toInt = a) (hy : y.toInt = b) (h : x < y) : a < b := by rw [← hx, ← hy]; exact Int64.lt_iff_toInt_lt.mp h
theorem cl_nlt {x y : Int64} {a b : Int} (hx : x.toInt = a) (hy : y.toInt = b) (h : ¬ x < y) : b ≤ a := by rw [← hx, ← hy]; exact Int.not_lt.mp (fun q => h (Int64.lt_iff_toInt_lt.mpr q))
theorem cl_le {x y : Int64} {a b : Int} (hx : x.toInt = a) (hy : y.toInt = b) (h : x ≤ y) : a ≤ b := by rw [← hx, ← hy]; exact Int64.le_iff_toInt_le.mp h
theorem cl_nle {x y : Int64} {a b : Int} (hx : x.toInt = a) (hy : y.toInt = b) (h : ¬ x ≤ y) : b < a := by rw [← hx, ← hy]; exact Int.not_le.mp (fun q => h (Int64.le_iff_toInt_le.mpr q))
theorem cl_eq {x y : Int64} {a b : Int} (hx : x.toInt = a) (hy : y.toInt = b) (h : x = y) : a = b := by rw [← hx, ← hy, h]
theorem cl_ne {x y : Int64} {a b : Int} (hx : x.toInt = a) (hy : y.toInt = b) (h : ¬ x = y) : ¬ a = b := fun q => h (Int64.toInt_inj.mp (by rw [hx, hy]; exact q))
theorem i64 (x : Int64) : -9223372036854775808 ≤ x.toInt ∧ x.toInt < 9223372036854775808 := ⟨Int64.le_toInt x, Int64.toInt_lt x⟩
theorem ti_max {x y : Int32} {a b : Int} (hx : x.toInt = a) (hy : y.toInt = b) : (if x < y then y else x).toInt = max a b := by
  by_cases h : x < y
  · rw [if_pos h, hy]; have := ci_lt hx hy h; omega
  · rw [if_neg h, hx]; have := ci_nlt hx hy h; omega
theorem ti_min {x y : Int32} {a b : Int} (hx : x.toInt = a) (hy : y.toInt = b) : (if y < x then y else x).toInt = min a b := by
  by_cases h : y < x
  · rw [if_pos h, hy]; have := ci_lt hy hx h; omega
  · rw [if_neg h, hx]; have := ci_nlt hy hx h; omega
theorem tl_l2i {x : Int64} {a : Int} (hx : x.toInt = a) (h : -2147483648 ≤ a ∧ a < 2147483648) : x.toInt32.toInt = a := by
  rw [Int64.toInt_toInt32, hx]; exact ti_bmod h.1 h.2
theorem Bd.cp {I : Im} (h : Bd I) {a0 a1 t sp dp n : Nat} (ha : isA 112 a1 t = true) (hb : bna a1 = none) : Bd (cI I a0 a1 sp dp n) := by
  have hn : ¬ (102 : Nat) = a1 := fun q => by subst q; cases hb
  refine ⟨fun o k lo hi q => ?_, fun o k lo hi q => ?_, ?_⟩
  · by_cases ho : o = a1
    · subst ho; rw [bnd_A ha] at q; cases q
    · rw [show cI I a0 a1 sp dp n o = I o from if_neg ho]; exact h.1 o k lo hi q
  · by_cases ho : o = a1
    · subst ho; rw [hb] at q; cases q
    · rw [show cI I a0 a1 sp dp n o = I o from if_neg ho]; exact h.2.1 o k lo hi q
  · rw [show cI I a0 a1 sp dp n 102 = I 102 from if_neg hn]; exact h.2.2
theorem shl1 {y : Int32} {a : Int} (hy : y.toInt = a) (h : 0 ≤ a ∧ a ≤ 12) : 1 ≤ ((1 : Int32) <<< (y &&& 31)).toInt ∧ ((1 : Int32) <<< (y &&& 31)).toInt ≤ 4096 ∧ (a ≤ 11 → ((1 : Int32) <<< (y &&& 31)).toInt ≤ 2048) := by
  have hz : ∃ k : Nat, k ≤ 12 ∧ y = nI k := ⟨a.toNat, by omega, Int32.toInt_inj.mp (by rw [hy, nI_toInt (by omega)]; omega)⟩
  obtain ⟨k, hk, rfl⟩ := hz
  rw [nI_toInt (by omega)] at hy
  have hd : ∀ k, k ≤ 12 → (1 ≤ ((1 : Int32) <<< (nI k &&& 31)).toInt ∧ ((1 : Int32) <<< (nI k &&& 31)).toInt ≤ 4096 ∧ (k ≤ 11 → ((1 : Int32) <<< (nI k &&& 31)).toInt ≤ 2048)) := by decide +kernel
  obtain ⟨h1, h2, h3⟩ := hd k hk
  exact ⟨h1, h2, fun q => h3 (by omega)⟩
theorem bl_of {x : Int32} (h : 0 ≤ x.toInt ∧ x.toInt ≤ 1) : x = 0 ∨ x = 1 := by
  by_cases hx : x.toInt = 0
  · exact Or.inl (Int32.toInt_inj.mp hx)
  · exact Or.inr (Int32.toInt_inj.mp (show x.toInt = 1 by omega))
theorem bl_ti {x : Int32} (h : x = 0 ∨ x = 1) : 0 ≤ x.toInt ∧ x.toInt ≤ 1 := by
  rcases h with h | h <;> subst h <;> decide
theorem rd_ne {I : Im} {a j o k : Nat} {v : Int32} (h : ¬ o = a) : uI I a j v o k = I o k := congrFun (uI_ne h) k
theorem rd_k {I : Im} {o j k : Nat} {v : Int32} (h : ¬ k = j) : uI I o j v o k = I o k := by rw [uI_eq]; exact if_neg h
theorem rd_eq {I : Im} {o j : Nat} {v : Int32} : uI I o j v o j = v := by rw [uI_eq]; exact if_pos rfl
theorem rd_c {I : Im} {a0 a1 sp dp n o k : Nat} (h : ¬ o = a1) : cI I a0 a1 sp dp n o k = I o k := congrFun (show cI I a0 a1 sp dp n o = I o from if_neg h) k
theorem cne {o a c e : Nat} (h1 : clsOf o = c) (h2 : clsOf a = e) (h : Nat.beq c e = false) : ¬ o = a := fun q => by
  subst q; rw [h1] at h2; subst h2; rw [Nat.beq_refl] at h; cases h
theorem clO {o c : Nat} (h : isO 112 o c = true) : clsOf o = c := (isO_spec h).2.2
theorem clA {o t : Nat} (h : isA 112 o t = true) : clsOf o = 100 + t := (isA_spec h).2.2
theorem ti_nat {x : Int32} {k : Nat} (hk : k < 2147483648) (h : x.toInt = (k : Int)) : x.toBitVec.toNat = k := by
  have h1 : x.toInt = x.toBitVec.toInt := rfl
  rw [h1, BitVec.toInt_eq_toNat_cond] at h
  have h2 := x.toBitVec.isLt
  split at h <;> omega
theorem or12 {x y : Int32} {a b : Int} (hx : x.toInt = a) (hy : y.toInt = b) (ha : 0 ≤ a ∧ a ≤ 4095) (hb : 0 ≤ b ∧ b ≤ 4095) : 0 ≤ (x ||| y).toInt ∧ (x ||| y).toInt ≤ 4095 := by
  have h1 := ti_nat (x := x) (k := a.toNat) (by omega) (by omega)
  have h2 := ti_nat (x := y) (k := b.toNat) (by omega) (by omega)
  have h3 : (x ||| y).toBitVec.toNat = a.toNat ||| b.toNat := by
    rw [Int32.toBitVec_or, BitVec.toNat_or, h1, h2]
  have h4 : a.toNat ||| b.toNat < 2 ^ 12 := Nat.or_lt_two_pow (by omega) (by omega)
  have h5 : (x ||| y).toInt = (x ||| y).toBitVec.toInt := rfl
  rw [h5, BitVec.toInt_eq_toNat_cond, h3]
  have h6 : (2 : Nat) ^ 12 = 4096 := by decide
  split <;> omega
theorem upd_i {f : Nat → Int32} {j k : Nat} {v : Int32} (h : ¬ k = j) : upd f j v k = f k := if_neg h
theorem upd_s {f : Nat → Int32} {j : Nat} {v : Int32} : upd f j v j = v := if_pos rfl
/-- a cell of the blocks that none of their laws speaks of -/
theorem CK.free {f : Nat → Int32} (h : CK f) {j : Nat} {v : Int32} (h1 : 0 < j % 324) (h2 : ¬ j % 324 = 3) (h3 : j % 324 < 40 ∨ (46 ≤ j % 324 ∧ j % 324 < 52)) : CK (upd f j v) := by
  have hs : ∀ k : Nat, k % 324 = 0 ∨ k % 324 = 3 ∨ (40 ≤ k % 324 ∧ k % 324 ≤ 45) ∨ 52 ≤ k % 324 → upd f j v k = f k := fun k hk => upd_i (by omega)
  refine ⟨fun k => ?_, fun b k hb hk => ?_, fun b s hb hd hs2 => ?_⟩
  · by_cases hk : k = j
    · subst hk
      rw [upd_s]
      unfold CB
      omega
    · rw [upd_i hk]; exact h.1 k
  · rw [hs _ (by omega)] at hk
    have h6 := (h.1 (324 * b)).1 (by omega)
    rw [hs _ (by omega)]
    exact h.2.1 b k hb hk
  · rw [hs _ (by omega)] at hd hs2
    have h6 := (h.1 (324 * b + 53)).2.2.1 (by omega)
    have q := h.2.2 b s hb hd hs2
    unfold RecOk at q ⊢
    simp only [hs _ (show (324 * b + 54 + 9 * s + 8) % 324 = 0 ∨ (324 * b + 54 + 9 * s + 8) % 324 = 3 ∨ (40 ≤ (324 * b + 54 + 9 * s + 8) % 324 ∧ (324 * b + 54 + 9 * s + 8) % 324 ≤ 45) ∨ 52 ≤ (324 * b + 54 + 9 * s + 8) % 324 by omega), hs (324 * b + 53) (by omega), hs (324 * b) (by omega), hs (324 * b + 54 + 9 * s) (by omega), hs (324 * b + 54 + 9 * s + 1) (by omega), hs (324 * b + 54 + 9 * s + 2) (by omega), hs (324 * b + 54 + 9 * s + 3) (by omega), hs (324 * b + 54 + 9 * s + 5) (by omega)]
    exact q
theorem Bd.cfree {I : Im} (h : Bd I) {i v : Int32} {z : Int} (hi : i.toInt = z) (h0 : 0 ≤ z) (h1 : 0 < z % 324) (h2 : ¬ z % 324 = 3) (h3 : z % 324 < 40 ∨ (46 ≤ z % 324 ∧ z % 324 < 52)) : Bd (uI I 102 (Int32.toNatClampNeg i) v) := by
  have hj := tn_of hi h0
  exact h.up (fun lo hi q => by cases q) (fun lo hi q => by cases q; exact ⟨Int32.le_toInt _, by have := Int32.toInt_lt v; omega⟩) (fun _ => h.ck.free (by omega) (by omega) (by omega))
theorem hb102 {I : Im} (h : Bd I) {j : Nat} {v : Int32} (hc : CK (upd (I 102) j v)) : Bd (uI I 102 j v) :=
  h.up (fun lo hi q => by cases q) (fun lo hi q => by cases q; exact ⟨Int32.le_toInt _, by have := Int32.toInt_lt v; omega⟩) (fun _ => hc)
theorem CK.known {f : Nat → Int32} (h : CK f) {j : Nat} {v : Int32} (h1 : j % 324 = 3) (hv : 0 ≤ v.toInt) : CK (upd f j v) := by
  have hs : ∀ k : Nat, ¬ k % 324 = 3 → upd f j v k = f k := fun k hk => upd_i (by omega)
  refine ⟨fun k => ?_, fun b k hb hk => ?_, fun b s hb hd hs2 => ?_⟩
  · by_cases hk : k = j
    · subst hk
      rw [upd_s]
      unfold CB
      omega
    · rw [upd_i hk]; exact h.1 k
  · rw [hs _ (by omega)] at hk
    have h6 := (h.1 (324 * b)).1 (by omega)
    rw [hs _ (by omega)]
    exact h.2.1 b k hb hk
  · rw [hs _ (by omega)] at hd hs2
    have h6 := (h.1 (324 * b + 53)).2.2.1 (by omega)
    have q := h.2.2 b s hb hd hs2
    unfold RecOk at q ⊢
    simp only [hs (324 * b + 54 + 9 * s + 8) (by omega), hs (324 * b + 53) (by omega), hs (324 * b) (by omega), hs (324 * b + 54 + 9 * s) (by omega), hs (324 * b + 54 + 9 * s + 1) (by omega), hs (324 * b + 54 + 9 * s + 2) (by omega), hs (324 * b + 54 + 9 * s + 3) (by omega), hs (324 * b + 54 + 9 * s + 5) (by omega)]
    exact q
theorem Bd.cknown {I : Im} (h : Bd I) {i v : Int32} {z y : Int} (hi : i.toInt = z) (hv : v.toInt = y) (h0 : 0 ≤ z) (h1 : z % 324 = 3) (h2 : 0 ≤ y) : Bd (uI I 102 (Int32.toNatClampNeg i) v) := by
  have hj := tn_of hi h0
  exact hb102 h (h.ck.known (by omega) (by omega))
theorem CK.new {f : Nat → Int32} (h : CK f) {j : Nat} {v : Int32} (h1 : 1350 ≤ j) (h2 : j < 1620) (hv : CB j v.toInt) : CK (upd f j v) := by
  have hs : ∀ k : Nat, k < 1350 → upd f j v k = f k := fun k hk => upd_i (by omega)
  refine ⟨fun k => ?_, fun b k hb hk => ?_, fun b s hb hd hs2 => ?_⟩
  · by_cases hk : k = j
    · subst hk
      rw [upd_s]
      exact hv
    · rw [upd_i hk]; exact h.1 k
  · rw [hs _ (by omega)] at hk
    have h6 := (h.1 (324 * b)).1 (by omega)
    rw [hs _ (by omega)]
    exact h.2.1 b k hb hk
  · rw [hs _ (by omega)] at hd hs2
    have h6 := (h.1 (324 * b + 53)).2.2.1 (by omega)
    have q := h.2.2 b s hb hd hs2
    unfold RecOk at q ⊢
    simp only [hs (324 * b + 54 + 9 * s + 8) (by omega), hs (324 * b + 53) (by omega), hs (324 * b) (by omega), hs (324 * b + 54 + 9 * s) (by omega), hs (324 * b + 54 + 9 * s + 1) (by omega), hs (324 * b + 54 + 9 * s + 2) (by omega), hs (324 * b + 54 + 9 * s + 3) (by omega), hs (324 * b + 54 + 9 * s + 5) (by omega)]
    exact q
theorem Bd.cnew {I : Im} (h : Bd I) {i v : Int32} {z y : Int} (hi : i.toInt = z) (hv : v.toInt = y) (h0 : 1350 ≤ z) (h1 : z < 1620) (h2 : (z - 1350) % 9 = 7 ∨ (z - 1350) % 9 = 5 ∨ (0 ≤ y ∧ y ≤ 99 ∧ ((z - 1350) % 9 = 0 → y ≤ 8) ∧ ((z - 1350) % 9 = 8 → y ≤ 30))) : Bd (uI I 102 (Int32.toNatClampNeg i) v) := by
  have hj := tn_of hi (by omega)
  refine hb102 h (h.ck.new (by omega) (by omega) ?_)
  unfold CB
  omega
theorem CK.second {f : Nat → Int32} (h : CK f) {j : Nat} {v : Int32} (h1 : 40 ≤ j % 324 ∧ j % 324 < 46) (hv : 1 ≤ v.toInt) : CK (upd f j v) := by
  have hs : ∀ k : Nat, ¬ (40 ≤ k % 324 ∧ k % 324 < 46) → upd f j v k = f k := fun k hk => upd_i (fun q => hk (by subst q; exact h1))
  refine ⟨fun k => ?_, fun b k hb hk => ?_, fun b s hb hd hs2 => ?_⟩
  · by_cases hk : k = j
    · subst hk
      rw [upd_s]
      unfold CB
      omega
    · rw [upd_i hk]; exact h.1 k
  · rw [hs _ (by omega)] at hk
    by_cases q : 324 * b + 40 + k = j
    · rw [q, upd_s]; exact hv
    · rw [upd_i q]; exact h.2.1 b k hb hk
  · rw [hs _ (by omega)] at hd hs2
    have h6 := (h.1 (324 * b + 53)).2.2.1 (by omega)
    have q := h.2.2 b s hb hd hs2
    unfold RecOk at q ⊢
    simp only [hs (324 * b + 54 + 9 * s + 8) (by omega), hs (324 * b + 53) (by omega), hs (324 * b) (by omega), hs (324 * b + 54 + 9 * s) (by omega), hs (324 * b + 54 + 9 * s + 1) (by omega), hs (324 * b + 54 + 9 * s + 2) (by omega), hs (324 * b + 54 + 9 * s + 3) (by omega), hs (324 * b + 54 + 9 * s + 5) (by omega)]
    exact q
theorem Bd.csecond {I : Im} (h : Bd I) {i v : Int32} {z y : Int} (hi : i.toInt = z) (hv : v.toInt = y) (h0 : 0 ≤ z) (h1 : 40 ≤ z % 324 ∧ z % 324 < 46) (h2 : 1 ≤ y) : Bd (uI I 102 (Int32.toNatClampNeg i) v) := by
  have hj := tn_of hi h0
  exact hb102 h (h.ck.second (by omega) (by omega))
theorem Bd.div {I : Im} (h : Bd I) {b k : Nat} {i : Int32} {z : Int} (hi : i.toInt = z) (hz : z = 324 * b + 40 + k) (hb : b < 5) (hk : (k : Int) < (I 102 (324 * b)).toInt) : 1 ≤ (I 102 (Int32.toNatClampNeg i)).toInt := by
  have hj := tn_of hi (by omega)
  rw [show Int32.toNatClampNeg i = 324 * b + 40 + k by omega]
  exact h.ck.2.1 b k hb hk
theorem ori {x y : Int32} {a b : Int} (hx : x.toInt = a) (hy : y.toInt = b) (ha : 0 ≤ a) (hb : 0 ≤ b) : 0 ≤ (x ||| y).toInt := by
  have r1 := i32 x
  have r2 := i32 y
  have h1 := ti_nat (x := x) (k := a.toNat) (by omega) (by omega)
  have h2 := ti_nat (x := y) (k := b.toNat) (by omega) (by omega)
  have h3 : (x ||| y).toBitVec.toNat = a.toNat ||| b.toNat := by
    rw [Int32.toBitVec_or, BitVec.toNat_or, h1, h2]
  have h4 : a.toNat ||| b.toNat < 2 ^ 31 := Nat.or_lt_two_pow (by omega) (by omega)
  have h5 : (x ||| y).toInt = (x ||| y).toBitVec.toInt := rfl
  rw [h5, BitVec.toInt_eq_toNat_cond, h3]
  have h6 : (2 : Nat) ^ 31 = 2147483648 := by decide
  split <;> omega
theorem shlp {y : Int32} {a : Int} (hy : y.toInt = a) (h : 0 ≤ a ∧ a ≤ 30) : 1 ≤ ((1 : Int32) <<< (y &&& 31)).toInt := by
  have hz : ∃ k : Nat, k ≤ 30 ∧ y = nI k := ⟨a.toNat, by omega, Int32.toInt_inj.mp (by rw [hy, nI_toInt (by omega)]; omega)⟩
  obtain ⟨k, hk, rfl⟩ := hz
  have hd : ∀ k, k ≤ 30 → 1 ≤ ((1 : Int32) <<< (nI k &&& 31)).toInt := by decide +kernel
  exact hd k hk
theorem xori {x y : Int32} {a b : Int} (hx : x.toInt = a) (hy : y.toInt = b) (ha : 0 ≤ a) (hb : 0 ≤ b) : 0 ≤ (x ^^^ y).toInt := by
  have r1 := i32 x
  have r2 := i32 y
  have h1 := ti_nat (x := x) (k := a.toNat) (by omega) (by omega)
  have h2 := ti_nat (x := y) (k := b.toNat) (by omega) (by omega)
  have h3 : (x ^^^ y).toBitVec.toNat = a.toNat ^^^ b.toNat := by
    rw [Int32.toBitVec_xor, BitVec.toNat_xor, h1, h2]
  have h4 : a.toNat ^^^ b.toNat < 2 ^ 31 := Nat.xor_lt_two_pow (by omega) (by omega)
  have h5 : (x ^^^ y).toInt = (x ^^^ y).toBitVec.toInt := rfl
  rw [h5, BitVec.toInt_eq_toNat_cond, h3]
  have h6 : (2 : Nat) ^ 31 = 2147483648 := by decide
  split <;> omega
