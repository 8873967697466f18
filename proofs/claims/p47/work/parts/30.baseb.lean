section PT3x0
theorem bna_O {o ci : Nat} (ho : isO 112 o ci = true) (hci : ci < 13) : bna o = none := by
  have h : ∀ o, o < 113 → ∀ ci, ci < 13 → isO 112 o ci = true → bna o = none := by decide +kernel
  exact h o (by have := (isO_spec ho).2.1; omega) ci hci ho
/-- a place of an object without a bound -/
theorem Bd.o0 {I : Im} (h : Bd I) {o ci j : Nat} {v : Int32} (ho : isO 112 o ci = true) (hci : ci < 13) (hb : bnd ci j = none) : Bd (uI I o j v) :=
  h.up (fun lo hi q => by rw [show clsOf o = ci from (isO_spec ho).2.2, hb] at q; cases q) (fun lo hi q => by rw [bna_O ho hci] at q; cases q) (fun q => by subst q; cases (bna_O ho hci))
theorem Bd.o1 {I : Im} (h : Bd I) {o ci j : Nat} {v : Int32} {lo hi a : Int} (ho : isO 112 o ci = true) (hci : ci < 13) (hb : bnd ci j = some (lo, hi)) (hv : v.toInt = a) (h1 : lo ≤ a ∧ a ≤ hi) : Bd (uI I o j v) :=
  h.up (fun lo2 hi2 q => by rw [show clsOf o = ci from (isO_spec ho).2.2, hb] at q; cases q; rw [hv]; exact h1) (fun lo hi q => by rw [bna_O ho hci] at q; cases q) (fun q => by subst q; cases (bna_O ho hci))
theorem bnd_A {a t : Nat} (ha : isA 112 a t = true) (j : Nat) : bnd (clsOf a) j = none := by
  rw [show clsOf a = 100 + t from (isA_spec ha).2.2]
  unfold bnd
  split <;> first | rfl | omega
theorem Bd.a0 {I : Im} (h : Bd I) {a t j : Nat} {v : Int32} (ha : isA 112 a t = true) (hb : bna a = none) : Bd (uI I a j v) :=
  h.up (fun lo hi q => by rw [bnd_A ha] at q; cases q) (fun lo hi q => by rw [hb] at q; cases q) (fun q => by subst q; cases hb)
theorem Bd.a1 {I : Im} (h : Bd I) {a t j : Nat} {v : Int32} {lo hi z : Int} (ha : isA 112 a t = true) (hb : bna a = some (lo, hi)) (hv : v.toInt = z) (h1 : lo ≤ z ∧ z ≤ hi) (hn : ¬ a = 102 := by decide) : Bd (uI I a j v) :=
  h.up (fun lo hi q => by rw [bnd_A ha] at q; cases q) (fun lo2 hi2 q => by rw [hb] at q; cases q; rw [hv]; exact h1) (fun q => absurd q hn)
/-- an int's number is in its range -/
theorem i32 (x : Int32) : -2147483648 ≤ x.toInt ∧ x.toInt < 2147483648 := ⟨Int32.le_toInt x, Int32.toInt_lt x⟩
theorem tl_i2l {x : Int32} {a : Int} (h : x.toInt = a) : x.toInt64.toInt = a := by rw [← h]; exact Int32.toInt_toInt64 x
theorem tl_bmod {z : Int} (h1 : -9223372036854775808 ≤ z) (h2 : z < 9223372036854775808) : z.bmod (2 ^ 64) = z := Int.bmod_eq_of_le (by omega) (by omega)
theorem tl_add {x y : Int64} {a b : Int} (hx : x.toInt = a) (hy : y.toInt = b) (h : -9223372036854775808 ≤ a + b ∧ a + b < 9223372036854775808) : (x + y).toInt = a + b := by
  rw [Int64.toInt_add, hx, hy]; exact tl_bmod h.1 h.2
theorem tl_sub {x y : Int64} {a b : Int} (hx : x.toInt = a) (hy : y.toInt = b) (h : -9223372036854775808 ≤ a - b ∧ a - b < 9223372036854775808) : (x - y).toInt = a - b := by
  rw [Int64.toInt_sub, hx, hy]; exact tl_bmod h.1 h.2
theorem cl_lt {x y : Int64} {a b : Int} (hx : x.toInt = a) (hy : y.toInt = b) (h : x < y) : a < b := by rw [← hx, ← hy]; exact Int64.lt_iff_toInt_lt.mp h
theorem cl_nlt {x y : Int64} {a b : Int} (hx : x.toInt = a) (hy : y.toInt = b) (h : ¬ x < y) : b ≤ a := by rw [← hx, ← hy]; exact Int.not_lt.mp (fun q => h (Int64.lt_iff_toInt_lt.mpr q))
theorem cl_le {x y : Int64} {a b : Int} (hx : x.toInt = a) (hy : y.toInt = b) (h : x ≤ y) : a ≤ b := by rw [← hx, ← hy]; exact Int64.le_iff_toInt_le.mp h
theorem cl_nle {x y : Int64} {a b : Int} (hx : x.toInt = a) (hy : y.toInt = b) (h : ¬ x ≤ y) : b < a := by rw [← hx, ← hy]; exact Int.not_le.mp (fun q => h (Int64.le_iff_toInt_le.mpr q))
theorem cl_eq {x y : Int64} {a b : Int} (hx : x.toInt = a) (hy : y.toInt = b) (h : x = y) : a = b := by rw [← hx, ← hy, h]
theorem cl_ne {x y : Int64} {a b : Int} (hx : x.toInt = a) (hy : y.toInt = b) (h : ¬ x = y) : ¬ a = b := fun q => h (Int64.toInt_inj.mp (by rw [hx, hy]; exact q))
theorem i64 (x : Int64) : -9223372036854775808 ≤ x.toInt ∧ x.toInt < 9223372036854775808 := ⟨Int64.le_toInt x, Int64.toInt_lt x⟩
theorem ti_max {x y : Int32} {a b : Int} (hx : x.toInt = a) (hy : y.toInt = b) : (if x < y then y else x).toInt = max a b := by
  by_cases h : x < y
  · rw [if_pos h, hy]; have := ci_lt hx hy h; omega
  · rw [if_neg h, hx]; have := ci_nlt hx hy h; omega
theorem ti_min {x y : Int32} {a b : Int} (hx : x.toInt = a) (hy : y.toInt = b) : (if y < x then y else x).toInt = min a b := by
  by_cases h : y < x
  · rw [if_pos h, hy]; have := ci_lt hy hx h; omega
  · rw [if_neg h, hx]; have := ci_nlt hy hx h; omega
theorem tl_l2i {x : Int64} {a : Int} (hx : x.toInt = a) (h : -2147483648 ≤ a ∧ a < 2147483648) : x.toInt32.toInt = a := by
  rw [Int64.toInt_toInt32, hx]; exact ti_bmod h.1 h.2
theorem Bd.cp {I : Im} (h : Bd I) {a0 a1 t sp dp n : Nat} (ha : isA 112 a1 t = true) (hb : bna a1 = none) : Bd (cI I a0 a1 sp dp n) := by
  have hn : ¬ (102 : Nat) = a1 := fun q => by subst q; cases hb
  refine ⟨fun o k lo hi q => ?_, fun o k lo hi q => ?_, ?_⟩
  · by_cases ho : o = a1
    · subst ho; rw [bnd_A ha] at q; cases q
    · rw [show cI I a0 a1 sp dp n o = I o from if_neg ho]; exact h.1 o k lo hi q
  · by_cases ho : o = a1
    · subst ho; rw [hb] at q; cases q
    · rw [show cI I a0 a1 sp dp n o = I o from if_neg ho]; exact h.2.1 o k lo hi q
  · rw [show cI I a0 a1 sp dp n 102 = I 102 from if_neg hn]; exact h.2.2
theorem shl1 {y : Int32} {a : Int} (hy : y.toInt = a) (h : 0 ≤ a ∧ a ≤ 12) : 1 ≤ ((1 : Int32) <<< (y &&& 31)).toInt ∧ ((1 : Int32) <<< (y &&& 31)).toInt ≤ 4096 ∧ (a ≤ 11 → ((1 : Int32) <<< (y &&& 31)).toInt ≤ 2048) := by
  have hz : ∃ k : Nat, k ≤ 12 ∧ y = nI k := ⟨a.toNat, by omega, Int32.toInt_inj.mp (by rw [hy, nI_toInt (by omega)]; omega)⟩
  obtain ⟨k, hk, rfl⟩ := hz
  rw [nI_toInt (by omega)] at hy
  have hd : ∀ k, k ≤ 12 → (1 ≤ ((1 : Int32) <<< (nI k &&& 31)).toInt ∧ ((1 : Int32) <<< (nI k &&& 31)).toInt ≤ 4096 ∧ (k ≤ 11 → ((1 : Int32) <<< (nI k &&& 31)).toInt ≤ 2048)) := by decide +kernel
  obtain ⟨h1, h2, h3⟩ := hd k hk
  exact ⟨h1, h2, fun q => h3 (by omega)⟩
theorem bl_of {x : Int32} (h : 0 ≤ x.toInt ∧ x.toInt ≤ 1) : x = 0 ∨ x = 1 := by
  by_cases hx : x.toInt = 0
  · exact Or.inl (Int32.toInt_inj.mp hx)
  · exact Or.inr (Int32.toInt_inj.mp (show x.toInt = 1 by omega))
theorem bl_ti {x : Int32} (h : x = 0 ∨ x = 1) : 0 ≤ x.toInt ∧ x.toInt ≤ 1 := by
  rcases h with h | h <;> subst h <;> decide
theorem rd_ne {I : Im} {a j o k : Nat} {v : Int32} (h : ¬ o = a) : uI I a j v o k = I o k := congrFun (uI_ne h) k
theorem rd_k {I : Im} {o j k : Nat} {v : Int32} (h : ¬ k = j) : uI I o j v o k = I o k := by rw [uI_eq]; exact if_neg h
theorem rd_eq {I : Im} {o j : Nat} {v : Int32} : uI I o j v o j = v := by rw [uI_eq]; exact if_pos rfl
theorem rd_c {I : Im} {a0 a1 sp dp n o k : Nat} (h : ¬ o = a1) : cI I a0 a1 sp dp n o k = I o k := congrFun (show cI I a0 a1 sp dp n o = I o from if_neg h) k
theorem cne {o a c e : Nat} (h1 : clsOf o = c) (h2 : clsOf a = e) (h : Nat.beq c e = false) : ¬ o = a := fun q => by
  subst q; rw [h1] at h2; subst h2; rw [Nat.beq_refl] at h; cases h
theorem clO {o c : Nat} (h : isO 112 o c = true) : clsOf o = c := (isO_spec h).2.2
theorem clA {o t : Nat} (h : isA 112 o t = true) : clsOf o = 100 + t := (isA_spec h).2.2
theorem ti_nat {x : Int32} {k : Nat} (hk : k < 2147483648) (h : x.toInt = (k : Int)) : x.toBitVec.toNat = k := by
  have h1 : x.toInt = x.toBitVec.toInt := rfl
  rw [h1, BitVec.toInt_eq_toNat_cond] at h
  have h2 := x.toBitVec.isLt
  split at h <;> omega
theorem or12 {x y : Int32} {a b : Int} (hx : x.toInt = a) (hy : y.toInt = b) (ha : 0 ≤ a ∧ a ≤ 4095) (hb : 0 ≤ b ∧ b ≤ 4095) : 0 ≤ (x ||| y).toInt ∧ (x ||| y).toInt ≤ 4095 := by
  have h1 := ti_nat (x := x) (k := a.toNat) (by omega) (by omega)
  have h2 := ti_nat (x := y) (k := b.toNat) (by omega) (by omega)
  have h3 : (x ||| y).toBitVec.toNat = a.toNat ||| b.toNat := by
    rw [Int32.toBitVec_or, BitVec.toNat_or, h1, h2]
  have h4 : a.toNat ||| b.toNat < 2 ^ 12 := Nat.or_lt_two_pow (by omega) (by omega)
  have h5 : (x ||| y).toInt = (x ||| y).toBitVec.toInt := rfl
  rw [h5, BitVec.toInt_eq_toNat_cond, h3]
  have h6 : (2 : Nat) ^ 12 = 4096 := by decide
  split <;> omega
end PT3x0
