section PT3x0
theorem upd_i {f : Nat → Int32} {j k : Nat} {v : Int32} (h : ¬ k = j) : upd f j v k = f k := if_neg h
theorem upd_s {f : Nat → Int32} {j : Nat} {v : Int32} : upd f j v j = v := if_pos rfl
/-- a cell of the blocks that none of their laws speaks of -/
theorem CK.free {f : Nat → Int32} (h : CK f) {j : Nat} {v : Int32} (h1 : 0 < j % 324) (h2 : ¬ j % 324 = 3) (h3 : j % 324 < 40 ∨ (46 ≤ j % 324 ∧ j % 324 < 52)) : CK (upd f j v) := by
  have hs : ∀ k : Nat, k % 324 = 0 ∨ k % 324 = 3 ∨ (40 ≤ k % 324 ∧ k % 324 ≤ 45) ∨ 52 ≤ k % 324 → upd f j v k = f k := fun k hk => upd_i (by omega)
  refine ⟨fun k => ?_, fun b k hb hk => ?_, fun b s hb hd hs2 => ?_⟩
  · by_cases hk : k = j
    · subst hk
      rw [upd_s]
      unfold CB
      omega
    · rw [upd_i hk]; exact h.1 k
  · rw [hs _ (by omega)] at hk
    have h6 := (h.1 (324 * b)).1 (by omega)
    rw [hs _ (by omega)]
    exact h.2.1 b k hb hk
  · rw [hs _ (by omega)] at hd hs2
    have h6 := (h.1 (324 * b + 53)).2.2.1 (by omega)
    have q := h.2.2 b s hb hd hs2
    unfold RecOk at q ⊢
    simp only [hs _ (show (324 * b + 54 + 9 * s + 8) % 324 = 0 ∨ (324 * b + 54 + 9 * s + 8) % 324 = 3 ∨ (40 ≤ (324 * b + 54 + 9 * s + 8) % 324 ∧ (324 * b + 54 + 9 * s + 8) % 324 ≤ 45) ∨ 52 ≤ (324 * b + 54 + 9 * s + 8) % 324 by omega), hs (324 * b + 53) (by omega), hs (324 * b) (by omega), hs (324 * b + 54 + 9 * s) (by omega), hs (324 * b + 54 + 9 * s + 1) (by omega), hs (324 * b + 54 + 9 * s + 2) (by omega), hs (324 * b + 54 + 9 * s + 3) (by omega), hs (324 * b + 54 + 9 * s + 5) (by omega)]
    exact q
theorem Bd.cfree {I : Im} (h : Bd I) {i v : Int32} {z : Int} (hi : i.toInt = z) (h0 : 0 ≤ z) (h1 : 0 < z % 324) (h2 : ¬ z % 324 = 3) (h3 : z % 324 < 40 ∨ (46 ≤ z % 324 ∧ z % 324 < 52)) : Bd (uI I 102 (Int32.toNatClampNeg i) v) := by
  have hj := tn_of hi h0
  exact h.up (fun lo hi q => by cases q) (fun lo hi q => by cases q; exact ⟨Int32.le_toInt _, by have := Int32.toInt_lt v; omega⟩) (fun _ => h.ck.free (by omega) (by omega) (by omega))
theorem hb102 {I : Im} (h : Bd I) {j : Nat} {v : Int32} (hc : CK (upd (I 102) j v)) : Bd (uI I 102 j v) :=
  h.up (fun lo hi q => by cases q) (fun lo hi q => by cases q; exact ⟨Int32.le_toInt _, by have := Int32.toInt_lt v; omega⟩) (fun _ => hc)
theorem CK.known {f : Nat → Int32} (h : CK f) {j : Nat} {v : Int32} (h1 : j % 324 = 3) (hv : 0 ≤ v.toInt) : CK (upd f j v) := by
  have hs : ∀ k : Nat, ¬ k % 324 = 3 → upd f j v k = f k := fun k hk => upd_i (by omega)
  refine ⟨fun k => ?_, fun b k hb hk => ?_, fun b s hb hd hs2 => ?_⟩
  · by_cases hk : k = j
    · subst hk
      rw [upd_s]
      unfold CB
      omega
    · rw [upd_i hk]; exact h.1 k
  · rw [hs _ (by omega)] at hk
    have h6 := (h.1 (324 * b)).1 (by omega)
    rw [hs _ (by omega)]
    exact h.2.1 b k hb hk
  · rw [hs _ (by omega)] at hd hs2
    have h6 := (h.1 (324 * b + 53)).2.2.1 (by omega)
    have q := h.2.2 b s hb hd hs2
    unfold RecOk at q ⊢
    simp only [hs (324 * b + 54 + 9 * s + 8) (by omega), hs (324 * b + 53) (by omega), hs (324 * b) (by omega), hs (324 * b + 54 + 9 * s) (by omega), hs (324 * b + 54 + 9 * s + 1) (by omega), hs (324 * b + 54 + 9 * s + 2) (by omega), hs (324 * b + 54 + 9 * s + 3) (by omega), hs (324 * b + 54 + 9 * s + 5) (by omega)]
    exact q
theorem Bd.cknown {I : Im} (h : Bd I) {i v : Int32} {z y : Int} (hi : i.toInt = z) (hv : v.toInt = y) (h0 : 0 ≤ z) (h1 : z % 324 = 3) (h2 : 0 ≤ y) : Bd (uI I 102 (Int32.toNatClampNeg i) v) := by
  have hj := tn_of hi h0
  exact hb102 h (h.ck.known (by omega) (by omega))
theorem CK.new {f : Nat → Int32} (h : CK f) {j : Nat} {v : Int32} (h1 : 1350 ≤ j) (h2 : j < 1620) (hv : CB j v.toInt) : CK (upd f j v) := by
  have hs : ∀ k : Nat, k < 1350 → upd f j v k = f k := fun k hk => upd_i (by omega)
  refine ⟨fun k => ?_, fun b k hb hk => ?_, fun b s hb hd hs2 => ?_⟩
  · by_cases hk : k = j
    · subst hk
      rw [upd_s]
      exact hv
    · rw [upd_i hk]; exact h.1 k
  · rw [hs _ (by omega)] at hk
    have h6 := (h.1 (324 * b)).1 (by omega)
    rw [hs _ (by omega)]
    exact h.2.1 b k hb hk
  · rw [hs _ (by omega)] at hd hs2
    have h6 := (h.1 (324 * b + 53)).2.2.1 (by omega)
    have q := h.2.2 b s hb hd hs2
    unfold RecOk at q ⊢
    simp only [hs (324 * b + 54 + 9 * s + 8) (by omega), hs (324 * b + 53) (by omega), hs (324 * b) (by omega), hs (324 * b + 54 + 9 * s) (by omega), hs (324 * b + 54 + 9 * s + 1) (by omega), hs (324 * b + 54 + 9 * s + 2) (by omega), hs (324 * b + 54 + 9 * s + 3) (by omega), hs (324 * b + 54 + 9 * s + 5) (by omega)]
    exact q
theorem Bd.cnew {I : Im} (h : Bd I) {i v : Int32} {z y : Int} (hi : i.toInt = z) (hv : v.toInt = y) (h0 : 1350 ≤ z) (h1 : z < 1620) (h2 : (z - 1350) % 9 = 7 ∨ (z - 1350) % 9 = 5 ∨ (0 ≤ y ∧ y ≤ 99 ∧ ((z - 1350) % 9 = 0 → y ≤ 8) ∧ ((z - 1350) % 9 = 8 → y ≤ 30))) : Bd (uI I 102 (Int32.toNatClampNeg i) v) := by
  have hj := tn_of hi (by omega)
  refine hb102 h (h.ck.new (by omega) (by omega) ?_)
  unfold CB
  omega
theorem CK.second {f : Nat → Int32} (h : CK f) {j : Nat} {v : Int32} (h1 : 40 ≤ j % 324 ∧ j % 324 < 46) (hv : 1 ≤ v.toInt) : CK (upd f j v) := by
  have hs : ∀ k : Nat, ¬ (40 ≤ k % 324 ∧ k % 324 < 46) → upd f j v k = f k := fun k hk => upd_i (fun q => hk (by subst q; exact h1))
  refine ⟨fun k => ?_, fun b k hb hk => ?_, fun b s hb hd hs2 => ?_⟩
  · by_cases hk : k = j
    · subst hk
      rw [upd_s]
      unfold CB
      omega
    · rw [upd_i hk]; exact h.1 k
  · rw [hs _ (by omega)] at hk
    by_cases q : 324 * b + 40 + k = j
    · rw [q, upd_s]; exact hv
    · rw [upd_i q]; exact h.2.1 b k hb hk
  · rw [hs _ (by omega)] at hd hs2
    have h6 := (h.1 (324 * b + 53)).2.2.1 (by omega)
    have q := h.2.2 b s hb hd hs2
    unfold RecOk at q ⊢
    simp only [hs (324 * b + 54 + 9 * s + 8) (by omega), hs (324 * b + 53) (by omega), hs (324 * b) (by omega), hs (324 * b + 54 + 9 * s) (by omega), hs (324 * b + 54 + 9 * s + 1) (by omega), hs (324 * b + 54 + 9 * s + 2) (by omega), hs (324 * b + 54 + 9 * s + 3) (by omega), hs (324 * b + 54 + 9 * s + 5) (by omega)]
    exact q
theorem Bd.csecond {I : Im} (h : Bd I) {i v : Int32} {z y : Int} (hi : i.toInt = z) (hv : v.toInt = y) (h0 : 0 ≤ z) (h1 : 40 ≤ z % 324 ∧ z % 324 < 46) (h2 : 1 ≤ y) : Bd (uI I 102 (Int32.toNatClampNeg i) v) := by
  have hj := tn_of hi h0
  exact hb102 h (h.ck.second (by omega) (by omega))
theorem Bd.div {I : Im} (h : Bd I) {b k : Nat} {i : Int32} {z : Int} (hi : i.toInt = z) (hz : z = 324 * b + 40 + k) (hb : b < 5) (hk : (k : Int) < (I 102 (324 * b)).toInt) : 1 ≤ (I 102 (Int32.toNatClampNeg i)).toInt := by
  have hj := tn_of hi (by omega)
  rw [show Int32.toNatClampNeg i = 324 * b + 40 + k by omega]
  exact h.ck.2.1 b k hb hk
theorem ori {x y : Int32} {a b : Int} (hx : x.toInt = a) (hy : y.toInt = b) (ha : 0 ≤ a) (hb : 0 ≤ b) : 0 ≤ (x ||| y).toInt := by
  have r1 := i32 x
  have r2 := i32 y
  have h1 := ti_nat (x := x) (k := a.toNat) (by omega) (by omega)
  have h2 := ti_nat (x := y) (k := b.toNat) (by omega) (by omega)
  have h3 : (x ||| y).toBitVec.toNat = a.toNat ||| b.toNat := by
    rw [Int32.toBitVec_or, BitVec.toNat_or, h1, h2]
  have h4 : a.toNat ||| b.toNat < 2 ^ 31 := Nat.or_lt_two_pow (by omega) (by omega)
  have h5 : (x ||| y).toInt = (x ||| y).toBitVec.toInt := rfl
  rw [h5, BitVec.toInt_eq_toNat_cond, h3]
  have h6 : (2 : Nat) ^ 31 = 2147483648 := by decide
  split <;> omega
theorem shlp {y : Int32} {a : Int} (hy : y.toInt = a) (h : 0 ≤ a ∧ a ≤ 30) : 1 ≤ ((1 : Int32) <<< (y &&& 31)).toInt := by
  have hz : ∃ k : Nat, k ≤ 30 ∧ y = nI k := ⟨a.toNat, by omega, Int32.toInt_inj.mp (by rw [hy, nI_toInt (by omega)]; omega)⟩
  obtain ⟨k, hk, rfl⟩ := hz
  have hd : ∀ k, k ≤ 30 → 1 ≤ ((1 : Int32) <<< (nI k &&& 31)).toInt := by decide +kernel
  exact hd k hk
end PT3x0
