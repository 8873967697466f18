section PT13x8
section STH
variable {M : Nat} {I : Im} {J : Jm} {R : Rm} {Q : Qt}
theorem px_mTake {e : Nat} {k d : Int32} {s : StS9} (h : BkR M s I) (hm : (I 102 0).toInt = (M : Int) ∧ M ≤ 6) (hs : ∀ k, 1 ≤ k → k ≤ 30 → s.1 k ≤ 99) (hh : ∀ i, i < M → 0 ≤ (s.2.1 i).toInt) (hQ : ∀ I2, BkR M (opTake (I 102 0) k d s).2 I2 → FrMk I J I2 J → Q (anX (opTake (I 102 0) k d s).1 (pcV ((opTake (I 102 0) k d s).2.2.1 (nn9 k)))) 0 I2 J R) : AM (e + 3) 266 112 [.ref 97, .int k, .int d] I J R Q := by
  have hb0 : BkR M s (uI (uI I 97 1 0) 97 0 0) := (h.sk).sk
  have no : ¬ (((0 : Int32) ≤ k ∧ k < I 102 0) ∧ sq9 d) → AM (e + 2) 176 112 [.ref 97, .int 2] (uI (uI I 97 1 0) 97 0 0) J R (fun x _ I2 J2 _ => Q x 0 I2 J2 R) := fun c => by
    have e0 : opTake (I 102 0) k d s = (2, s) := if_neg c
    rw [e0] at hQ
    exact px_mref9 (st := 2) hb0 FrMk.b (by decide) hQ
  refine w_X12_take (px_manAt (by rw [b102]; omega) (fun hk => ⟨fun _ => no (fun y => hk (by rw [b102]; exact y.1)), fun z => absurd rfl z⟩) (fun hk => ⟨fun z => absurd z (by decide), fun _ => px_mSlQ (fun hd _ => ⟨fun _ => ?_, fun z => absurd z (by decide)⟩) (fun hd _ => ⟨fun z => absurd rfl z, fun _ => no (fun y => hd y.2)⟩)⟩))
  rw [b102] at hk
  have hd9 : sq9 d := hd
  have nd := (sq_nn hd9).2
  obtain ⟨ik, vk, nk⟩ := ix_hv hk hm
  obtain ⟨id, vd⟩ := ix_st hd9
  refine ⟨vd, ?_⟩
  rw [id, hb0.1 _ nd.1 nd.2]
  refine ⟨fun c9 => px_takes hk hm hd9 hb0 (hs _ nd.1 nd.2) (hh _ nk) (fun I2 h2 hF _ => ⟨fun c => px_mref9 h2 (FrMk.b.tr hF.m) (b9_z c) hQ, fun c => ⟨vk, ?_⟩⟩), fun c9 => ?_⟩
  · rw [ik, h2.2.1 _ nk]
    refine px_sizeOf ?_
    have q := hQ I2 h2 (FrMk.b.tr hF.m)
    rw [show anX (opTake (I 102 0) k d s).1 (pcV ((opTake (I 102 0) k d s).2.2.1 (nn9 k))) = pcV ((opTake (I 102 0) k d s).2.2.1 (nn9 k)) from if_pos (b9_nz c)] at q
    exact q
  · have n9 : ¬ s.1 (nn9 d) < 99 := by
      rw [c9]
      decide
    have e0 : opTake (I 102 0) k d s = (7, s) := (if_pos ⟨hk, hd9⟩).trans (if_neg n9)
    rw [e0] at hQ
    exact px_mref9 (st := 7) hb0 FrMk.b (by decide) hQ
end STH
end PT13x8
section PT13x9
/-! ===== the store keeps its bounds, whatever is done ===== -/
/-- 0 to 99 of each slice; the men have sets of slices -/
noncomputable def StB (M : Nat) (s : StS9) : Prop := (∀ k, 1 ≤ k → k ≤ 30 → 0 ≤ (s.1 k).toInt ∧ (s.1 k).toInt ≤ 99) ∧ (∀ i, i < M → 0 ≤ (s.2.1 i).toInt ∧ (s.2.1 i).toInt ≤ 1073741823)
theorem i99 : (99 : Int32).toInt = 99 := rfl
theorem i30 : (30 : Int32).toInt = 30 := rfl
theorem i1 : (1 : Int32).toInt = 1 := rfl
theorem StB.lo {M : Nat} {s : StS9} (h : StB M s) : ∀ k, 1 ≤ k → k ≤ 30 → (0 : Int32) ≤ s.1 k := fun k a b => le_i.mpr (h.1 k a b).1
theorem StB.hi {M : Nat} {s : StS9} (h : StB M s) : ∀ k, 1 ≤ k → k ≤ 30 → s.1 k ≤ 99 := fun k a b => le_i.mpr (h.1 k a b).2
theorem StB.hv0 {M : Nat} {s : StS9} (h : StB M s) : ∀ i, i < M → 0 ≤ (s.2.1 i).toInt := fun i a => (h.2 i a).1
theorem upa9 {f : Nat → Int32} {k j : Nat} {v : Int32} (h : -1000 ≤ (f j).toInt ∧ (f j).toInt ≤ 1000) (hv : -1000 ≤ v.toInt ∧ v.toInt ≤ 1000) : (upd f k (f k + v) j).toInt = (f j).toInt + (if j = k then v.toInt else 0) := by
  by_cases q : j = k
  · subst q
    rw [upd_at9, if_pos rfl]
    exact ti_add rfl rfl (by omega)
  · rw [upd_ne9 q, if_neg q, Int.add_zero]
theorem ups9 {f : Nat → Int32} {k j : Nat} (h : -1000 ≤ (f j).toInt ∧ (f j).toInt ≤ 1000) : (upd f k (f k - 1) j).toInt = (f j).toInt - (if j = k then 1 else 0) := by
  by_cases q : j = k
  · subst q
    rw [upd_at9, if_pos rfl]
    exact ti_sub rfl i1 (by omega)
  · rw [upd_ne9 q, if_neg q, Int.sub_zero]
theorem ct9_t {S : Nat → Int32} {d a b : Int32} {k : Nat} (h : 0 ≤ (S k).toInt ∧ (S k).toInt ≤ 99) : (ct9 S d a b k).toInt = (S k).toInt - (if k = nn9 d then 1 else 0) + (if k = nn9 a then 1 else 0) + (if k = nn9 b then 1 else 0) := by
  have e1 := ups9 (f := S) (k := nn9 d) (j := k) (by omega)
  have e2 := upa9 (f := upd S (nn9 d) (S (nn9 d) - 1)) (k := nn9 a) (j := k) (v := 1) (by rw [e1]; split <;> omega) (by decide)
  have e3 := upa9 (f := upd (upd S (nn9 d) (S (nn9 d) - 1)) (nn9 a) (upd S (nn9 d) (S (nn9 d) - 1) (nn9 a) + 1)) (k := nn9 b) (j := k) (v := 1) (by rw [e2, e1, i1]; split <;> split <;> omega) (by decide)
  rw [e2, e1, i1] at e3
  exact e3
theorem sp9_t {S : Nat → Int32} {d n : Int32} {k : Nat} (h : 0 ≤ (S k).toInt ∧ (S k).toInt ≤ 99) (hn : 0 ≤ n.toInt ∧ n.toInt ≤ 30) : (sp9 S d n k).toInt = (S k).toInt - (if k = nn9 d then 1 else 0) + (if k = nn9 (d * n) then n.toInt else 0) := by
  have e1 := ups9 (f := S) (k := nn9 d) (j := k) (by omega)
  have e2 := upa9 (f := upd S (nn9 d) (S (nn9 d) - 1)) (k := nn9 (d * n)) (j := k) (v := n) (by rw [e1]; split <;> omega) (by omega)
  rw [e1] at e2
  exact e2
theorem nn_eq {o d : Int32} (ho : sq9 o) (hd : sq9 d) : (o = d) ↔ (nn9 o = nn9 d) :=
  ⟨fun q => by rw [q], fun q => by rw [← sq_nI ho, ← sq_nI hd, q]⟩
theorem ci9 {p : Prop} [Decidable p] : (if p then (1 : Int32) else 0).toInt = if p then 1 else 0 := by
  split <;> rfl
theorem ov9_t {S : Nat → Int32} {o d a b : Int32} (ho : sq9 o) (hd : sq9 d) (ha : sq9 a) (hb : sq9 b) (h : 0 ≤ (S (nn9 o)).toInt ∧ (S (nn9 o)).toInt ≤ 99) : (ov9 S o d a b).toInt = (S (nn9 o)).toInt - (if nn9 o = nn9 d then 1 else 0) + (if nn9 o = nn9 a then 1 else 0) + (if nn9 o = nn9 b then 1 else 0) := by
  have c1 : (if o = d then (1 : Int32) else 0).toInt = if nn9 o = nn9 d then 1 else 0 := by rw [ci9]; simp only [nn_eq ho hd]
  have c2 : (if o = a then (1 : Int32) else 0).toInt = if nn9 o = nn9 a then 1 else 0 := by rw [ci9]; simp only [nn_eq ho ha]
  have c3 : (if o = b then (1 : Int32) else 0).toInt = if nn9 o = nn9 b then 1 else 0 := by rw [ci9]; simp only [nn_eq ho hb]
  unfold ov9
  exact ti_add (ti_add (ti_sub rfl c1 (by split <;> omega)) c2 (by split <;> split <;> omega)) c3 (by split <;> split <;> split <;> omega)
theorem and_b9 {h m : Int32} (h0 : 0 ≤ h.toInt) : 0 ≤ (h &&& m).toInt ∧ (h &&& m).toInt ≤ h.toInt := by
  have e1 : (h &&& m).toBitVec.toNat = h.toBitVec.toNat &&& m.toBitVec.toNat := by rw [Int32.toBitVec_and, BitVec.toNat_and]
  have e2 : h.toBitVec.toNat &&& m.toBitVec.toNat ≤ h.toBitVec.toNat := Nat.and_le_left
  have l1 := h.toBitVec.isLt
  have k1 : h.toInt = if 2 * h.toBitVec.toNat < 2 ^ 32 then (h.toBitVec.toNat : Int) else (h.toBitVec.toNat : Int) - (2 ^ 32 : Nat) := BitVec.toInt_eq_toNat_cond _
  have k2 : (h &&& m).toInt = if 2 * (h &&& m).toBitVec.toNat < 2 ^ 32 then ((h &&& m).toBitVec.toNat : Int) else ((h &&& m).toBitVec.toNat : Int) - (2 ^ 32 : Nat) := BitVec.toInt_eq_toNat_cond _
  rw [← e1] at e2
  split at k1 <;> split at k2 <;> omega
theorem StB.add {M : Nat} {n : Int32} {s : StS9} (h : StB M s) : StB M (opAdd n s).2 := by
  unfold opAdd
  split
  · rename_i hn
    split
    · rename_i h9
      refine ⟨fun k a b => ?_, h.2⟩
      have hk := h.1 k a b
      have h1 := h.1 1 (by decide) (by decide)
      obtain ⟨n1, n2⟩ := hn
      rw [le_i, i1] at n1
      rw [le_i, i99] at n2
      have ea : (s.1 1 + n).toInt = (s.1 1).toInt + n.toInt := ti_add rfl rfl (by omega)
      rw [le_i, i99, ea] at h9
      have e := upa9 (f := s.1) (k := 1) (j := k) (v := n) (by omega) (by omega)
      show 0 ≤ (upd s.1 1 (s.1 1 + n) k).toInt ∧ (upd s.1 1 (s.1 1 + n) k).toInt ≤ 99
      rw [e]
      split
      · rename_i q
        rw [q]
        omega
      · omega
    · exact h
  · exact h
theorem StB.cut {M : Nat} {d a b : Int32} {s : StS9} (h : StB M s) : StB M (opCut d a b s).2 := by
  unfold opCut
  split
  · rename_i hq
    obtain ⟨hd, ha, hb⟩ := hq
    split
    · exact h
    · rename_i h9
      split
      · rename_i hc
        refine ⟨fun k k1 k2 => ?_, h.2⟩
        have hk := h.1 k k1 k2
        have nd := (sq_nn hd).2
        have na := (sq_nn ha).2
        have nb := (sq_nn hb).2
        have hD := h.1 _ nd.1 nd.2
        have oa := ov9_t (S := s.1) (d := d) (a := a) (b := b) ha hd ha hb (h.1 _ na.1 na.2)
        have ob := ov9_t (S := s.1) (d := d) (a := a) (b := b) hb hd ha hb (h.1 _ nb.1 nb.2)
        have h9a : ¬ 99 < (ov9 s.1 a d a b).toInt := fun z => h9 (Or.inl (Int32.lt_iff_toInt_lt.mpr z))
        have h9b : ¬ 99 < (ov9 s.1 b d a b).toInt := fun z => h9 (Or.inr (Int32.lt_iff_toInt_lt.mpr z))
        have hD1 : ¬ (s.1 (nn9 d)).toInt < 1 := fun z => hc.1 (Int32.lt_iff_toInt_lt.mpr z)
        have e := ct9_t (S := s.1) (d := d) (a := a) (b := b) (k := k) hk
        show 0 ≤ (ct9 s.1 d a b k).toInt ∧ (ct9 s.1 d a b k).toInt ≤ 99
        rw [e]
        rw [oa] at h9a
        rw [ob] at h9b
        by_cases qa : k = nn9 a
        · subst qa
          rw [if_pos rfl] at h9a ⊢
          by_cases qd : nn9 a = nn9 d
          · rw [if_pos qd] at h9a ⊢
            split at h9a <;> split <;> omega
          · rw [if_neg qd] at h9a ⊢
            split at h9a <;> split <;> omega
        · by_cases qb : k = nn9 b
          · subst qb
            rw [if_neg qa] at h9b ⊢
            rw [if_pos rfl] at h9b ⊢
            by_cases qd : nn9 b = nn9 d
            · rw [if_pos qd] at h9b ⊢
              omega
            · rw [if_neg qd] at h9b ⊢
              omega
          · rw [if_neg qa, if_neg qb]
            by_cases qd : k = nn9 d
            · rw [if_pos qd]
              subst qd
              omega
            · rw [if_neg qd]
              omega
      · exact h
  · exact h
theorem StB.split {M : Nat} {d n : Int32} {s : StS9} (h : StB M s) : StB M (opSplit d n s).2 := by
  unfold opSplit
  split
  · rename_i hd
    split
    · rename_i hn
      split
      · exact h
      · rename_i h9
        split
        · rename_i hc
          refine ⟨fun k k1 k2 => ?_, h.2⟩
          have hk := h.1 k k1 k2
          have nd := (sq_nn hd).2
          have np := (sq_nn hc.2).2
          have hD := h.1 _ nd.1 nd.2
          have hP := h.1 _ np.1 np.2
          obtain ⟨n1, n2⟩ := hn
          rw [le_i, show (2 : Int32).toInt = 2 from rfl] at n1
          rw [le_i, i30] at n2
          have ea : (s.1 (nn9 (d * n)) + n).toInt = (s.1 (nn9 (d * n))).toInt + n.toInt := ti_add rfl rfl (by omega)
          have h99 : s.1 (nn9 (d * n)) + n ≤ 99 := Decidable.not_not.mp (fun z => h9 ⟨hc.2, z⟩)
          rw [le_i, i99, ea] at h99
          have hD1 : ¬ (s.1 (nn9 d)).toInt < 1 := fun z => hc.1 (Int32.lt_iff_toInt_lt.mpr z)
          have e := sp9_t (S := s.1) (d := d) (n := n) (k := k) hk (by omega)
          show 0 ≤ (sp9 s.1 d n k).toInt ∧ (sp9 s.1 d n k).toInt ≤ 99
          rw [e]
          by_cases qp : k = nn9 (d * n)
          · rw [if_pos qp]
            rw [← qp] at h99
            by_cases qd : k = nn9 d
            · rw [if_pos qd]
              omega
            · rw [if_neg qd]
              omega
          · rw [if_neg qp]
            by_cases qd : k = nn9 d
            · rw [if_pos qd]
              rw [← qd] at hD1
              omega
            · rw [if_neg qd]
              omega
        · exact h
    · exact h
  · exact h
end PT13x9
