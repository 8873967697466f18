/-! ===== give(), take() of the reference ===== -/
section STH
variable {M : Nat} {I : Im} {J : Jm} {R : Rm} {Q : Qt}
theorem px_manAt {d : Nat} {v : Int32} (hm : 0 ≤ (I 102 0).toInt ∧ (I 102 0).toInt ≤ 6) (hN : ¬ ((0 : Int32) ≤ v ∧ v < I 102 0) → Q 0 0 I J R) (hY : (0 : Int32) ≤ v ∧ v < I 102 0 → Q 1 0 I J R) : AM (d + 2) 239 112 [.ref 97, .int v] I J R (fun x y I2 J2 R2 => (x = 0 ∨ x = 1) → Q x y I2 J2 R2) := by
  have t0 : Int32.toNatClampNeg 0 = 0 := rfl
  have e1 : (I 102 0 - 1 : Int32).toInt = (I 102 0).toInt - 1 := ti_sub rfl (show (1 : Int32).toInt = 1 from rfl) (by omega)
  have hle : v ≤ I 102 0 - 1 ↔ v < I 102 0 := by
    rw [Int32.le_iff_toInt_le, Int32.lt_iff_toInt_lt, e1]; omega
  refine w_X12_isManAt ⟨vp_of (a := 0) rfl (by decide) (by decide), ?_⟩
  rw [t0]
  exact px_isInI (lo := 0) (hi := I 102 0 - 1) (fun l1 l2 _ => ⟨Or.inr rfl, fun _ => hY ⟨l1, hle.mp l2⟩⟩) (fun n1 _ => ⟨Or.inl rfl, fun _ => hN (fun y => n1.elim (fun a => ile.mpr y.1 a) (fun a => a (hle.mpr y.2)))⟩)
theorem b102 : (uI (uI I 97 1 0) 97 0 0) 102 0 = I 102 0 := (rd_ne (by decide)).trans (rd_ne (by decide))
theorem px_mGive {e : Nat} {k d : Int32} {s : StS9} (h : BkR M s I) (hm : (I 102 0).toInt = (M : Int) ∧ M ≤ 6) (hs : ∀ k, 1 ≤ k → k ≤ 30 → (0 : Int32) ≤ s.1 k) (hh : ∀ i, i < M → 0 ≤ (s.2.1 i).toInt) (hQ : ∀ I2, BkR M (opGive (I 102 0) k d s).2 I2 → FrMk I J I2 J → Q (anX (opGive (I 102 0) k d s).1 (pcV ((opGive (I 102 0) k d s).2.2.1 (nn9 k)))) 0 I2 J R) : AM (e + 3) 264 112 [.ref 97, .int k, .int d] I J R Q := by
  have hb0 : BkR M s (uI (uI I 97 1 0) 97 0 0) := (h.sk).sk
  have no : ¬ (((0 : Int32) ≤ k ∧ k < I 102 0) ∧ sq9 d) → AM (e + 2) 176 112 [.ref 97, .int 2] (uI (uI I 97 1 0) 97 0 0) J R (fun x _ I2 J2 _ => Q x 0 I2 J2 R) := fun c => by
    have e0 : opGive (I 102 0) k d s = (2, s) := if_neg c
    rw [e0] at hQ
    exact px_mref9 (st := 2) hb0 FrMk.b (by decide) hQ
  refine w_X12_give (px_manAt (by rw [b102]; omega) (fun hk => ⟨fun _ => no (fun y => hk (by rw [b102]; exact y.1)), fun z => absurd rfl z⟩) (fun hk => ⟨fun z => absurd z (by decide), fun _ => px_mSlQ (fun hd _ => ⟨fun _ => ?_, fun z => absurd z (by decide)⟩) (fun hd _ => ⟨fun z => absurd rfl z, fun _ => no (fun y => hd y.2)⟩)⟩))
  rw [b102] at hk
  have hd9 : sq9 d := hd
  have nd := (sq_nn hd9).2
  obtain ⟨ik, vk, nk⟩ := ix_hv hk hm
  refine px_gives hk hm hd9 hb0 (hs _ nd.1 nd.2) (hh _ nk) (fun I2 h2 hF _ => ⟨fun c => px_mref9 h2 (FrMk.b.tr hF.m) (b9_z c) hQ, fun c => ⟨vk, ?_⟩⟩)
  rw [ik, h2.2.1 _ nk]
  refine px_sizeOf ?_
  have q := hQ I2 h2 (FrMk.b.tr hF.m)
  rw [show anX (opGive (I 102 0) k d s).1 (pcV ((opGive (I 102 0) k d s).2.2.1 (nn9 k))) = pcV ((opGive (I 102 0) k d s).2.2.1 (nn9 k)) from if_pos (b9_nz c)] at q
  exact q
theorem px_mTake {e : Nat} {k d : Int32} {s : StS9} (h : BkR M s I) (hm : (I 102 0).toInt = (M : Int) ∧ M ≤ 6) (hs : ∀ k, 1 ≤ k → k ≤ 30 → s.1 k ≤ 99) (hh : ∀ i, i < M → 0 ≤ (s.2.1 i).toInt) (hQ : ∀ I2, BkR M (opTake (I 102 0) k d s).2 I2 → FrMk I J I2 J → Q (anX (opTake (I 102 0) k d s).1 (pcV ((opTake (I 102 0) k d s).2.2.1 (nn9 k)))) 0 I2 J R) : AM (e + 3) 266 112 [.ref 97, .int k, .int d] I J R Q := by
  have hb0 : BkR M s (uI (uI I 97 1 0) 97 0 0) := (h.sk).sk
  have no : ¬ (((0 : Int32) ≤ k ∧ k < I 102 0) ∧ sq9 d) → AM (e + 2) 176 112 [.ref 97, .int 2] (uI (uI I 97 1 0) 97 0 0) J R (fun x _ I2 J2 _ => Q x 0 I2 J2 R) := fun c => by
    have e0 : opTake (I 102 0) k d s = (2, s) := if_neg c
    rw [e0] at hQ
    exact px_mref9 (st := 2) hb0 FrMk.b (by decide) hQ
  refine w_X12_take (px_manAt (by rw [b102]; omega) (fun hk => ⟨fun _ => no (fun y => hk (by rw [b102]; exact y.1)), fun z => absurd rfl z⟩) (fun hk => ⟨fun z => absurd z (by decide), fun _ => px_mSlQ (fun hd _ => ⟨fun _ => ?_, fun z => absurd z (by decide)⟩) (fun hd _ => ⟨fun z => absurd rfl z, fun _ => no (fun y => hd y.2)⟩)⟩))
  rw [b102] at hk
  have hd9 : sq9 d := hd
  have nd := (sq_nn hd9).2
  obtain ⟨ik, vk, nk⟩ := ix_hv hk hm
  obtain ⟨id, vd⟩ := ix_st hd9
  refine ⟨vd, ?_⟩
  rw [id, hb0.1 _ nd.1 nd.2]
  refine ⟨fun c9 => px_takes hk hm hd9 hb0 (hs _ nd.1 nd.2) (hh _ nk) (fun I2 h2 hF _ => ⟨fun c => px_mref9 h2 (FrMk.b.tr hF.m) (b9_z c) hQ, fun c => ⟨vk, ?_⟩⟩), fun c9 => ?_⟩
  · rw [ik, h2.2.1 _ nk]
    refine px_sizeOf ?_
    have q := hQ I2 h2 (FrMk.b.tr hF.m)
    rw [show anX (opTake (I 102 0) k d s).1 (pcV ((opTake (I 102 0) k d s).2.2.1 (nn9 k))) = pcV ((opTake (I 102 0) k d s).2.2.1 (nn9 k)) from if_pos (b9_nz c)] at q
    exact q
  · have n9 : ¬ s.1 (nn9 d) < 99 := by
      rw [c9]
      decide
    have e0 : opTake (I 102 0) k d s = (7, s) := (if_pos ⟨hk, hd9⟩).trans (if_neg n9)
    rw [e0] at hQ
    exact px_mref9 (st := 7) hb0 FrMk.b (by decide) hQ
end STH
