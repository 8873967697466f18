section PT13x6
section STV
variable {M : Nat} {I : Im} {J : Jm} {R : Rm} {Q : Qt}
end STV
end PT13x6
section PT13x7
/-! ===== split() of the reference; give(), take(): both sides ===== -/
theorem pcn_b9 {v : Int32} : ∀ k : Nat, 0 ≤ pcn v k ∧ pcn v k ≤ k := by
  intro k
  induction k with
  | zero => exact ⟨Int.le_refl _, Int.le_refl _⟩
  | succ k ih =>
    have := pcb_in v (Int32.ofNat k)
    show 0 ≤ pcn v k + pcb v (Int32.ofNat k) ∧ pcn v k + pcb v (Int32.ofNat k) ≤ ((k + 1 : Nat) : Int)
    omega
noncomputable def pcV (v : Int32) : Int32 := nI (pcn v 30).toNat
theorem pcV_e {v x : Int32} (h : x.toInt = pcn v 30) : x = pcV v := by
  have := pcn_b9 (v := v) 30
  exact Int32.toInt_inj.mp (by unfold pcV; rw [nI_toInt (by omega), h]; omega)
section STG
variable {M : Nat} {I : Im} {J : Jm} {R : Rm} {Q : Qt}
theorem px_bc {e : Nat} {v : Int32} (hv : 0 ≤ v.toInt ∧ v.toInt ≤ 1073741823) (hQ : Q (pcV v) 0 I J R) : AM (e + 1) 319 112 [.int v] I J R Q := by
  refine w_J6_bitCount_0f7a4 ?_
  have k := pcV_e (bc_pcn hv.1 hv.2)
  unfold bcE bcD bcC bcB bcA at k
  rw [← k] at hQ
  exact hQ
theorem px_sizeOf {e : Nat} {v : Int32} (hQ : Q (pcV v) 0 I J R) : AM (e + 2) 190 112 [.int v] I J R Q := by
  refine am_X12_sizeOf (fun P hc => sg_X12_sizeOf_0 hc _ _ _ _ ?_)
  have L : ∀ (f : Nat) (x : Int32), f ≤ 30 → x.toInt = pcn v (30 - f) → P 4 112 [(0, .int v), (1, .int x), (2, .int (nI (30 - f)))] [] I J R := by
    intro f
    induction f with
    | zero =>
      intro x _ hx
      exact sg_X12_sizeOf_4 hc _ _ _ _ _ _ ⟨fun _ => by rw [pcV_e hx]; exact hQ, fun c => absurd ((nle_nI (a := 30) (b := 30 - 0) (by omega) (by omega)).mpr (by omega)) c⟩
    | succ f ih =>
      intro x hf hx
      have ed : 30 - (f + 1) = 29 - f := by omega
      rw [ed] at hx ⊢
      have es : pcn v (30 - f) = pcn v (29 - f) + pcb v (nI (29 - f)) := by
        rw [show 30 - f = (29 - f) + 1 by omega]; rfl
      have hb := pcn_b9 (v := v) (29 - f)
      refine sg_X12_sizeOf_4 hc _ _ _ _ _ _ ⟨fun c => absurd ((nle_nI (a := 30) (by omega) (by omega)).mp c) (by omega), fun _ => w_X12_isOf ⟨fun c => ⟨Or.inl rfl, fun _ => ⟨fun _ => ?_, fun z => absurd rfl z⟩⟩, fun c => ⟨Or.inr rfl, fun _ => ⟨fun z => absurd z (by decide), fun _ => ?_⟩⟩⟩⟩
      · rw [nx29 hf]
        refine ih _ (by omega) ?_
        rw [Int32.add_zero, es, hx]
        unfold pcb
        rw [if_neg c, Int.add_zero]
      · rw [nx29 hf]
        refine ih _ (by omega) ?_
        rw [ti_add hx (show (1 : Int32).toInt = 1 from rfl) (by omega), es]
        unfold pcb
        rw [if_pos c]
  exact L 30 0 (by decide) rfl
theorem px_mSplit {e : Nat} {d n : Int32} {s : StS9} (h : BkR M s I) (hs : ∀ k, 1 ≤ k → k ≤ 30 → (0 : Int32) ≤ s.1 k) (hQ : ∀ I2, BkR M (opSplit d n s).2 I2 → FrMk I J I2 J → Q (anX (opSplit d n s).1 (pcR (opSplit d n s).2.1 30 0)) 0 I2 J R) : AM (e + 3) 260 112 [.ref 97, .int d, .int n] I J R Q := by
  have hb0 : BkR M s (uI (uI I 97 1 0) 97 0 0) := (h.sk).sk
  refine w_X12_split (px_mSlQ (fun hd _ => ⟨fun _ => px_isInI (lo := 2) (hi := 30) (fun l1 l2 _ => ⟨fun _ => ?_, fun z => absurd z (by decide)⟩) (fun n1 _ => ⟨fun z => absurd rfl z, fun _ => ?_⟩), fun z => absurd z (by decide)⟩) (fun hd _ => ⟨fun z => absurd rfl z, fun _ => ?_⟩))
  · have hd9 : sq9 d := hd
    have hn : (2 : Int32) ≤ n ∧ n ≤ 30 := ⟨l1, l2⟩
    have nd := (sq_nn hd9).2
    have go : AM (e + 2) 259 112 [.ref 97, .int d, .int n] (uI (uI I 97 1 0) 97 0 0) J R (fun x4 _ I4 J4 _ => (x4 = 0 ∨ x4 = 1) → ((x4 = (0 : Int32) → (AM (e + 2) 176 112 [.ref 97, .int 9] I4 J4 R (fun x5 _ I5 J5 _ => Q x5 0 I5 J5 R))) ∧ (¬ x4 = (0 : Int32) → (AM (e + 2) 245 112 [.ref 97] I4 J4 R (fun x6 _ I6 J6 _ => Q x6 0 I6 J6 R))))) := by
      refine px_splits hd9 hn hb0 (hs _ nd.1 nd.2) (fun I2 h2 hF _ => ⟨fun c => px_mref9 h2 (FrMk.b.tr hF.m) (b9_z c) hQ, fun c => px_held h2 ?_⟩)
      have k := hQ I2 h2 (FrMk.b.tr hF.m)
      rw [show anX (opSplit d n s).1 (pcR (opSplit d n s).2.1 30 0) = pcR (opSplit d n s).2.1 30 0 from if_pos (b9_nz c)] at k
      exact k
    rcases dn_case hd9 hn with hp | ⟨hp, -⟩
    · refine px_areMore hp hb0 (fun _ => ?_)
      by_cases q : s.1 (nn9 (d * n)) + n ≤ 99
      · rw [if_pos q]
        exact ⟨fun _ => go, fun z => absurd rfl z⟩
      · rw [if_neg q]
        refine ⟨fun z => absurd z (by decide), fun _ => ?_⟩
        have e0 : opSplit d n s = (7, s) := ((if_pos hd).trans (if_pos hn)).trans (if_pos ⟨hp, q⟩)
        rw [e0] at hQ
        exact px_mref9 (st := 7) hb0 FrMk.b (by decide) hQ
    · exact px_areMoreN hp (fun _ => ⟨fun _ => go, fun z => absurd rfl z⟩)
  · have e0 : opSplit d n s = (5, s) := (if_pos hd).trans (if_neg (fun z => n1.elim (fun a => ile.mpr z.1 a) (fun a => a z.2)))
    rw [e0] at hQ
    exact px_mref9 (st := 5) hb0 FrMk.b (by decide) hQ
  · have e0 : opSplit d n s = (2, s) := if_neg hd
    rw [e0] at hQ
    exact px_mref9 (st := 2) hb0 FrMk.b (by decide) hQ
theorem px_cGive {e : Nat} {k d : Int32} {s : StS9} (hR : RI R) (hm : (I (R 1 7) 4).toInt = (M : Int) ∧ M ≤ 6) (h : BkA (R 1 7) M s I) (hv : ∀ i, i < M → 0 ≤ ((opGive (I (R 1 7) 4) k d s).2.2.1 i).toInt ∧ ((opGive (I (R 1 7) 4) k d s).2.2.1 i).toInt ≤ 1073741823) (hQ : ∀ I2, BkA (R 1 7) M (opGive (I (R 1 7) 4) k d s).2 I2 → FrCk (R 1 7) I J I2 J → Q (anX (opGive (I (R 1 7) 4) k d s).1 (pcV ((opGive (I (R 1 7) 4) k d s).2.2.1 (nn9 k)))) 0 I2 J R) : AM (e + 3) 121 112 [.ref 1, .int k, .int d] I J R Q := by
  have hO := hR.now.1
  obtain ⟨a5, l5, -⟩ := fa_0_8 hO
  refine w_X11_give ⟨hR.now.2, bif_t hO (px_handOver hO hm h (fun I2 h2 hF => ⟨fun c => px_ref9 (now_9 hR) h2 hF c hQ, fun c => ?_⟩))⟩
  by_cases q : ((0 : Int32) ≤ k ∧ k < I (R 1 7) 4) ∧ sq9 d
  · obtain ⟨nk, vk⟩ := mn_nn q.1 hm
    rw [← l5] at vk
    have ek : I2 (R 1 7 + 5) (Int32.toNatClampNeg k) = (opGive (I (R 1 7) 4) k d s).2.2.1 (nn9 k) := h2.2.1 _ nk
    refine ⟨hR.now.2, bif_t hO (bif_t a5 ⟨vk, ?_⟩)⟩
    rw [ek]
    exact px_bc (hv _ nk) (px_ans9 (now_9 hR) h2 hF c hQ)
  · have e0 : opGive (I (R 1 7) 4) k d s = (2, s) := if_neg q
    rw [e0] at c
    exact absurd c (show ¬ (2 : Int32) = 0 by decide)
theorem px_cTake {e : Nat} {k d : Int32} {s : StS9} (hR : RI R) (hm : (I (R 1 7) 4).toInt = (M : Int) ∧ M ≤ 6) (h : BkA (R 1 7) M s I) (hv : ∀ i, i < M → 0 ≤ ((opTake (I (R 1 7) 4) k d s).2.2.1 i).toInt ∧ ((opTake (I (R 1 7) 4) k d s).2.2.1 i).toInt ≤ 1073741823) (hQ : ∀ I2, BkA (R 1 7) M (opTake (I (R 1 7) 4) k d s).2 I2 → FrCk (R 1 7) I J I2 J → Q (anX (opTake (I (R 1 7) 4) k d s).1 (pcV ((opTake (I (R 1 7) 4) k d s).2.2.1 (nn9 k)))) 0 I2 J R) : AM (e + 3) 122 112 [.ref 1, .int k, .int d] I J R Q := by
  have hO := hR.now.1
  obtain ⟨a5, l5, -⟩ := fa_0_8 hO
  refine w_X11_take ⟨hR.now.2, bif_t hO (px_handBack hO hm h (fun I2 h2 hF => ⟨fun c => px_ref9 (now_9 hR) h2 hF c hQ, fun c => ?_⟩))⟩
  by_cases q : ((0 : Int32) ≤ k ∧ k < I (R 1 7) 4) ∧ sq9 d
  · obtain ⟨nk, vk⟩ := mn_nn q.1 hm
    rw [← l5] at vk
    have ek : I2 (R 1 7 + 5) (Int32.toNatClampNeg k) = (opTake (I (R 1 7) 4) k d s).2.2.1 (nn9 k) := h2.2.1 _ nk
    refine ⟨hR.now.2, bif_t hO (bif_t a5 ⟨vk, ?_⟩)⟩
    rw [ek]
    exact px_bc (hv _ nk) (px_ans9 (now_9 hR) h2 hF c hQ)
  · have e0 : opTake (I (R 1 7) 4) k d s = (2, s) := if_neg q
    rw [e0] at c
    exact absurd c (show ¬ (2 : Int32) = 0 by decide)
end STG
end PT13x7
section PT13x8
/-! ===== give(), take() of the reference ===== -/
section STH
variable {M : Nat} {I : Im} {J : Jm} {R : Rm} {Q : Qt}
theorem px_manAt {d : Nat} {v : Int32} (hm : 0 ≤ (I 102 0).toInt ∧ (I 102 0).toInt ≤ 6) (hN : ¬ ((0 : Int32) ≤ v ∧ v < I 102 0) → Q 0 0 I J R) (hY : (0 : Int32) ≤ v ∧ v < I 102 0 → Q 1 0 I J R) : AM (d + 2) 239 112 [.ref 97, .int v] I J R (fun x y I2 J2 R2 => (x = 0 ∨ x = 1) → Q x y I2 J2 R2) := by
  have t0 : Int32.toNatClampNeg 0 = 0 := rfl
  have e1 : (I 102 0 - 1 : Int32).toInt = (I 102 0).toInt - 1 := ti_sub rfl (show (1 : Int32).toInt = 1 from rfl) (by omega)
  have hle : v ≤ I 102 0 - 1 ↔ v < I 102 0 := by
    rw [Int32.le_iff_toInt_le, Int32.lt_iff_toInt_lt, e1]; omega
  refine w_X12_isManAt ⟨vp_of (a := 0) rfl (by decide) (by decide), ?_⟩
  rw [t0]
  exact px_isInI (lo := 0) (hi := I 102 0 - 1) (fun l1 l2 _ => ⟨Or.inr rfl, fun _ => hY ⟨l1, hle.mp l2⟩⟩) (fun n1 _ => ⟨Or.inl rfl, fun _ => hN (fun y => n1.elim (fun a => ile.mpr y.1 a) (fun a => a (hle.mpr y.2)))⟩)
theorem b102 : (uI (uI I 97 1 0) 97 0 0) 102 0 = I 102 0 := (rd_ne (by decide)).trans (rd_ne (by decide))
theorem px_mGive {e : Nat} {k d : Int32} {s : StS9} (h : BkR M s I) (hm : (I 102 0).toInt = (M : Int) ∧ M ≤ 6) (hs : ∀ k, 1 ≤ k → k ≤ 30 → (0 : Int32) ≤ s.1 k) (hh : ∀ i, i < M → 0 ≤ (s.2.1 i).toInt) (hQ : ∀ I2, BkR M (opGive (I 102 0) k d s).2 I2 → FrMk I J I2 J → Q (anX (opGive (I 102 0) k d s).1 (pcV ((opGive (I 102 0) k d s).2.2.1 (nn9 k)))) 0 I2 J R) : AM (e + 3) 264 112 [.ref 97, .int k, .int d] I J R Q := by
  have hb0 : BkR M s (uI (uI I 97 1 0) 97 0 0) := (h.sk).sk
  have no : ¬ (((0 : Int32) ≤ k ∧ k < I 102 0) ∧ sq9 d) → AM (e + 2) 176 112 [.ref 97, .int 2] (uI (uI I 97 1 0) 97 0 0) J R (fun x _ I2 J2 _ => Q x 0 I2 J2 R) := fun c => by
    have e0 : opGive (I 102 0) k d s = (2, s) := if_neg c
    rw [e0] at hQ
    exact px_mref9 (st := 2) hb0 FrMk.b (by decide) hQ
  refine w_X12_give (px_manAt (by rw [b102]; omega) (fun hk => ⟨fun _ => no (fun y => hk (by rw [b102]; exact y.1)), fun z => absurd rfl z⟩) (fun hk => ⟨fun z => absurd z (by decide), fun _ => px_mSlQ (fun hd _ => ⟨fun _ => ?_, fun z => absurd z (by decide)⟩) (fun hd _ => ⟨fun z => absurd rfl z, fun _ => no (fun y => hd y.2)⟩)⟩))
  rw [b102] at hk
  have hd9 : sq9 d := hd
  have nd := (sq_nn hd9).2
  obtain ⟨ik, vk, nk⟩ := ix_hv hk hm
  refine px_gives hk hm hd9 hb0 (hs _ nd.1 nd.2) (hh _ nk) (fun I2 h2 hF _ => ⟨fun c => px_mref9 h2 (FrMk.b.tr hF.m) (b9_z c) hQ, fun c => ⟨vk, ?_⟩⟩)
  rw [ik, h2.2.1 _ nk]
  refine px_sizeOf ?_
  have q := hQ I2 h2 (FrMk.b.tr hF.m)
  rw [show anX (opGive (I 102 0) k d s).1 (pcV ((opGive (I 102 0) k d s).2.2.1 (nn9 k))) = pcV ((opGive (I 102 0) k d s).2.2.1 (nn9 k)) from if_pos (b9_nz c)] at q
  exact q
end STH
end PT13x8
