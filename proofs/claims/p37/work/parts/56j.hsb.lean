section PT13x2
section STC
variable {M : Nat} {I : Im} {J : Jm} {R : Rm} {Q : Qt}
theorem px_sac {e o : Nat} {u d a b : Int32} {s : StS9} (hO : isO 112 o 0 = true) (h : BkA o M s I) (hu : sq9 u) (hQ : Q (ov9 s.1 u d a b) 0 I J R) : AM (e + 1) 16 112 [.ref o, .int u, .int d, .int a, .int b] I J R Q := by
  obtain ⟨a0, l0, -⟩ := fa_0_0 hO
  obtain ⟨-, n1, n2⟩ := sq_nn hu
  refine w_X0_stockAfterCut (bif_t hO (bif_t a0 ⟨by rw [l0]; exact sq_vp hu (by decide), ?_⟩))
  have e1 : I (o + 1) (Int32.toNatClampNeg u) = s.1 (nn9 u) := h.1 _ n1 n2
  rw [e1]
  unfold ov9 at hQ
  refine ⟨fun c1 => ⟨fun c2 => ⟨fun c3 => ?_, fun c3 => ?_⟩, fun c2 => ⟨fun c3 => ?_, fun c3 => ?_⟩⟩, fun c1 => ⟨fun c2 => ⟨fun c3 => ?_, fun c3 => ?_⟩, fun c2 => ⟨fun c3 => ?_, fun c3 => ?_⟩⟩⟩
  · rw [if_neg c1, if_neg c2, if_neg c3] at hQ; exact hQ
  · rw [if_neg c1, if_neg c2, if_pos c3] at hQ; exact hQ
  · rw [if_neg c1, if_pos c2, if_neg c3] at hQ; exact hQ
  · rw [if_neg c1, if_pos c2, if_pos c3] at hQ; exact hQ
  · rw [if_pos c1, if_neg c2, if_neg c3] at hQ; exact hQ
  · rw [if_pos c1, if_neg c2, if_pos c3] at hQ; exact hQ
  · rw [if_pos c1, if_pos c2, if_neg c3] at hQ; exact hQ
  · rw [if_pos c1, if_pos c2, if_pos c3] at hQ; exact hQ
theorem px_cutUp {e o : Nat} {d a b : Int32} {s : StS9} (hO : isO 112 o 0 = true) (h : BkA o M s I) (hQ : ∀ I2, BkA o M (opCut d a b s).2 I2 → FrBk o I J I2 J → Q (opCut d a b s).1 0 I2 J R) : AM (e + 2) 15 112 [.ref o, .int d, .int a, .int b] I J R Q := by
  obtain ⟨a0, l0, -⟩ := fa_0_0 hO
  have no : ¬ (sq9 d ∧ (sq9 a ∧ sq9 b)) → Q 2 0 I J R := fun c => by
    have e : opCut d a b s = (2, s) := if_neg c
    rw [e] at hQ
    exact hQ I h FrW.rf
  refine w_X0_cutUp (px_sl9 (fun hd _ => ⟨fun z => absurd z (by decide), fun _ => px_sl9 (fun ha _ => ⟨fun z => absurd z (by decide), fun _ => px_sl9 (fun hb _ => ⟨fun _ => bif_t hO (px_sac hO h ha ?_), fun z => absurd z (by decide)⟩) (fun hb _ => ⟨fun z => absurd rfl z, fun _ => no (fun y => hb y.2.2)⟩)⟩) (fun ha _ => ⟨fun _ => no (fun y => ha y.2.1), fun z => absurd rfl z⟩)⟩) (fun hd _ => ⟨fun _ => no (fun y => hd y.1), fun z => absurd rfl z⟩))
  have e0 : opCut d a b s = if 99 < ov9 s.1 a d a b ∨ 99 < ov9 s.1 b d a b then (7, s) else if ¬ s.1 (nn9 d) < 1 ∧ a * b = d * (a + b) then (0, ct9 s.1 d a b, s.2.1, s.2.2 + 1) else (9, s) := if_pos ⟨hd, ha, hb⟩
  rw [e0] at hQ
  have vd : vp_in d (aL (o + 1)) := by rw [l0]; exact sq_vp hd (by decide)
  have va : vp_in a (aL (o + 1)) := by rw [l0]; exact sq_vp ha (by decide)
  have vb : vp_in b (aL (o + 1)) := by rw [l0]; exact sq_vp hb (by decide)
  have nd := (sq_nn hd).2
  have na := (sq_nn ha).2
  have nb := (sq_nn hb).2
  refine ⟨fun c => ?_, fun c => bif_t hO (px_sac hO h hb ⟨fun c2 => bif_t hO (bif_t a0 ⟨vd, ?_⟩), fun c2 => ?_⟩)⟩
  · rw [if_pos (Or.inl c)] at hQ
    exact hQ I h FrW.rf
  · have c2' : ¬ (99 : Int32) < ov9 s.1 b d a b := ile.mpr c2
    rw [if_neg (fun z => z.elim c c2')] at hQ
    have ed : I (o + 1) (Int32.toNatClampNeg d) = s.1 (nn9 d) := h.1 _ nd.1 nd.2
    rw [ed]
    refine ⟨fun c3 => ?_, fun c3 => ⟨fun c4 => bif_t hO (bif_t a0 ⟨vd, bif_t a0 ⟨vd, bif_t hO (bif_t a0 ⟨va, bif_t a0 ⟨va, bif_t hO (bif_t a0 ⟨vb, bif_t a0 ⟨vb, bif_t hO (bif_t hO ?_)⟩⟩)⟩⟩)⟩⟩), fun c4 => ?_⟩⟩
    · rw [if_neg (fun z => z.1 c3)] at hQ
      exact hQ I h FrW.rf
    · rw [if_pos ⟨c3, c4⟩] at hQ
      have h1 := h.st (k := nn9 d) (v := s.1 (nn9 d) - 1) nd
      have ea : uI I (o + 1) (nn9 d) (s.1 (nn9 d) - 1) (o + 1) (nn9 a) = upd s.1 (nn9 d) (s.1 (nn9 d) - 1) (nn9 a) := h1.1 _ na.1 na.2
      rw [ea]
      have h2 := h1.st (k := nn9 a) (v := upd s.1 (nn9 d) (s.1 (nn9 d) - 1) (nn9 a) + 1) na
      have eb := h2.1 _ nb.1 nb.2
      rw [eb]
      have h3 := h2.st (k := nn9 b) (v := upd (upd s.1 (nn9 d) (s.1 (nn9 d) - 1)) (nn9 a) (upd s.1 (nn9 d) (s.1 (nn9 d) - 1) (nn9 a) + 1) (nn9 b) + 1) nb
      have ec := h3.2.2
      rw [ec]
      exact hQ _ (h3.ct (v := s.2.2 + 1)) ((((FrW.rf.u (Or.inl rfl)).u (Or.inl rfl)).u (Or.inl rfl)).u (Or.inr (Or.inr ⟨rfl, rfl⟩)))
    · rw [if_neg (fun z => c4 z.2)] at hQ
      exact hQ I h FrW.rf
  · rw [if_pos (Or.inr (Decidable.not_not.mp (fun z => c2 (ile.mp z))))] at hQ
    exact hQ I h FrW.rf
theorem px_splitUp {e o : Nat} {d n : Int32} {s : StS9} (hO : isO 112 o 0 = true) (h : BkA o M s I) (hQ : ∀ I2, BkA o M (opSplit d n s).2 I2 → FrBk o I J I2 J → Q (opSplit d n s).1 0 I2 J R) : AM (e + 2) 17 112 [.ref o, .int d, .int n] I J R Q := by
  obtain ⟨a0, l0, -⟩ := fa_0_0 hO
  refine am_X0_splitUp (fun P hc => sg_X0_splitUp_0 hc _ _ _ _ _ _ (px_sl9 (fun hd _ => ⟨fun _ => ?_, fun z => absurd z (by decide)⟩) (fun hd _ => ⟨fun z => absurd rfl z, fun _ => ?_⟩)))
  · have e1 : opSplit d n s = if (2 : Int32) ≤ n ∧ n ≤ 30 then (if sq9 (d * n) ∧ ¬ s.1 (nn9 (d * n)) + n ≤ 99 then (7, s) else if ¬ s.1 (nn9 d) < 1 ∧ sq9 (d * n) then (0, sp9 s.1 d n, s.2.1, s.2.2 + 1) else (9, s)) else (5, s) := if_pos hd
    have no5 : ¬ ((2 : Int32) ≤ n ∧ n ≤ 30) → Q 5 0 I J R := fun c => by
      rw [e1, if_neg c] at hQ
      exact hQ I h FrW.rf
    refine ⟨fun c => no5 (fun z => ile.mpr z.1 c), fun c => ⟨fun c2 => ?_, fun c2 => no5 (fun z => c2 z.2)⟩⟩
    rw [e1, if_pos ⟨ile.mp c, c2⟩] at hQ
    have vd : vp_in d (aL (o + 1)) := by rw [l0]; exact sq_vp hd (by decide)
    have nd := (sq_nn hd).2
    have ed : I (o + 1) (Int32.toNatClampNeg d) = s.1 (nn9 d) := h.1 _ nd.1 nd.2
    have L49 : ¬ (sq9 (d * n) ∧ ¬ s.1 (nn9 (d * n)) + n ≤ 99) → P 49 112 [(0, .ref o), (1, .int d), (2, .int n), (3, .int (d * n))] [] I J R := fun c3 => by
      rw [if_neg c3] at hQ
      refine sg_X0_splitUp_49 hc _ _ _ _ _ _ _ (bif_t hO (bif_t a0 ⟨vd, ?_⟩))
      rw [ed]
      refine ⟨fun c4 => ?_, fun c4 => px_sl9 (fun hp _ => ⟨fun _ => ?_, fun z => absurd z (by decide)⟩) (fun hp _ => ⟨fun z => absurd rfl z, fun _ => ?_⟩)⟩
      · rw [if_neg (fun z => z.1 c4)] at hQ
        exact hQ I h FrW.rf
      · have vq : vp_in (d * n) (aL (o + 1)) := by rw [l0]; exact sq_vp hp (by decide)
        have np := (sq_nn hp).2
        rw [if_pos ⟨c4, hp⟩] at hQ
        refine bif_t hO (bif_t a0 ⟨vd, bif_t a0 ⟨vd, bif_t hO (bif_t a0 ⟨vq, bif_t a0 ⟨vq, bif_t hO (bif_t hO ?_)⟩⟩)⟩⟩)
        have h1 := h.st (k := nn9 d) (v := s.1 (nn9 d) - 1) nd
        have ea := h1.1 _ np.1 np.2
        rw [ed, ea]
        have h2 := h1.st (k := nn9 (d * n)) (v := upd s.1 (nn9 d) (s.1 (nn9 d) - 1) (nn9 (d * n)) + n) np
        have ec := h2.2.2
        rw [ec]
        exact hQ _ (h2.ct (v := s.2.2 + 1)) (((FrW.rf.u (Or.inl rfl)).u (Or.inl rfl)).u (Or.inr (Or.inr ⟨rfl, rfl⟩)))
      · rw [if_neg (fun z => hp z.2)] at hQ
        exact hQ I h FrW.rf
    refine px_sl9 (fun hp _ => ⟨fun z => absurd z (by decide), fun _ => ?_⟩) (fun hp _ => ⟨fun _ => L49 (fun z => hp z.1), fun z => absurd rfl z⟩)
    have vq : vp_in (d * n) (aL (o + 1)) := by rw [l0]; exact sq_vp hp (by decide)
    have np := (sq_nn hp).2
    have ep : I (o + 1) (Int32.toNatClampNeg (d * n)) = s.1 (nn9 (d * n)) := h.1 _ np.1 np.2
    refine bif_t hO (bif_t a0 ⟨vq, ?_⟩)
    rw [ep]
    refine ⟨fun c3 => L49 (fun z => z.2 c3), fun c3 => ?_⟩
    rw [if_pos ⟨hp, c3⟩] at hQ
    exact hQ I h FrW.rf
  · have e1 : opSplit d n s = (2, s) := if_neg hd
    rw [e1] at hQ
    exact hQ I h FrW.rf
theorem mn_nn {k m : Int32} (h : (0 : Int32) ≤ k ∧ k < m) (hm : m.toInt = (M : Int) ∧ M ≤ 6) : nn9 k < M ∧ vp_in k 6 := by
  obtain ⟨h1, h2⟩ := h
  rw [le_i, show (0 : Int32).toInt = 0 from rfl] at h1
  rw [Int32.lt_iff_toInt_lt] at h2
  have e : nn9 k = k.toInt.toNat := rfl
  exact ⟨by omega, vp_of (a := k.toInt) rfl h1 (by omega)⟩
theorem px_handOver {e o : Nat} {k d : Int32} {s : StS9} (hO : isO 112 o 0 = true) (hm : (I o 4).toInt = (M : Int) ∧ M ≤ 6) (h : BkA o M s I) (hQ : ∀ I2, BkA o M (opGive (I o 4) k d s).2 I2 → FrBk o I J I2 J → Q (opGive (I o 4) k d s).1 0 I2 J R) : AM (e + 2) 18 112 [.ref o, .int k, .int d] I J R Q := by
  obtain ⟨a0, l0, -⟩ := fa_0_0 hO
  obtain ⟨a5, l5, -⟩ := fa_0_8 hO
  have no : ¬ (((0 : Int32) ≤ k ∧ k < I o 4) ∧ sq9 d) → Q 2 0 I J R := fun c => by
    have e1 : opGive (I o 4) k d s = (2, s) := if_neg c
    rw [e1] at hQ
    exact hQ I h FrW.rf
  refine w_X0_handOver (bif_t hO (px_cMan9 hO (fun hk _ => ⟨fun z => absurd z (by decide), fun _ => px_sl9 (fun hd _ => ⟨fun _ => ?_, fun z => absurd z (by decide)⟩) (fun hd _ => ⟨fun z => absurd rfl z, fun _ => no (fun y => hd y.2)⟩)⟩) (fun hk _ => ⟨fun _ => no (fun y => hk y.1), fun z => absurd rfl z⟩)))
  have e1 : opGive (I o 4) k d s = if ¬ s.1 (nn9 d) < 1 ∧ inS (s.2.1 (nn9 k)) d = false then (0, upd s.1 (nn9 d) (s.1 (nn9 d) - 1), upd s.2.1 (nn9 k) (s.2.1 (nn9 k) ||| biS d), s.2.2) else (9, s) := if_pos ⟨hk, hd⟩
  rw [e1] at hQ
  have vd : vp_in d (aL (o + 1)) := by rw [l0]; exact sq_vp hd (by decide)
  have nd := (sq_nn hd).2
  obtain ⟨nk, vk⟩ := mn_nn hk hm
  rw [← l5] at vk
  have ed : I (o + 1) (Int32.toNatClampNeg d) = s.1 (nn9 d) := h.1 _ nd.1 nd.2
  have ek : I (o + 5) (Int32.toNatClampNeg k) = s.2.1 (nn9 k) := h.2.1 _ nk
  refine bif_t hO (bif_t a0 ⟨vd, ?_⟩)
  rw [ed]
  refine ⟨fun c => ?_, fun c => bif_t hO (bif_t a5 ⟨vk, ?_⟩)⟩
  · rw [if_neg (fun z => z.1 c)] at hQ
    exact hQ I h FrW.rf
  · rw [ek]
    refine px_isIn (fun hi _ => ⟨fun z => absurd z (by decide), fun _ => ?_⟩) (fun hi _ => ⟨fun _ => ?_, fun z => absurd rfl z⟩)
    · rw [if_neg (fun z => by rw [hi] at z; exact absurd z.2 (by decide))] at hQ
      exact hQ I h FrW.rf
    · rw [if_pos ⟨c, hi⟩] at hQ
      refine bif_t hO (bif_t a0 ⟨vd, bif_t a0 ⟨vd, bif_t hO (bif_t a5 ⟨vk, w_X11_bit (bif_t a5 ⟨vk, ?_⟩)⟩)⟩⟩)
      have h1 := h.st (k := nn9 d) (v := s.1 (nn9 d) - 1) nd
      have e2 := h1.2.1 _ nk
      rw [ed, e2]
      exact hQ _ (h1.hv (k := nn9 k) (v := s.2.1 (nn9 k) ||| biS d) nk) ((FrW.rf.u (Or.inl rfl)).u (Or.inr (Or.inl rfl)))
end STC
end PT13x2
