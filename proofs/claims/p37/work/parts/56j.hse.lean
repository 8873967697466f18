section PT13x4
section STQ
variable {M : Nat} {I : Im} {J : Jm} {R : Rm} {Q : Qt}
theorem px_splits {e : Nat} {d n : Int32} {s : StS9} (hd : sq9 d) (hn : (2 : Int32) ≤ n ∧ n ≤ 30) (h : BkR M s I) (h0 : (0 : Int32) ≤ s.1 (nn9 d)) (hQ : ∀ I2, BkR M (opSplit d n s).2 I2 → FrRs I J I2 J → Q (b9 (opSplit d n s).1) 0 I2 J R) : AM (e + 2) 259 112 [.ref 97, .int d, .int n] I J R Q := by
  have e0 : opSplit d n s = if sq9 (d * n) ∧ ¬ s.1 (nn9 (d * n)) + n ≤ 99 then (7, s) else if ¬ s.1 (nn9 d) < 1 ∧ sq9 (d * n) then (0, sp9 s.1 d n, s.2.1, s.2.2 + 1) else (9, s) := (if_pos hd).trans (if_pos hn)
  rw [e0] at hQ
  have no : ¬ (¬ (sq9 (d * n) ∧ ¬ s.1 (nn9 (d * n)) + n ≤ 99) ∧ (¬ s.1 (nn9 d) < 1 ∧ sq9 (d * n))) → Q 0 0 I J R := fun hn => by
    by_cases q : sq9 (d * n) ∧ ¬ s.1 (nn9 (d * n)) + n ≤ 99
    · rw [if_pos q] at hQ
      have k : Q (b9 7) 0 I J R := hQ I h FrW.rf
      rw [b9_7] at k
      exact k
    · rw [if_neg q, if_neg (fun z => hn ⟨q, z⟩)] at hQ
      have k : Q (b9 9) 0 I J R := hQ I h FrW.rf
      rw [b9_9] at k
      exact k
  obtain ⟨id, vd⟩ := ix_st hd
  have nd := (sq_nn hd).2
  have sd := h.1 _ nd.1 nd.2
  have t2 : Int32.toNatClampNeg 2 = 2 := rfl
  have v2 : vp_in 2 1620 := vp_of (a := 2) rfl (by decide) (by decide)
  refine w_X12_splits ⟨vd, ?_⟩
  rw [id, t2, sd]
  refine ⟨fun c => ⟨Or.inl rfl, no (fun z => z.2.1 (by rw [c]; decide))⟩, fun c => ⟨fun c2 => ⟨Or.inl rfl, no (fun z => absurd c2 (ile.mpr z.2.2.2))⟩, fun c2 => ?_⟩⟩
  have c1 : ¬ s.1 (nn9 d) < 1 := fun z => c (Int32.toInt_inj.mp (by
    rw [Int32.lt_iff_toInt_lt, show (1 : Int32).toInt = 1 from rfl] at z
    rw [le_i, show (0 : Int32).toInt = 0 from rfl] at h0
    rw [show (0 : Int32).toInt = 0 from rfl]
    omega))
  have hp : sq9 (d * n) := (dn_case hd hn).resolve_right (fun z => c2 z.1)
  obtain ⟨ip, vp⟩ := ix_st hp
  have np := (sq_nn hp).2
  refine px_areMore hp h (fun _ => ?_)
  by_cases q : s.1 (nn9 (d * n)) + n ≤ 99
  · rw [if_pos q]
    rw [if_neg (fun z => z.2 q), if_pos ⟨c1, hp⟩] at hQ
    refine ⟨fun _ => ⟨vd, vd, vp, vp, v2, v2, Or.inr rfl, ?_⟩, fun z => absurd rfl z⟩
    have g1 := h.st (k := nn9 d) (v := s.1 (nn9 d) - 1) nd
    have f1 := g1.1 _ np.1 np.2
    rw [ip, sd, f1]
    have g2 := g1.st (k := nn9 (d * n)) (v := upd s.1 (nn9 d) (s.1 (nn9 d) - 1) (nn9 (d * n)) + n) np
    have f3 := g2.2.2
    rw [f3]
    have k : Q (b9 0) 0 _ J R := hQ _ (g2.ct (v := s.2.2 + 1)) (((FrW.rf.u ⟨rfl, Or.inl ⟨by omega, by omega⟩⟩).u ⟨rfl, Or.inl ⟨by omega, by omega⟩⟩).u ⟨rfl, Or.inr (Or.inr rfl)⟩)
    rw [b9_0] at k
    exact k
  · rw [if_neg q]
    exact ⟨fun z => absurd z (by decide), fun _ => ⟨Or.inl rfl, no (fun z => z.1 ⟨hp, q⟩)⟩⟩
theorem px_takes {e : Nat} {k d m : Int32} {s : StS9} (hk : (0 : Int32) ≤ k ∧ k < m) (hm : m.toInt = (M : Int) ∧ M ≤ 6) (hd : sq9 d) (h : BkR M s I) (h9 : s.1 (nn9 d) ≤ 99) (hh : 0 ≤ (s.2.1 (nn9 k)).toInt) (hQ : ∀ I2, BkR M (opTake m k d s).2 I2 → FrRs I J I2 J → Q (b9 (opTake m k d s).1) 0 I2 J R) : AM (e + 2) 265 112 [.ref 97, .int k, .int d] I J R Q := by
  have e0 : opTake m k d s = if s.1 (nn9 d) < 99 then (if inS (s.2.1 (nn9 k)) d = true then (0, upd s.1 (nn9 d) (s.1 (nn9 d) + 1), upd s.2.1 (nn9 k) (s.2.1 (nn9 k) &&& (biS d ^^^ (-1))), s.2.2) else (9, s)) else (7, s) := if_pos ⟨hk, hd⟩
  rw [e0] at hQ
  obtain ⟨id, vd⟩ := ix_st hd
  obtain ⟨ik, vk, nk⟩ := ix_hv hk hm
  have nd := (sq_nn hd).2
  have sd := h.1 _ nd.1 nd.2
  have sk := h.2.1 _ nk
  refine w_X12_takes ⟨vd, ?_⟩
  rw [id, ik, sd, sk]
  refine ⟨fun c => ⟨Or.inl rfl, ?_⟩, fun c => ?_⟩
  · rw [if_neg (by rw [c]; decide)] at hQ
    have z : Q (b9 7) 0 I J R := hQ I h FrW.rf
    rw [b9_7] at z
    exact z
  · have c1 : s.1 (nn9 d) < 99 := by
      have hne : ¬ (s.1 (nn9 d)).toInt = 99 := fun z => c (Int32.toInt_inj.mp z)
      rw [le_i, show (99 : Int32).toInt = 99 from rfl] at h9
      rw [Int32.lt_iff_toInt_lt, show (99 : Int32).toInt = 99 from rfl]
      omega
    rw [if_pos c1] at hQ
    refine ⟨vk, px_isOf hh hd.1 hd.2 (fun hi _ => ⟨fun _ => ⟨vd, vd, vk, vk, Or.inr rfl, ?_⟩, fun z => absurd z (by decide)⟩) (fun hi _ => ⟨fun z => absurd rfl z, fun _ => ⟨Or.inl rfl, ?_⟩⟩)⟩
    · rw [if_pos hi, ← xa9 (and_pow hd hi)] at hQ
      have g1 := h.st (k := nn9 d) (v := s.1 (nn9 d) + 1) nd
      have f1 := g1.2.1 _ nk
      rw [sd, f1]
      have z : Q (b9 0) 0 _ J R := hQ _ (g1.hv (k := nn9 k) (v := s.2.1 (nn9 k) ^^^ biS d) nk) ((FrW.rf.u ⟨rfl, Or.inl ⟨by omega, by omega⟩⟩).u ⟨rfl, Or.inr (Or.inl ⟨by omega, by omega⟩)⟩)
      rw [b9_0] at z
      exact z
    · rw [if_neg (by rw [hi]; decide)] at hQ
      have z : Q (b9 9) 0 I J R := hQ I h FrW.rf
      rw [b9_9] at z
      exact z
end STQ
end PT13x4
section PT13x5
/-! ===== what the store holds, what a man has: both sides ===== -/
/-- how many, the set; what a man has, in crumbs: over the last f slices -/
noncomputable def pcR (S : Nat → Int32) : Nat → Int32 → Int32
  | 0, x => x
  | f + 1, x => pcR S f (x + S (30 - f))
noncomputable def stR (S : Nat → Int32) : Nat → Int32 → Int32
  | 0, x => x
  | f + 1, x => stR S f (if S (30 - f) ≤ 0 then x else x ||| biS (nI (30 - f)))
noncomputable def hvR (h : Int32) : Nat → Int → Int
  | 0, x => x
  | f + 1, x => hvR h f (if inS h (nI (30 - f)) = true then x + pt (30 - f) else x)
section STP
variable {M : Nat} {I : Im} {J : Jm} {R : Rm} {Q : Qt}
theorem nx30 {f : Nat} (h : f + 1 ≤ 30) : nI (30 - f) + 1 = nI (31 - f) := by rw [nI_k1]; exact congrArg nI (by omega)
theorem px_pieces {e o : Nat} {s : StS9} (hO : isO 112 o 0 = true) (h : BkA o M s I) (hQ : Q (pcR s.1 30 0) 0 I J R) : AM (e + 1) 6 112 [.ref o] I J R Q := by
  obtain ⟨a0, l0, -⟩ := fa_0_0 hO
  refine am_X0_pieces (fun P hc => sg_X0_pieces_0 hc _ _ _ _ ?_)
  have L : ∀ (f : Nat) (x : Int32), f ≤ 30 → Q (pcR s.1 f x) 0 I J R → P 4 112 [(0, .ref o), (1, .int x), (2, .int (nI (31 - f)))] [] I J R := by
    intro f
    induction f with
    | zero => intro x _ hQ; exact sg_X0_pieces_4 hc _ _ _ _ _ _ ⟨fun _ => hQ, fun c => absurd ((nlt_nI (a := 30) (b := 31 - 0) (by omega) (by omega)).mpr (by omega)) c⟩
    | succ f ih =>
      intro x hf hQ
      have ed : 31 - (f + 1) = 30 - f := by omega
      rw [ed]
      refine sg_X0_pieces_4 hc _ _ _ _ _ _ ⟨fun c => absurd ((nlt_nI (a := 30) (by omega) (by omega)).mp c) (by omega), fun _ => bif_t hO (bif_t a0 ⟨by rw [l0]; exact vp_nI (by omega) (by omega), ?_⟩)⟩
      rw [tn_nI (by omega), h.1 (30 - f) (by omega) (by omega), nx30 hf]
      exact ih _ (by omega) hQ
  exact L 30 0 (by decide) hQ
theorem ix_b {f : Nat} (h : f + 1 ≤ 30) : Int32.toNatClampNeg (4 + nI (29 - f)) = 3 + (30 - f) ∧ vp_in (4 + nI (29 - f)) 1620 := by
  have e1 : (4 + nI (29 - f) : Int32).toInt = 4 + ((29 - f : Nat) : Int) := ti_add (show (4 : Int32).toInt = 4 from rfl) (nI_toInt (by omega)) (by omega)
  have e3 : Int32.toNatClampNeg (4 + nI (29 - f)) = (4 + nI (29 - f) : Int32).toInt.toNat := rfl
  exact ⟨by rw [e3, e1]; omega, vp_of (a := 4 + ((29 - f : Nat) : Int)) e1 (by omega) (by omega)⟩
theorem nx29 {f : Nat} (h : f + 1 ≤ 30) : nI (29 - f) + 1 = nI (30 - f) := by rw [nI_k1]; exact congrArg nI (by omega)
theorem px_held {e : Nat} {s : StS9} (h : BkR M s I) (hQ : Q (pcR s.1 30 0) 0 I J R) : AM (e + 1) 245 112 [.ref 97] I J R Q := by
  refine am_X12_held (fun P hc => sg_X12_held_0 hc _ _ _ ?_)
  have L : ∀ (f : Nat) (x : Int32), f ≤ 30 → Q (pcR s.1 f x) 0 I J R → P 4 112 [(0, .ref 97), (1, .int x), (2, .int (nI (30 - f)))] [] I J R := by
    intro f
    induction f with
    | zero => intro x _ hQ; exact sg_X12_held_4 hc _ _ _ _ _ ⟨fun _ => hQ, fun c => absurd ((nle_nI (a := 30) (b := 30 - 0) (by omega) (by omega)).mpr (by omega)) c⟩
    | succ f ih =>
      intro x hf hQ
      obtain ⟨ib, vb⟩ := ix_b hf
      have ed : 30 - (f + 1) = 29 - f := by omega
      rw [ed]
      refine sg_X12_held_4 hc _ _ _ _ _ ⟨fun c => absurd ((nle_nI (a := 30) (by omega) (by omega)).mp c) (by omega), fun _ => ⟨vb, ?_⟩⟩
      rw [ib, h.1 (30 - f) (by omega) (by omega), nx29 hf]
      exact ih _ (by omega) hQ
  exact L 30 0 (by decide) hQ
theorem px_holding {e o : Nat} {k : Int32} {s : StS9} (hO : isO 112 o 0 = true) (hk : (0 : Int32) ≤ k ∧ k < I o 4) (hm : (I o 4).toInt = (M : Int) ∧ M ≤ 6) (h : BkA o M s I) (hQ : ∀ y : Int64, y.toInt = hvR (s.2.1 (nn9 k)) 30 0 → Q 0 y I J R) : AM (e + 2) 9 112 [.ref o, .int k] I J R Q := by
  obtain ⟨a5, l5, -⟩ := fa_0_8 hO
  obtain ⟨nk, vk⟩ := mn_nn hk hm
  rw [← l5] at vk
  have ek : I (o + 5) (Int32.toNatClampNeg k) = s.2.1 (nn9 k) := h.2.1 _ nk
  refine am_X0_holding (fun P hc => sg_X0_holding_0 hc _ _ _ _ _ ?_)
  have L : ∀ (f : Nat) (x : Int64) (a : Int), f ≤ 30 → x.toInt = a → 0 ≤ a ∧ a ≤ ((30 - f : Nat) : Int) * 2329089562800 → (∀ y : Int64, y.toInt = hvR (s.2.1 (nn9 k)) f a → Q 0 y I J R) → P 5 112 [(0, .ref o), (1, .int k), (2, .long x), (4, .int (nI (31 - f)))] [] I J R := by
    intro f
    induction f with
    | zero => intro x a _ hx _ hQ; exact sg_X0_holding_5 hc _ _ _ _ _ _ _ ⟨fun _ => hQ x hx, fun c => absurd ((nlt_nI (a := 30) (b := 31 - 0) (by omega) (by omega)).mpr (by omega)) c⟩
    | succ f ih =>
      intro x a hf hx ha hQ
      have ed : 31 - (f + 1) = 30 - f := by omega
      obtain ⟨p1, p2, -⟩ := pt_b (d := 30 - f) (by omega) (by omega)
      have e1 : ((30 - (f + 1) : Nat) : Int) = ((30 - f : Nat) : Int) - 1 := by omega
      rw [e1] at ha
      have hQ2 : ∀ y : Int64, y.toInt = hvR (s.2.1 (nn9 k)) f (if inS (s.2.1 (nn9 k)) (nI (30 - f)) = true then a + pt (30 - f) else a) → Q 0 y I J R := hQ
      rw [ed]
      refine sg_X0_holding_5 hc _ _ _ _ _ _ _ ⟨fun c => absurd ((nlt_nI (a := 30) (by omega) (by omega)).mp c) (by omega), fun _ => bif_t hO (bif_t a5 ⟨vk, ?_⟩)⟩
      rw [ek, nx30 hf]
      refine px_isIn (fun hi _ => ⟨fun z => absurd z (by decide), fun _ => px_cr1 (by omega) (by omega) (fun y hy => ?_)⟩) (fun hi _ => ⟨fun _ => ?_, fun z => absurd rfl z⟩)
      · rw [if_pos hi] at hQ2
        exact ih _ _ (by omega) (tl_add hx hy (by omega)) (by omega) hQ2
      · rw [if_neg (by rw [hi]; decide)] at hQ2
        exact ih _ _ (by omega) hx (by omega) hQ2
  exact L 30 0 0 (by decide) rfl (by decide) hQ
end STP
end PT13x5
