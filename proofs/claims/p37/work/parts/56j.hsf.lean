section PT13x5
section STP
variable {M : Nat} {I : Im} {J : Jm} {R : Rm} {Q : Qt}
theorem px_sumOf {e : Nat} {h : Int32} (hh : 0 ≤ h.toInt) (hQ : ∀ y : Int64, y.toInt = hvR h 30 0 → Q 0 y I J R) : AM (e + 2) 243 112 [.int h] I J R Q := by
  refine am_X12_sumOf (fun P hc => sg_X12_sumOf_0 hc _ _ _ _ ?_)
  have L : ∀ (f : Nat) (x : Int64) (a : Int), f ≤ 30 → x.toInt = a → 0 ≤ a ∧ a ≤ ((30 - f : Nat) : Int) * 2329089562800 → (∀ y : Int64, y.toInt = hvR h f a → Q 0 y I J R) → P 4 112 [(0, .int h), (1, .long x), (3, .int (nI (31 - f)))] [] I J R := by
    intro f
    induction f with
    | zero => intro x a _ hx _ hQ; exact sg_X12_sumOf_4 hc _ _ _ _ _ _ ⟨fun _ => hQ x hx, fun c => absurd ((nlt_nI (a := 30) (b := 31 - 0) (by omega) (by omega)).mpr (by omega)) c⟩
    | succ f ih =>
      intro x a hf hx ha hQ
      have ed : 31 - (f + 1) = 30 - f := by omega
      obtain ⟨p1, p2, -⟩ := pt_b (d := 30 - f) (by omega) (by omega)
      have e1 : ((30 - (f + 1) : Nat) : Int) = ((30 - f : Nat) : Int) - 1 := by omega
      rw [e1] at ha
      have hQ2 : ∀ y : Int64, y.toInt = hvR h f (if inS h (nI (30 - f)) = true then a + pt (30 - f) else a) → Q 0 y I J R := hQ
      rw [ed]
      refine sg_X12_sumOf_4 hc _ _ _ _ _ _ ⟨fun c => absurd ((nlt_nI (a := 30) (by omega) (by omega)).mp c) (by omega), fun _ => ?_⟩
      rw [nx30 hf]
      refine px_isOf hh ((nle_nI (a := 1) (by omega) (by omega)).mpr (by omega)) ((nle_nI (b := 30) (by omega) (by omega)).mpr (by omega)) (fun hi _ => ⟨fun z => absurd z (by decide), fun _ => px_parts (by omega) (by omega) (fun y hy => ?_)⟩) (fun hi _ => ⟨fun _ => ?_, fun z => absurd rfl z⟩)
      · rw [if_pos hi] at hQ2
        exact ih _ _ (by omega) (tl_add hx hy (by omega)) (by omega) hQ2
      · rw [if_neg (by rw [hi]; decide)] at hQ2
        exact ih _ _ (by omega) (by rw [Int64.add_zero]; exact hx) (by omega) hQ2
  exact L 30 0 0 (by decide) rfl (by decide) hQ
end STP
end PT13x5
section PT13x6
/-! ===== bake(), cut(), split(): both sides ===== -/
noncomputable def anX (st v : Int32) : Int32 := if st = 0 then v else -1
noncomputable abbrev WCk (o : Nat) : Nat → Nat → Prop := fun c k => WBk o c k ∨ (c = 1 ∧ k = 0)
noncomputable abbrev FrCk (o : Nat) (I : Im) (J : Jm) (I2 : Im) (J2 : Jm) : Prop := FrW (WCk o) nV I J I2 J2
noncomputable abbrev WMk : Nat → Nat → Prop := fun c k => WRs c k ∨ (c = 97 ∧ (k = 0 ∨ k = 1))
noncomputable abbrev FrMk (I : Im) (J : Jm) (I2 : Im) (J2 : Jm) : Prop := FrW WMk nV I J I2 J2
theorem BkA.one {o M k : Nat} {v : Int32} {s : StS9} {I : Im} (ho : o = 9 ∨ o = 15) (h : BkA o M s I) : BkA o M s (uI I 1 k v) :=
  ⟨fun d a b => (rd_ne (by first | decide | omega)).trans (h.1 d a b), fun i hi => (rd_ne (by first | decide | omega)).trans (h.2.1 i hi), (rd_ne (by first | decide | omega)).trans h.2.2⟩
theorem BkR.sk {M k : Nat} {v : Int32} {s : StS9} {I : Im} (h : BkR M s I) : BkR M s (uI I 97 k v) :=
  ⟨fun d a b => (rd_ne (by decide)).trans (h.1 d a b), fun i hi => (rd_ne (by decide)).trans (h.2.1 i hi), (rd_ne (by decide)).trans h.2.2⟩
theorem b9_z {x : Int32} (h : b9 x = 0) : ¬ x = 0 := fun q => by
  rw [q] at h
  exact absurd h (by decide)
theorem b9_nz {x : Int32} (h : ¬ b9 x = 0) : x = 0 := by
  by_cases q : x = 0
  · exact q
  · exact absurd (if_neg q) h
section STV
variable {M : Nat} {I : Im} {J : Jm} {R : Rm} {Q : Qt}
theorem FrBk.c {o : Nat} {I2 : Im} {J2 : Jm} (h : FrBk o I J I2 J2) : FrCk o I J I2 J2 := h.up (fun _ _ q => Or.inl q) (fun _ _ q => q)
theorem FrRs.m {I2 : Im} {J2 : Jm} (h : FrRs I J I2 J2) : FrMk I J I2 J2 := h.up (fun _ _ q => Or.inl q) (fun _ _ q => q)
theorem FrMk.b : FrMk I J (uI (uI I 97 1 0) 97 0 0) J := (FrW.rf.u (Or.inr ⟨rfl, Or.inr rfl⟩)).u (Or.inr ⟨rfl, Or.inl rfl⟩)
/-- the class: behind what was done -/
theorem px_ref9 {d : Nat} {st v : Int32} {o : Nat} {s : StS9} {I0 : Im} (ho : o = 9 ∨ o = 15) (h : BkA o M s I) (hF : FrBk o I0 J I J) (c : ¬ st = 0) (hQ : ∀ I2, BkA o M s I2 → FrCk o I0 J I2 J → Q (anX st v) 0 I2 J R) : AM (d + 1) 149 112 [.ref 1, .int st] I J R (fun x _ I2 J2 _ => Q x 0 I2 J2 R) := by
  refine w_X11_refuse ?_
  have k := hQ (uI I 1 0 st) (h.one ho) (FrW.u (FrBk.c hF) (Or.inr ⟨rfl, rfl⟩))
  rw [show anX st v = -1 from if_neg c] at k
  exact k
theorem px_ans9 {d : Nat} {st v : Int32} {o : Nat} {s : StS9} {I0 : Im} (ho : o = 9 ∨ o = 15) (h : BkA o M s I) (hF : FrBk o I0 J I J) (c : st = 0) (hQ : ∀ I2, BkA o M s I2 → FrCk o I0 J I2 J → Q (anX st v) 0 I2 J R) : AM (d + 1) 151 112 [.ref 1, .int v] I J R (fun x _ I2 J2 _ => Q x 0 I2 J2 R) := by
  refine w_X11_answer ?_
  have k := hQ (uI I 1 0 0) (h.one ho) (FrW.u (FrBk.c hF) (Or.inr ⟨rfl, rfl⟩))
  rw [show anX st v = v from if_pos c] at k
  exact k
theorem px_cBake {d : Nat} {n : Int32} {s : StS9} (hR : RI R) (h : BkA (R 1 7) M s I) (hQ : ∀ I2, BkA (R 1 7) M (opAdd n s).2 I2 → FrCk (R 1 7) I J I2 J → Q (anX (opAdd n s).1 ((opAdd n s).2.1 1)) 0 I2 J R) : AM (d + 3) 118 112 [.ref 1, .int n] I J R Q := by
  have hO := hR.now.1
  obtain ⟨a0, l0, -⟩ := fa_0_0 hO
  have t1 : Int32.toNatClampNeg 1 = 1 := rfl
  have v1 : vp_in 1 (aL (R 1 7 + 1)) := by rw [l0]; exact vp_of (a := 1) rfl (by decide) (by decide)
  refine w_X11_bake ⟨hR.now.2, bif_t hO (px_addLoaves hO h (fun I2 h2 hF => ⟨fun c => px_ref9 (now_9 hR) h2 hF c hQ, fun c => ⟨hR.now.2, bif_t hO (bif_t a0 ⟨v1, ?_⟩)⟩⟩))⟩
  rw [t1, h2.1 1 (by decide) (by decide)]
  exact px_ans9 (now_9 hR) h2 hF c hQ
theorem px_cCut {e : Nat} {d a b : Int32} {s : StS9} (hR : RI R) (h : BkA (R 1 7) M s I) (hQ : ∀ I2, BkA (R 1 7) M (opCut d a b s).2 I2 → FrCk (R 1 7) I J I2 J → Q (anX (opCut d a b s).1 (pcR (opCut d a b s).2.1 30 0)) 0 I2 J R) : AM (e + 3) 119 112 [.ref 1, .int d, .int a, .int b] I J R Q := by
  have hO := hR.now.1
  exact w_X11_cut ⟨hR.now.2, bif_t hO (px_cutUp hO h (fun I2 h2 hF => ⟨fun c => px_ref9 (now_9 hR) h2 hF c hQ, fun c => ⟨hR.now.2, bif_t hO (px_pieces hO h2 (px_ans9 (now_9 hR) h2 hF c hQ))⟩⟩))⟩
theorem px_cSplit {e : Nat} {d n : Int32} {s : StS9} (hR : RI R) (h : BkA (R 1 7) M s I) (hQ : ∀ I2, BkA (R 1 7) M (opSplit d n s).2 I2 → FrCk (R 1 7) I J I2 J → Q (anX (opSplit d n s).1 (pcR (opSplit d n s).2.1 30 0)) 0 I2 J R) : AM (e + 3) 120 112 [.ref 1, .int d, .int n] I J R Q := by
  have hO := hR.now.1
  exact w_X11_split ⟨hR.now.2, bif_t hO (px_splitUp hO h (fun I2 h2 hF => ⟨fun c => px_ref9 (now_9 hR) h2 hF c hQ, fun c => ⟨hR.now.2, bif_t hO (px_pieces hO h2 (px_ans9 (now_9 hR) h2 hF c hQ))⟩⟩))⟩
/-- the reference: it refuses -/
theorem px_mref9 {d : Nat} {w st v : Int32} {s : StS9} {I0 : Im} (h : BkR M s I) (hF : FrMk I0 J I J) (c : ¬ st = 0) (hQ : ∀ I2, BkR M s I2 → FrMk I0 J I2 J → Q (anX st v) 0 I2 J R) : AM (d + 1) 176 112 [.ref 97, .int w] I J R (fun x _ I2 J2 _ => Q x 0 I2 J2 R) := by
  refine w_X12_refuse ?_
  have k := hQ (uI I 97 0 w) h.sk (hF.u (Or.inr ⟨rfl, Or.inl rfl⟩))
  rw [show anX st v = -1 from if_neg c] at k
  exact k
theorem px_mBake {d : Nat} {n : Int32} {s : StS9} (h : BkR M s I) (hQ : ∀ I2, BkR M (opAdd n s).2 I2 → FrMk I J I2 J → Q (anX (opAdd n s).1 ((opAdd n s).2.1 1)) 0 I2 J R) : AM (d + 2) 262 112 [.ref 97, .int n] I J R Q := by
  have t4 : Int32.toNatClampNeg 4 = 3 + 1 := rfl
  refine w_X12_bake (px_isInI (lo := 1) (hi := 99) (fun l1 l2 _ => ⟨fun _ => px_bakes ⟨l1, l2⟩ (h.sk).sk (fun I2 h2 hF _ => ⟨fun c => px_mref9 h2 (FrMk.b.tr hF.m) (b9_z c) hQ, fun c => ⟨vp_of (a := 4) rfl (by decide) (by decide), ?_⟩⟩), fun z => absurd z (by decide)⟩) (fun n1 _ => ⟨fun z => absurd rfl z, fun _ => ?_⟩))
  · rw [t4, h2.1 1 (by decide) (by decide)]
    have k := hQ I2 h2 (FrMk.b.tr hF.m)
    rw [show anX (opAdd n s).1 ((opAdd n s).2.1 1) = (opAdd n s).2.1 1 from if_pos (b9_nz c)] at k
    exact k
  · have e0 : opAdd n s = (5, s) := if_neg (fun z => n1.elim (fun a => ile.mpr z.1 a) (fun a => a z.2))
    rw [e0] at hQ
    exact px_mref9 (st := 5) (h.sk).sk FrMk.b (by decide) hQ
theorem px_mCut {e : Nat} {d a b : Int32} {s : StS9} (h : BkR M s I) (hs : ∀ k, 1 ≤ k → k ≤ 30 → (0 : Int32) ≤ s.1 k) (hQ : ∀ I2, BkR M (opCut d a b s).2 I2 → FrMk I J I2 J → Q (anX (opCut d a b s).1 (pcR (opCut d a b s).2.1 30 0)) 0 I2 J R) : AM (e + 3) 258 112 [.ref 97, .int d, .int a, .int b] I J R Q := by
  have hb0 : BkR M s (uI (uI I 97 1 0) 97 0 0) := (h.sk).sk
  have no : ¬ (sq9 d ∧ (sq9 a ∧ sq9 b)) → AM (e + 2) 176 112 [.ref 97, .int 2] (uI (uI I 97 1 0) 97 0 0) J R (fun x _ I2 J2 _ => Q x 0 I2 J2 R) := fun c => by
    have e0 : opCut d a b s = (2, s) := if_neg c
    rw [e0] at hQ
    exact px_mref9 (st := 2) hb0 FrMk.b (by decide) hQ
  refine w_X12_cut (px_mSlQ (fun hd _ => ⟨fun z => absurd z (by decide), fun _ => px_mSlQ (fun ha _ => ⟨fun z => absurd z (by decide), fun _ => px_mSlQ (fun hb _ => ⟨fun _ => px_isOver (s := s) ha hb hb0 (fun _ => ?_), fun z => absurd z (by decide)⟩) (fun hb _ => ⟨fun z => absurd rfl z, fun _ => no (fun y => hb y.2.2)⟩)⟩) (fun ha _ => ⟨fun _ => no (fun y => ha y.2.1), fun z => absurd rfl z⟩)⟩) (fun hd _ => ⟨fun _ => no (fun y => hd y.1), fun z => absurd rfl z⟩))
  have hd9 : sq9 d := hd
  have nd := (sq_nn hd9).2
  by_cases q : 99 < ov9 s.1 a d a b ∨ 99 < ov9 s.1 b d a b
  · rw [if_pos q]
    refine ⟨fun z => absurd z (by decide), fun _ => ?_⟩
    have e0 : opCut d a b s = (7, s) := (if_pos ⟨hd, ha, hb⟩).trans (if_pos q)
    rw [e0] at hQ
    exact px_mref9 (st := 7) hb0 FrMk.b (by decide) hQ
  · rw [if_neg q]
    refine ⟨fun _ => px_cuts hd ha hb hb0 (hs _ nd.1 nd.2) (fun I2 h2 hF _ => ⟨fun c => px_mref9 h2 (FrMk.b.tr hF.m) (b9_z c) hQ, fun c => px_held h2 ?_⟩), fun z => absurd rfl z⟩
    have k := hQ I2 h2 (FrMk.b.tr hF.m)
    rw [show anX (opCut d a b s).1 (pcR (opCut d a b s).2.1 30 0) = pcR (opCut d a b s).2.1 30 0 from if_pos (b9_nz c)] at k
    exact k
end STV
end PT13x6
