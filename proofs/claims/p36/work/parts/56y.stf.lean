section PT14x2
section RND
variable {I : Im} {J : Jm} {R : Rm} {Q : Qt} {M v0 o p : Nat} {c0 : Int32} {r : Rn9} {m od : Int32} {s : DS} {du : Du9}
end RND
end PT14x2
section PT14x3
/-! ===== the reference lives its days: one step's act, one test ===== -/
noncomputable abbrev WRz9 : Nat → Nat → Prop := fun c k => WRs c k ∨ (c = 97 ∧ (41 ≤ k ∧ k ≤ 48 ∧ ¬ k = 45))
noncomputable abbrev FrRz9 (I : Im) (J : Jm) (I2 : Im) (J2 : Jm) : Prop := FrW WRz9 nV I J I2 J2
noncomputable abbrev WRg9 : Nat → Nat → Prop := fun c k => WRs c k ∨ (c = 97 ∧ (k = 42 ∨ k = 46 ∨ k = 47))
noncomputable abbrev FrRg9 (I : Im) (J : Jm) (I2 : Im) (J2 : Jm) : Prop := FrW WRg9 nV I J I2 J2
/-- the run's numbers in the reference -/
noncomputable def RfM (M n : Nat) (r : Rn9) (I : Im) : Prop := BkR M r.1 I ∧ I 97 42 = r.2.1 ∧ I 97 44 = r.2.2.1 ∧ I 97 46 = r.2.2.2.1 ∧ I 97 47 = r.2.2.2.2 ∧ I 97 43 = nI n
/-- what a step's act is of is there -/
noncomputable def VA9 (m : Int32) (c : CD) : Prop := (c.1 = 9 → sq9 c.2.1 ∧ sq9 c.2.2.1 ∧ sq9 c.2.2.2) ∧ (c.1 = 10 → sq9 c.2.1 ∧ (2 : Int32) ≤ c.2.2.1 ∧ c.2.2.1 ≤ 30) ∧ (c.1 = 11 ∨ c.1 = 12 → ((0 : Int32) ≤ c.2.1 ∧ c.2.1 < m) ∧ sq9 c.2.2.1) ∧ (c.1 = 13 → (1 : Int32) ≤ c.2.1 ∧ c.2.1 ≤ 99)
theorem stW_k {i : Int32} (h : i = 9 ∨ i = 10 ∨ i = 11 ∨ i = 12 ∨ i = 13 ∨ i = 14) : (stW i = 0 → i = 9) ∧ (stW i = 1 → i = 10) ∧ (stW i = 2 → i = 11) ∧ (stW i = 3 → i = 12) ∧ (stW i = 4 → i = 13) ∧ (¬ stW i = 0 → ¬ stW i = 1 → ¬ stW i = 2 → ¬ stW i = 3 → ¬ stW i = 4 → i = 14) := by
  rcases h with rfl | rfl | rfl | rfl | rfl | rfl
  · exact ⟨fun _ => rfl, fun z => absurd z (show ¬ stW 9 = 1 by decide), fun z => absurd z (show ¬ stW 9 = 2 by decide), fun z => absurd z (show ¬ stW 9 = 3 by decide), fun z => absurd z (show ¬ stW 9 = 4 by decide), fun z _ _ _ _ => absurd (show stW 9 = 0 from rfl) z⟩
  · exact ⟨fun z => absurd z (show ¬ stW 10 = 0 by decide), fun _ => rfl, fun z => absurd z (show ¬ stW 10 = 2 by decide), fun z => absurd z (show ¬ stW 10 = 3 by decide), fun z => absurd z (show ¬ stW 10 = 4 by decide), fun _ z _ _ _ => absurd (show stW 10 = 1 from rfl) z⟩
  · exact ⟨fun z => absurd z (show ¬ stW 11 = 0 by decide), fun z => absurd z (show ¬ stW 11 = 1 by decide), fun _ => rfl, fun z => absurd z (show ¬ stW 11 = 3 by decide), fun z => absurd z (show ¬ stW 11 = 4 by decide), fun _ _ z _ _ => absurd (show stW 11 = 2 from rfl) z⟩
  · exact ⟨fun z => absurd z (show ¬ stW 12 = 0 by decide), fun z => absurd z (show ¬ stW 12 = 1 by decide), fun z => absurd z (show ¬ stW 12 = 2 by decide), fun _ => rfl, fun z => absurd z (show ¬ stW 12 = 4 by decide), fun _ _ _ z _ => absurd (show stW 12 = 3 from rfl) z⟩
  · exact ⟨fun z => absurd z (show ¬ stW 13 = 0 by decide), fun z => absurd z (show ¬ stW 13 = 1 by decide), fun z => absurd z (show ¬ stW 13 = 2 by decide), fun z => absurd z (show ¬ stW 13 = 3 by decide), fun _ => rfl, fun _ _ _ _ z => absurd (show stW 13 = 4 from rfl) z⟩
  · exact ⟨fun z => absurd z (show ¬ stW 14 = 0 by decide), fun z => absurd z (show ¬ stW 14 = 1 by decide), fun z => absurd z (show ¬ stW 14 = 2 by decide), fun z => absurd z (show ¬ stW 14 = 3 by decide), fun z => absurd z (show ¬ stW 14 = 4 by decide), fun _ _ _ _ _ => rfl⟩
section RNE
variable {I I1 : Im} {J : Jm} {R : Rm} {Q : Qt} {M n : Nat} {r : Rn9} {m od : Int32} {s : DS} {du : Du9}
theorem FrRs.rg (h : FrRs I J I1 J) : FrRg9 I J I1 J := h.up (fun _ _ q => Or.inl q) (fun _ _ q => q)
theorem FrRg9.rf (h : FrRg9 I J I1 J) : FrRz9 I J I1 J := h.up (fun _ _ q => q.elim Or.inl (fun z => Or.inr ⟨z.1, by have := z.2; omega⟩)) (fun _ _ q => q)
theorem FrRs.v (h : FrRs I J I1 J) (k : Nat) : I1 97 k = I 97 k := h.i (fun q => absurd q.1 (by decide))
theorem RfM.st {st : StS9} (h : RfM M n r I) (h1 : BkR M st I1) (hF : FrRs I J I1 J) : RfM M n (st, r.2) I1 := by
  obtain ⟨-, e2, e4, e6, e7, e3⟩ := h
  exact ⟨h1, (hF.v 42).trans e2, (hF.v 44).trans e4, (hF.v 46).trans e6, (hF.v 47).trans e7, (hF.v 43).trans e3⟩
theorem RfM.gi {st : StS9} {y : Int32} (h : RfM M n r I) (h1 : BkR M st I1) (hF : FrRs I J I1 J) : RfM M n (st, r.2.1, r.2.2.1, r.2.2.2.1 + y, r.2.2.2.2) (uI I1 97 46 (I1 97 46 + y)) := by
  obtain ⟨-, e2, e4, e6, e7, e3⟩ := h
  exact ⟨h1.sk, ((rd_k (by decide)).trans (hF.v 42)).trans e2, ((rd_k (by decide)).trans (hF.v 44)).trans e4, by rw [rd_eq, hF.v 46, e6], ((rd_k (by decide)).trans (hF.v 47)).trans e7, ((rd_k (by decide)).trans (hF.v 43)).trans e3⟩
theorem RfM.ba {st : StS9} {y : Int32} (h : RfM M n r I) (h1 : BkR M st I1) (hF : FrRs I J I1 J) : RfM M n (st, r.2.1, r.2.2.1, r.2.2.2.1, r.2.2.2.2 + y) (uI I1 97 47 (I1 97 47 + y)) := by
  obtain ⟨-, e2, e4, e6, e7, e3⟩ := h
  exact ⟨h1.sk, ((rd_k (by decide)).trans (hF.v 42)).trans e2, ((rd_k (by decide)).trans (hF.v 44)).trans e4, ((rd_k (by decide)).trans (hF.v 46)).trans e6, by rw [rd_eq, hF.v 47, e7], ((rd_k (by decide)).trans (hF.v 43)).trans e3⟩
theorem RfM.sd {x : Int32} (h : RfM M n r I) : RfM M n (sd9 x r) (uI I 97 42 x) := by
  obtain ⟨e1, e2, e4, e6, e7, e3⟩ := h
  exact ⟨e1.sk, rd_eq, (rd_k (by decide)).trans e4, (rd_k (by decide)).trans e6, (rd_k (by decide)).trans e7, (rd_k (by decide)).trans e3⟩
theorem RfM.sd3 {x y z : Int32} (h : RfM M n r I) : RfM M n (sd9 z r) (uI (uI (uI I 97 42 x) 97 42 y) 97 42 z) := by
  have k := ((h.sd (x := x)).sd (x := y)).sd (x := z)
  exact k
theorem RfM.ms {x z : Int32} (h : RfM M n r I) : RfM M n (ms9 x (z, r)) (uI I 97 44 (x + b9 z)) := by
  obtain ⟨e1, e2, e4, e6, e7, e3⟩ := h
  exact ⟨e1.sk, (rd_k (by decide)).trans e2, rd_eq, (rd_k (by decide)).trans e6, (rd_k (by decide)).trans e7, (rd_k (by decide)).trans e3⟩
theorem RfM.nx (h : RfM M n r I) : RfM M (n + 1) r (uI I 97 43 (nI (n + 1))) := by
  obtain ⟨e1, e2, e4, e6, e7, e3⟩ := h
  exact ⟨e1.sk, (rd_k (by decide)).trans e2, (rd_k (by decide)).trans e4, (rd_k (by decide)).trans e6, (rd_k (by decide)).trans e7, rd_eq⟩
theorem RfM.fl {k : Nat} {v : Int32} (hk : k = 41 ∨ k = 48) (h : RfM M n r I) : RfM M n r (uI I 97 k v) := by
  obtain ⟨e1, e2, e4, e6, e7, e3⟩ := h
  exact ⟨e1.sk, (rd_k (by omega)).trans e2, (rd_k (by omega)).trans e4, (rd_k (by omega)).trans e6, (rd_k (by omega)).trans e7, (rd_k (by omega)).trans e3⟩
theorem px_mDraw {e : Nat} {x : Int32} (hn : ¬ x = 0) (hQ : Q (dm9 (dr9 (I 97 42)) x) 0 (uI I 97 42 (dr9 (I 97 42))) J R) : AM (e + 1) 304 112 [.ref 97, .int x] I J R Q := by
  refine w_X12_draw ⟨by decide, by decide, hn, ?_⟩
  rw [rd_eq]
  exact hQ
theorem px_mGiven {e : Nat} {k d : Int32} (hk : (0 : Int32) ≤ k ∧ k < m) (hm : m.toInt = (M : Int) ∧ M ≤ 6) (hd : sq9 d) (hb : StB M r.1) (h : RfM M n r I) (hQ : ∀ I2, RfM M n (gv9 m k d r).2 I2 → FrRg9 I J I2 J → Q (gv9 m k d r).1 0 I2 J R) : AM (e + 3) 305 112 [.ref 97, .int k, .int d] I J R Q := by
  have nd := (sq_nn hd).2
  have nk := (mn_nn hk hm).1
  refine w_X12_isGiven (px_gives hk hm hd h.1 (hb.lo _ nd.1 nd.2) (hb.hv0 _ nk) (fun I2 h2 hF _ => ?_))
  have kq := hQ _ (h.gi (y := b9 (opGive m k d r.1).1) h2 hF) (hF.rg.u (Or.inr ⟨rfl, by decide⟩))
  unfold gv9 at kq
  refine ⟨fun z => ⟨b9_01, ?_⟩, fun z => ⟨b9_01, ?_⟩⟩
  · rw [z] at kq ⊢; exact kq
  · have z1 : b9 (opGive m k d r.1).1 = 1 := b9_01.resolve_left z
    rw [z1] at kq ⊢; exact kq
theorem px_mBaked {e : Nat} {x : Int32} (hx : (1 : Int32) ≤ x ∧ x ≤ 99) (h : RfM M n r I) (hQ : ∀ I2, RfM M n (bv9 x r).2 I2 → FrRg9 I J I2 J → Q (bv9 x r).1 0 I2 J R) : AM (e + 2) 306 112 [.ref 97, .int x] I J R Q := by
  refine w_X12_isBaked (px_bakes hx h.1 (fun I2 h2 hF _ => ?_))
  have kq := hQ _ (h.ba (y := if (opAdd x r.1).1 = 0 then x else 0) h2 hF) (hF.rg.u (Or.inr ⟨rfl, by decide⟩))
  unfold bv9 at kq
  refine ⟨fun z => ⟨b9_01, ?_⟩, fun z => ⟨b9_01, ?_⟩⟩
  · rw [if_neg (b9_z z)] at kq; exact kq
  · rw [if_pos (b9_nz z)] at kq; exact kq
theorem px_mSplits {e : Nat} {d x : Int32} (hd : sq9 d) (hx : (2 : Int32) ≤ x ∧ x ≤ 30) (hb : StB M r.1) (h : RfM M n r I) (hQ : ∀ I2, RfM M n (sv9 r (opSplit d x r.1)).2 I2 → FrRg9 I J I2 J → Q (sv9 r (opSplit d x r.1)).1 0 I2 J R) : AM (e + 2) 259 112 [.ref 97, .int d, .int x] I J R Q := by
  have nd := (sq_nn hd).2
  exact px_splits hd hx h.1 (hb.lo _ nd.1 nd.2) (fun I2 h2 hF => hQ I2 (h.st h2 hF) hF.rg)
theorem px_mSplits2 {e : Nat} {d x : Int32} {s1 : StS9} (e1 : r.1 = s1) (hd : sq9 d) (hx : (2 : Int32) ≤ x ∧ x ≤ 30) (hb : StB M s1) (h : RfM M n r I) (hQ : ∀ I2, RfM M n (sv9 r (opSplit d x s1)).2 I2 → FrRg9 I J I2 J → Q (sv9 r (opSplit d x s1)).1 0 I2 J R) : AM (e + 2) 259 112 [.ref 97, .int d, .int x] I J R Q := by
  subst e1
  exact px_mSplits hd hx hb h hQ
theorem px_mAny {e : Nat} (em : I 102 0 = m) (hm : m.toInt = (M : Int) ∧ M ≤ 6) (eo : I 102 1 = od) (hb : RB9 M r) (h : RfM M n r I) (hQ : ∀ I2, RfM M n (an9 m od r).2 I2 → FrRg9 I J I2 J → Q (an9 m od r).1 0 I2 J R) : AM (e + 4) 307 112 [.ref 97] I J R Q := by
  have t0 : Int32.toNatClampNeg 0 = 0 := rfl
  have t1 : Int32.toNatClampNeg 1 = 1 := rfl
  have v0 : vp_in 0 1620 := vp_of (a := 0) rfl (by decide) (by decide)
  have v1 : vp_in 1 1620 := vp_of (a := 1) rfl (by decide) (by decide)
  have e2 := h.2.1
  have d1 := dr9_in hb.2
  have d2 := dr9_in d1
  have d3 := dr9_in d2
  refine w_X12_isAny ⟨v0, ?_⟩
  rw [t0, t1, em]
  refine ⟨fun n0 => ⟨v0, px_mDraw n0 (px_mDraw (by decide) (px_mDraw (by decide) ⟨v1, ?_⟩))⟩, fun c0 => ?_⟩
  · rw [rd_eq, rd_eq, e2]
    have h3 : RfM M n (sd9 (dr9 (dr9 (dr9 r.2.1))) r) (uI (uI (uI I 97 42 (dr9 r.2.1)) 97 42 (dr9 (dr9 r.2.1))) 97 42 (dr9 (dr9 (dr9 r.2.1)))) := h.sd3
    have hF3 : FrRg9 I J (uI (uI (uI I 97 42 (dr9 r.2.1)) 97 42 (dr9 (dr9 r.2.1))) 97 42 (dr9 (dr9 (dr9 r.2.1)))) J := ((FrW.rf.u (Or.inr ⟨rfl, by decide⟩)).u (Or.inr ⟨rfl, by decide⟩)).u (Or.inr ⟨rfl, by decide⟩)
    have eo3 : uI (uI (uI I 97 42 (dr9 r.2.1)) 97 42 (dr9 (dr9 r.2.1))) 97 42 (dr9 (dr9 (dr9 r.2.1))) 102 1 = od := by rw [rd_ne (by decide), rd_ne (by decide), rd_ne (by decide)]; exact eo
    rw [eo3]
    generalize uI (uI (uI I 97 42 (dr9 r.2.1)) 97 42 (dr9 (dr9 r.2.1))) 97 42 (dr9 (dr9 (dr9 r.2.1))) = A at h3 hF3
    have m1 : 1 ≤ m.toInt := by
      have : ¬ m.toInt = 0 := fun z => n0 (Int32.toInt_inj.mp z)
      omega
    have k1 := dm9_in (n := m) d1 m1
    have k2 := dm9_in (n := 30) d2 (by decide)
    have e30 : (30 : Int32).toInt = 30 := rfl
    have i1' : (1 : Int32).toInt = 1 := rfl
    have es : (dm9 (dr9 (dr9 r.2.1)) 30 + 1).toInt = (dm9 (dr9 (dr9 r.2.1)) 30).toInt + 1 := ti_add rfl i1' (by omega)
    have hsl : sq9 (dm9 (dr9 (dr9 r.2.1)) 30 + 1) := ⟨by rw [le_i, es, i1']; omega, by rw [le_i, es, e30]; omega⟩
    have hk : (0 : Int32) ≤ dm9 (dr9 r.2.1) m ∧ dm9 (dr9 r.2.1) m < m := ⟨by rw [le_i, show (0 : Int32).toInt = 0 from rfl]; omega, by rw [Int32.lt_iff_toInt_lt]; omega⟩
    refine ⟨fun c => ?_, fun c => ?_⟩
    · have ea : an9 m od r = gv9 m (dm9 (dr9 r.2.1) m) (dm9 (dr9 (dr9 r.2.1)) 30 + 1) (sd9 (dr9 (dr9 (dr9 r.2.1))) r) := (if_neg n0).trans (if_pos c)
      rw [ea] at hQ
      exact px_mGiven (r := sd9 (dr9 (dr9 (dr9 r.2.1))) r) hk hm hsl (hb.sd d3).1 h3 (fun I2 h2 hF hb => ⟨hb, hQ I2 h2 (hF3.tr hF)⟩)
    · have ea : an9 m od r = sv9 (sd9 (dr9 (dr9 (dr9 r.2.1))) r) (opSplit (dm9 (dr9 (dr9 r.2.1)) 30 + 1) 2 r.1) := (if_neg n0).trans (if_neg c)
      rw [ea] at hQ
      exact px_mSplits2 (r := sd9 (dr9 (dr9 (dr9 r.2.1))) r) (s1 := r.1) sd9_1 hsl (by decide) hb.1 h3 (fun I2 h2 hF hb => ⟨hb, hQ I2 h2 (hF3.tr hF)⟩)
  · have ea : an9 m od r = (0, r) := if_pos c0
    rw [ea] at hQ
    exact ⟨Or.inl rfl, hQ I h FrW.rf⟩
end RNE
end PT14x3
