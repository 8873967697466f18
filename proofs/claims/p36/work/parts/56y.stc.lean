section PT14x0
section DYW
variable {T : Nat → Int32} {e m : Nat} {N : Nat → Int64}
theorem dyB_wf : ∀ (f : Nat) (s s2 : DS) (a b : Nat), a ≤ e → e < a + f → DOk s → Wf9 s → dyB T e N m f s a = .ok (s2, b) → DOk s2 ∧ Wf9 s2 ∧ dD s2 = 0 := by
  intro f
  induction f with
  | zero => intro s s2 a b ha hf; omega
  | succ f ih =>
    intro s s2 a b ha hf hD hW h
    have eB : dyB T e N m (f + 1) s a = if tK (tok T e a) = 0 then (if dD s = 0 then .ok (s, a) else .error (mis T e a)) else rb (if tI (tok T e a) = 20 then dyE T e s a else dyS T e N m s a) fun s b => dyB T e N m f s b := rfl
    rw [eB] at h
    by_cases k0 : tK (tok T e a) = 0
    · rw [if_pos k0] at h
      by_cases d0 : dD s = 0
      · rw [if_pos d0] at h
        cases h
        exact ⟨hD, hW, d0⟩
      · rw [if_neg d0] at h; cases h
    · rw [if_neg k0] at h
      obtain ⟨s3, b3, h1, h2⟩ := rb_ok3 h
      by_cases q : tI (tok T e a) = 20
      · rw [if_pos q] at h1
        have u := up_dyE (T := T) (e := e) (s := s) ha q
        rw [h1] at u
        have u1 : a < b3 ∧ b3 ≤ e := u
        unfold dyE at h1
        by_cases d0 : dD s = 0
        · rw [if_pos d0] at h1; cases h1
        · rw [if_neg d0] at h1
          obtain ⟨y, b4, -, h4⟩ := rb_ok3 h1
          cases h4
          exact ih _ _ _ _ u1.2 (by omega) (hD.e d0) (hW.e hD d0) h2
      · rw [if_neg q] at h1
        have u := up_dyS (T := T) (e := e) (N := N) (M := m) (s := s) ha
        rw [h1] at u
        have u1 : a < b3 ∧ b3 ≤ e := u
        unfold dyS at h1
        by_cases hi : isSt (tI (tok T e a)) = true
        · rw [if_pos hi] at h1
          by_cases n30 : dN s = 30
          · rw [if_pos n30] at h1; cases h1
          · rw [if_neg n30] at h1
            by_cases n7 : isBk (tI (tok T e a)) = true ∧ dD s = 3
            · rw [if_pos n7] at h1; cases h1
            · rw [if_neg n7] at h1
              obtain ⟨c, b4, h3, h4⟩ := rb_ok3 h1
              obtain ⟨y, b5, -, h6⟩ := rb_ok3 h4
              obtain ⟨k1, k2⟩ := dyA_b hi h3
              by_cases hb : isBk (tI (tok T e a)) = true
              · rw [if_pos hb] at h6
                cases h6
                exact ih _ _ _ _ u1.2 (by omega) (hD.b n30 (fun z => n7 ⟨hb, z⟩)) (hW.b hD (k1 hb)) h2
              · rw [if_neg hb] at h6
                cases h6
                exact ih _ _ _ _ u1.2 (by omega) (hD.a n30) (hW.a hD (k2 hb)) h2
        · rw [if_neg hi] at h1; cases h1
end DYW
end PT14x0
section PT14x1
/-! ===== the class lives its days: by the pure machine ===== -/
theorem cut_c9 {d a b : Int32} {s : StS9} : (opCut d a b s).2.2.2 = s.2.2 + b9 (opCut d a b s).1 := by
  unfold opCut
  split
  · split
    · exact (Int32.add_zero _).symm
    · split
      · rfl
      · exact (Int32.add_zero _).symm
  · exact (Int32.add_zero _).symm
theorem split_c9 {d n : Int32} {s : StS9} : (opSplit d n s).2.2.2 = s.2.2 + b9 (opSplit d n s).1 := by
  unfold opSplit
  split
  · split
    · split
      · exact (Int32.add_zero _).symm
      · split
        · rfl
        · exact (Int32.add_zero _).symm
    · exact (Int32.add_zero _).symm
  · exact (Int32.add_zero _).symm
theorem give_c9 {m k d : Int32} {s : StS9} : (opGive m k d s).2.2.2 = s.2.2 := by
  unfold opGive
  split
  · split <;> rfl
  · rfl
theorem take_c9 {m k d : Int32} {s : StS9} : (opTake m k d s).2.2.2 = s.2.2 := by
  unfold opTake
  split
  · split
    · split <;> rfl
    · rfl
  · rfl
theorem add_c9 {n : Int32} {s : StS9} : (opAdd n s).2.2.2 = s.2.2 := by
  unfold opAdd
  split
  · split <;> rfl
  · rfl
theorem sd9_1 {x : Int32} {r : Rn9} : (sd9 x r).1 = r.1 := rfl
theorem b9_01 {x : Int32} : b9 x = 0 ∨ b9 x = 1 := by
  unfold b9
  split
  · exact Or.inr rfl
  · exact Or.inl rfl
noncomputable def bo9 (b : Bool) : Int32 := bif b then 1 else 0
theorem bo9_t {p : Prop} [Decidable p] (h : p) : bo9 (decide p) = 1 := by rw [decide_eq_true h]; rfl
theorem bo9_f {p : Prop} [Decidable p] (h : ¬ p) : bo9 (decide p) = 0 := by rw [decide_eq_false h]; rfl
/-- what the acts write; what a run writes -/
noncomputable abbrev WAc (v0 o : Nat) : Nat → Nat → Prop := fun c k => WBk o c k ∨ (c = v0 ∧ (k = 2 ∨ k = 3 ∨ k = 4 ∨ k = 5 ∨ k = 7))
noncomputable abbrev FrAc (v0 o : Nat) (I : Im) (J : Jm) (I2 : Im) (J2 : Jm) : Prop := FrW (WAc v0 o) nV I J I2 J2
noncomputable abbrev WLf (v0 o : Nat) : Nat → Nat → Prop := fun c k => WBk o c k ∨ c = v0 ∨ c = v0 + 1
noncomputable abbrev FrLf (v0 o : Nat) (I : Im) (J : Jm) (I2 : Im) (J2 : Jm) : Prop := FrW (WLf v0 o) nV I J I2 J2
/-- the run's numbers in the Life at v0 -/
noncomputable def LfA (v0 o M : Nat) (c0 : Int32) (r : Rn9) (I : Im) : Prop := BkA o M r.1 I ∧ I v0 7 = r.2.1 ∧ I v0 2 = r.2.2.1 ∧ I v0 4 = r.2.2.2.1 ∧ I v0 5 = r.2.2.2.2 ∧ I v0 3 = r.1.2.2 - c0
/-- codes and mates, in the Days at p -/
noncomputable def SDc (s : DS) (p : Nat) (I : Im) : Prop := I p 2 = nI (dL s) ∧ ∀ k, k < dL s → I (p + 1) k = (dC s k).1 ∧ I (p + 2) k = (dC s k).2.1 ∧ I (p + 3) k = (dC s k).2.2.1 ∧ I (p + 4) k = (dC s k).2.2.2 ∧ I (p + 5) k = nI (dM s k)
section RNC
variable {I I1 : Im} {J : Jm} {R : Rm} {Q : Qt} {M v0 o p : Nat} {c0 : Int32} {r : Rn9} {m od : Int32} {s : DS}
theorem FrBk.ac (h : FrBk o I J I1 J) : FrAc v0 o I J I1 J := h.up (fun _ _ q => Or.inl q) (fun _ _ q => q)
theorem FrAc.lf (h : FrAc v0 o I J I1 J) : FrLf v0 o I J I1 J := h.up (fun _ _ q => q.elim Or.inl (fun z => Or.inr (Or.inl z.1))) (fun _ _ q => q)
theorem FrBk.v (hv : o + 5 < v0) (h : FrBk o I J I1 J) (k : Nat) : I1 v0 k = I v0 k := h.i (fun q => by rcases q with q | q | q <;> omega)
theorem BkA.lf {k : Nat} {v : Int32} {st : StS9} (hv : o + 5 < v0) (h : BkA o M st I) : BkA o M st (uI I v0 k v) :=
  ⟨fun d a b => (rd_ne (by first | decide | omega)).trans (h.1 d a b), fun i hi => (rd_ne (by first | decide | omega)).trans (h.2.1 i hi), (rd_ne (by first | decide | omega)).trans h.2.2⟩
theorem LfA.cu {st : StS9} {y : Int32} (hv : o + 5 < v0) (h : LfA v0 o M c0 r I) (h1 : BkA o M st I1) (hF : FrBk o I J I1 J) (hy : st.2.2 = r.1.2.2 + y) : LfA v0 o M c0 (st, r.2) (uI I1 v0 3 (I1 v0 3 + y)) := by
  obtain ⟨-, e7, e2, e4, e5, e3⟩ := h
  refine ⟨h1.lf hv, ?_, ?_, ?_, ?_, ?_⟩
  · rw [rd_k (by decide), hF.v hv]; exact e7
  · rw [rd_k (by decide), hF.v hv]; exact e2
  · rw [rd_k (by decide), hF.v hv]; exact e4
  · rw [rd_k (by decide), hF.v hv]; exact e5
  · rw [rd_eq, hF.v hv, e3]
    show r.1.2.2 - c0 + y = st.2.2 - c0
    rw [hy, Int32.sub_eq_add_neg, Int32.sub_eq_add_neg, Int32.add_assoc, Int32.add_comm (-c0) y, ← Int32.add_assoc]
theorem LfA.gi {st : StS9} {y : Int32} (hv : o + 5 < v0) (h : LfA v0 o M c0 r I) (h1 : BkA o M st I1) (hF : FrBk o I J I1 J) (hy : st.2.2 = r.1.2.2) : LfA v0 o M c0 (st, r.2.1, r.2.2.1, r.2.2.2.1 + y, r.2.2.2.2) (uI I1 v0 4 (I1 v0 4 + y)) := by
  obtain ⟨-, e7, e2, e4, e5, e3⟩ := h
  refine ⟨h1.lf hv, ?_, ?_, ?_, ?_, ?_⟩
  · rw [rd_k (by decide), hF.v hv]; exact e7
  · rw [rd_k (by decide), hF.v hv]; exact e2
  · rw [rd_eq, hF.v hv, e4]
  · rw [rd_k (by decide), hF.v hv]; exact e5
  · rw [rd_k (by decide), hF.v hv, e3]
    show r.1.2.2 - c0 = st.2.2 - c0
    rw [hy]
theorem LfA.ba {st : StS9} {y : Int32} (hv : o + 5 < v0) (h : LfA v0 o M c0 r I) (h1 : BkA o M st I1) (hF : FrBk o I J I1 J) (hy : st.2.2 = r.1.2.2) : LfA v0 o M c0 (st, r.2.1, r.2.2.1, r.2.2.2.1, r.2.2.2.2 + y) (uI I1 v0 5 (I1 v0 5 + y)) := by
  obtain ⟨-, e7, e2, e4, e5, e3⟩ := h
  refine ⟨h1.lf hv, ?_, ?_, ?_, ?_, ?_⟩
  · rw [rd_k (by decide), hF.v hv]; exact e7
  · rw [rd_k (by decide), hF.v hv]; exact e2
  · rw [rd_k (by decide), hF.v hv]; exact e4
  · rw [rd_eq, hF.v hv, e5]
  · rw [rd_k (by decide), hF.v hv, e3]
    show r.1.2.2 - c0 = st.2.2 - c0
    rw [hy]
theorem LfA.ta {st : StS9} (hv : o + 5 < v0) (h : LfA v0 o M c0 r I) (h1 : BkA o M st I1) (hF : FrBk o I J I1 J) (hy : st.2.2 = r.1.2.2) : LfA v0 o M c0 (st, r.2) I1 := by
  obtain ⟨-, e7, e2, e4, e5, e3⟩ := h
  refine ⟨h1, ?_, ?_, ?_, ?_, ?_⟩
  · rw [hF.v hv]; exact e7
  · rw [hF.v hv]; exact e2
  · rw [hF.v hv]; exact e4
  · rw [hF.v hv]; exact e5
  · rw [hF.v hv, e3]
    show r.1.2.2 - c0 = st.2.2 - c0
    rw [hy]
theorem LfA.sd {x : Int32} (hv : o + 5 < v0) (h : LfA v0 o M c0 r I) : LfA v0 o M c0 (sd9 x r) (uI I v0 7 x) := by
  obtain ⟨e1, e7, e2, e4, e5, e3⟩ := h
  exact ⟨e1.lf hv, rd_eq, (rd_k (by decide)).trans e2, (rd_k (by decide)).trans e4, (rd_k (by decide)).trans e5, (rd_k (by decide)).trans e3⟩
theorem LfA.sd3 {x y z : Int32} (hv : o + 5 < v0) (h : LfA v0 o M c0 r I) : LfA v0 o M c0 (sd9 z r) (uI (uI (uI I v0 7 x) v0 7 y) v0 7 z) := by
  have k := ((h.sd (x := x) hv).sd (x := y) hv).sd (x := z) hv
  exact k
theorem LfA.ms {x z : Int32} (hv : o + 5 < v0) (h : LfA v0 o M c0 r I) : LfA v0 o M c0 (ms9 x (z, r)) (uI I v0 2 (x + b9 z)) := by
  obtain ⟨e1, e7, e2, e4, e5, e3⟩ := h
  exact ⟨e1.lf hv, (rd_k (by decide)).trans e7, rd_eq, (rd_k (by decide)).trans e4, (rd_k (by decide)).trans e5, (rd_k (by decide)).trans e3⟩
theorem px_cDraw {e : Nat} {n : Int32} (hL : isO 112 v0 4 = true) (hn : (1 : Int32) ≤ n) (hQ : Q (dm9 (dr9 (I v0 7)) n) 0 (uI I v0 7 (dr9 (I v0 7))) J R) : AM (e + 1) 52 112 [.ref v0, .int n] I J R Q := by
  refine w_X4_draw (bif_t hL ⟨by decide, bif_t hL ⟨fun _ => bif_t hL ⟨by decide, fun z => by rw [z] at hn; exact absurd hn (by decide), ?_⟩, fun c => absurd hn c⟩⟩)
  rw [rd_eq]
  exact hQ
theorem px_lCut {e : Nat} {d a b : Int32} (hL : isO 112 v0 4 = true) (hO : isO 112 o 0 = true) (hv : o + 5 < v0) (h : LfA v0 o M c0 r I) (hQ : ∀ I2, LfA v0 o M c0 (sv9 r (opCut d a b r.1)).2 I2 → FrAc v0 o I J I2 J → Q (sv9 r (opCut d a b r.1)).1 0 I2 J R) : AM (e + 3) 48 112 [.ref v0, .ref o, .int d, .int a, .int b] I J R Q := by
  have hy := cut_c9 (d := d) (a := a) (b := b) (s := r.1)
  refine w_X4_cutUp (bif_t hO (px_cutUp hO h.1 (fun I1 h1 hF => ⟨fun c => bif_t hL ⟨fun _ => bif_t hL ⟨Or.inl rfl, ?_⟩, fun z => absurd rfl z⟩, fun c => bif_t hL ⟨fun z => absurd z (by decide), fun _ => bif_t hL ⟨Or.inr rfl, ?_⟩⟩⟩)))
  · have e0 : b9 (opCut d a b r.1).1 = 0 := if_neg c
    have k := hQ _ (h.cu hv h1 hF hy) (hF.ac.u (Or.inr ⟨rfl, by decide⟩))
    unfold sv9 at k
    rw [e0] at k
    exact k
  · have e0 : b9 (opCut d a b r.1).1 = 1 := if_pos c
    have k := hQ _ (h.cu hv h1 hF hy) (hF.ac.u (Or.inr ⟨rfl, by decide⟩))
    unfold sv9 at k
    rw [e0] at k
    exact k
theorem px_lSplit {e : Nat} {d n : Int32} (hL : isO 112 v0 4 = true) (hO : isO 112 o 0 = true) (hv : o + 5 < v0) (h : LfA v0 o M c0 r I) (hQ : ∀ I2, LfA v0 o M c0 (sv9 r (opSplit d n r.1)).2 I2 → FrAc v0 o I J I2 J → Q (sv9 r (opSplit d n r.1)).1 0 I2 J R) : AM (e + 3) 49 112 [.ref v0, .ref o, .int d, .int n] I J R Q := by
  have hy := split_c9 (d := d) (n := n) (s := r.1)
  refine w_X4_splitUp (bif_t hO (px_splitUp hO h.1 (fun I1 h1 hF => ⟨fun c => bif_t hL ⟨fun _ => bif_t hL ⟨Or.inl rfl, ?_⟩, fun z => absurd rfl z⟩, fun c => bif_t hL ⟨fun z => absurd z (by decide), fun _ => bif_t hL ⟨Or.inr rfl, ?_⟩⟩⟩)))
  · have e0 : b9 (opSplit d n r.1).1 = 0 := if_neg c
    have k := hQ _ (h.cu hv h1 hF hy) (hF.ac.u (Or.inr ⟨rfl, by decide⟩))
    unfold sv9 at k
    rw [e0] at k
    exact k
  · have e0 : b9 (opSplit d n r.1).1 = 1 := if_pos c
    have k := hQ _ (h.cu hv h1 hF hy) (hF.ac.u (Or.inr ⟨rfl, by decide⟩))
    unfold sv9 at k
    rw [e0] at k
    exact k
end RNC
end PT14x1
