/-! ===== the reference's bakery(), whole ===== -/
noncomputable abbrev msD : List Nat := [0, 1, 8, 9, 10, 11, 12, 13, 14, 15, 16, 17, 18, 24, 25, 26]
noncomputable abbrev WQ : Nat → Nat → Prop := fun c k => (c = 97 ∧ k ∈ msD) ∨ (c = 102 ∧ (k < 324 ∨ 1296 ≤ k))
noncomputable abbrev VQ : Nat → Nat → Prop := fun c k => (c = 97 ∧ k = 19) ∨ (c = 104 ∧ (k < 6 ∨ 24 ≤ k))
noncomputable abbrev FrQ (I : Im) (J : Jm) (I2 : Im) (J2 : Jm) : Prop := FrW WQ VQ I J I2 J2
theorem FrW.nq {I I2 : Im} {J J2 : Jm} (h : FrN I J I2 J2) : FrQ I J I2 J2 := h.up (fun _ _ q => q.elim (fun z => Or.inl ⟨z.1, (show ∀ k, k ∈ msC → k ∈ msD by decide) _ z.2⟩) (fun z => Or.inr ⟨z.1, Or.inr z.2⟩)) (fun _ _ q => q.elim Or.inl (fun z => Or.inr ⟨z.1, Or.inr z.2⟩))
section MI
variable {T : Nat → Int32} {e a d : Nat} {I : Im} {J : Jm} {R : Rm} {Q : Qt} {B : BS}
/-- what fault() tells: the reference's two numbers -/
noncomputable def FtK (p : Nat × Nat) (I : Im) : Prop := I 97 10 = nI p.1 ∧ I 97 11 = nI p.2
theorem px_wellB {p : Nat × Nat} (h : FtM p I) (hQ : ∀ I2, FrW (WM [0, 10, 11]) nV I J I2 J → FtK p I2 → Q 0 0 I2 J R) : AM (d + 2) 223 112 [.ref 97] I J R Q := by
  have e1 : ∀ v, uI I 97 10 v 97 12 = I 97 12 := fun v => rd_k (by decide)
  have e2 : ∀ v w, uI (uI I 97 10 v) 97 11 w 97 12 = I 97 12 := fun v w => (rd_k (by decide)).trans (e1 v)
  refine w_X12_isWell ⟨fun _ => ⟨fun c => absurd ((e2 _ _).symm.trans c) h.ne.1, fun _ => w_X12_no ⟨Or.inl rfl, fun _ => ⟨fun _ => ⟨Or.inl rfl, hQ _ (((FrW.rf.u ⟨rfl, by decide⟩).u ⟨rfl, by decide⟩).u ⟨rfl, by decide⟩) ⟨?_, ?_⟩⟩, fun q => absurd rfl q⟩⟩⟩, fun c => absurd ((e1 _).symm.trans c) h.ne.1⟩
  · rw [rd_k (by decide), rd_k (by decide), rd_eq]; exact h.1
  · rw [rd_k (by decide), rd_eq, rd_k (by decide)]; exact h.2.1
theorem px_wellG (h : I 97 12 = 0) (hQ : ∀ I2, FrW (WM [0, 10, 11]) nV I J I2 J → I2 97 10 = 0 → I2 97 11 = -1 → Q 1 0 I2 J R) : AM (d + 2) 223 112 [.ref 97] I J R Q := by
  have e1 : ∀ v, uI I 97 10 v 97 12 = I 97 12 := fun v => rd_k (by decide)
  have e2 : ∀ v w, uI (uI I 97 10 v) 97 11 w 97 12 = I 97 12 := fun v w => (rd_k (by decide)).trans (e1 v)
  refine w_X12_isWell ⟨fun c => absurd ((e1 _).trans h) c, fun _ => ⟨fun _ => ⟨Or.inr rfl, hQ _ ((FrW.rf.u ⟨rfl, by decide⟩).u ⟨rfl, by decide⟩) ?_ rd_eq⟩, fun c => absurd ((e2 _ _).trans h) c⟩⟩
  rw [rd_k (by decide), rd_eq]; exact h
/-- a text can be read, or not -/
theorem px_startN {v w : Int32} {f : Nat} (hf : f ≤ 900) (h8 : I 97 8 = nI f) (hv : v < 0 ∨ nI f < v ∨ ¬ v ≤ w) (hQ : ∀ I2, FrW (WM [0]) nV I J I2 J → Q 0 0 I2 J R) : AM (d + 4) 222 112 [.ref 97, .int v, .int w] I J R Q := by
  have no : AM (d + 3) 177 112 [.ref 97, .int 5] I J R (fun x _ I' J' _ => (x = 0 ∨ x = 1) → (((x : Int32) = 0 ∨ (x : Int32) = 1) ∧ Q x 0 I' J' R)) := w_X12_no ⟨Or.inl rfl, fun _ => ⟨Or.inl rfl, hQ _ (FrW.rf.u ⟨rfl, by decide⟩)⟩⟩
  refine w_X12_starts ⟨fun _ => no, fun c1 => ⟨fun _ => no, fun c2 => ⟨fun c3 => ?_, fun _ => no⟩⟩⟩
  rw [h8] at c2
  rcases hv with z | z | z
  · exact absurd z c1
  · exact absurd z c2
  · exact absurd c3 z
theorem px_startY {n f : Nat} {w : Int32} (hf : f ≤ 900) (hn : n ≤ f) (hw : nI n ≤ w) (h8 : I 97 8 = nI f) (hB : Byt T) (hT : ∀ i, i < f → I 101 i = T i) (hQ : ∀ I2 J2, FrW (WM [8, 9, 12, 14, 15, 16, 17, 18]) VM I J I2 J2 → I2 97 8 = 0 → Mr T n 0 I2 J2 → Q 1 0 I2 J2 R) : AM (d + 4) 222 112 [.ref 97, .int (nI n), .int w] I J R Q := by
  refine w_X12_starts ⟨fun c => absurd c (nI_pos (by omega)), fun _ => ⟨fun c => ?_, fun _ => ⟨fun _ => ?_, fun c => absurd hw c⟩⟩⟩
  · rw [h8] at c
    have := (nlt_nI (by omega) (by omega)).mp c
    omega
  · have hF : FrW (WM [8, 9, 12, 14, 15, 16, 17, 18]) VM I J (uI (uI (uI (uI I 97 9 (nI n)) 97 8 0) 97 16 0) 97 12 0) J := (((FrW.rf.u ⟨rfl, by decide⟩).u ⟨rfl, by decide⟩).u ⟨rfl, by decide⟩).u ⟨rfl, by decide⟩
    refine px_madv (T := T) (e := n) (a := 0) (by omega) (by omega) hB ⟨fun i hi => ?_, ?_⟩ ?_ (fun I2 J2 hF2 hS => ⟨Or.inr rfl, ?_⟩)
    · rw [hF.i (by intro q; exact absurd q.1 (by decide))]; exact hT i (by omega)
    · rw [rd_k (by decide), rd_k (by decide), rd_k (by decide), rd_eq]
    · rw [rd_k (by decide), rd_eq]; rfl
    · refine hQ I2 J2 (hF.tr (hF2.up (WM.up (by decide)) (fun _ _ q => q))) ?_ ⟨hS, ?_, by omega, by omega, hB⟩
      · rw [hF2.i (by decide), rd_k (by decide), rd_k (by decide), rd_eq]
      · rw [hF2.i (by decide), rd_eq]
theorem px_mbN {v : Int32} {f : Nat} (hf : f ≤ 900) (h8 : I 97 8 = nI f) (hv : v < 0 ∨ nI f < v) (hQ : ∀ I2, FrQ I J I2 J → I2 97 8 = I 97 8 → I2 97 10 = I 97 10 → I2 97 11 = I 97 11 → I2 102 = I 102 → Q (-1) 0 I2 J R) : AM (d + 8) 233 112 [.ref 97, .int v] I J R Q := by
  have hF : FrW (WM [0, 1]) nV I J (uI (uI I 97 1 0) 97 0 0) J := (FrW.rf.u ⟨rfl, by decide⟩).u ⟨rfl, by decide⟩
  refine am_X12_bakery (fun P hc => sg_X12_bakery_0 hc _ _ _ _ (px_startN hf ?_ (hv.elim Or.inl (fun z => Or.inr (Or.inl z))) (fun I2 hF2 _ => ⟨fun q => absurd rfl q, fun _ => ?_⟩)))
  · rw [hF.i (by decide)]; exact h8
  · have hF3 : FrW (WM [0, 1]) nV I J I2 J := hF.tr (hF2.up (WM.up (by decide)) (fun _ _ q => q))
    exact hQ I2 (hF3.up (fun _ _ q => Or.inl ⟨q.1, (show ∀ k, k ∈ [0, 1] → k ∈ msD by decide) _ q.2⟩) nV.up) (hF3.i (by decide)) (hF3.i (by decide)) (hF3.i (by decide)) (hF3.c (WM.no (by decide)))
theorem px_mbY {n f : Nat} (hf : f ≤ 900) (hn : n ≤ f) (h8 : I 97 8 = nI f) (hB : Byt T) (hT : ∀ i, i < f → I 101 i = T i) (hE : ∀ p I2 J2, prB T n (n + 1) em0 0 = .error p → FrQ I J I2 J2 → I2 97 8 = 0 → FtK p I2 → (∀ k, k < 1296 → I2 102 k = I 102 k) → (∀ k, k < 24 → J2 104 k = J 104 k) → Q (-1) 0 I2 J2 R) (hK : ∀ B2 b I2 J2, prB T n (n + 1) em0 0 = .ok (B2, b) → BOk B2 → FrQ I J I2 J2 → I2 97 8 = 0 → I2 97 10 = 0 → I2 97 11 = -1 → (∀ k, k < 324 → I2 102 k = B2.1 k) → (∀ k, k < mnN B2.1 → J2 104 k = B2.2.1 k) → Q (B2.1 0) 0 I2 J2 R) : AM (d + 8) 233 112 [.ref 97, .int (nI n)] I J R Q := by
  have hF : FrW (WM [0, 1]) nV I J (uI (uI I 97 1 0) 97 0 0) J := (FrW.rf.u ⟨rfl, by decide⟩).u ⟨rfl, by decide⟩
  refine am_X12_bakery (fun P hc => sg_X12_bakery_0 hc _ _ _ _ (px_startY (T := T) hf hn ?_ ?_ hB ?_ (fun I2 J2 hF2 h28 h2 _ => ⟨fun _ => px_empties (b := 4) (by decide) (by decide) (fun I3 e1 e2 e3 => ⟨Or.inl rfl, Or.inl rfl, ?_⟩), fun q => absurd q (by decide)⟩)))
  · exact (nle_nI (b := 900) (by omega) (by omega)).mpr (by omega)
  · rw [hF.i (by decide)]; exact h8
  · intro i hi; rw [hF.i (by intro q; exact absurd q.1 (by decide))]; exact hT i hi
  · -- the new block is empty
    have hFs : FrQ I J I2 J2 := (hF.up (fun _ _ q => Or.inl ⟨q.1, (show ∀ k, k ∈ [0, 1] → k ∈ msD by decide) _ q.2⟩) nV.up).tr (hF2.up (fun _ _ q => Or.inl ⟨q.1, (show ∀ k, k ∈ [8, 9, 12, 14, 15, 16, 17, 18] → k ∈ msD by decide) _ q.2⟩) (fun _ _ q => Or.inl q))
    have hF3 : FrQ I J I3 J2 := hFs.tr ⟨fun c k q => by
      by_cases z : c = 102
      · subst z
        exact e2 k (by
          rcases Nat.lt_or_ge k 1296 with w | w
          · exact Or.inl w
          · exact absurd (Or.inr ⟨rfl, Or.inr w⟩) q)
      · rw [e1 c z], fun _ _ _ => rfl⟩
    have e12 : I2 102 = I 102 := (hF2.c (WM.no (by decide))).trans (hF.c (WM.no (by decide)))
    have lo3 : ∀ k, k < 1296 → I3 102 k = I 102 k := fun k hk => by rw [e2 k (Or.inl (by omega)), e12]
    have j4 : J2 104 = J 104 := hF2.cj (VM.no (by decide))
    have hFa : FrQ I J (uI (uI (uI I3 97 24 0) 97 25 0) 97 26 0) J2 := ((hF3.u (Or.inl ⟨rfl, by decide⟩)).u (Or.inl ⟨rfl, by decide⟩)).u (Or.inl ⟨rfl, by decide⟩)
    have hMa : Mr T n 0 (uI (uI (uI I3 97 24 0) 97 25 0) 97 26 0) J2 := ((((h2.o (fun k _ => congrFun (e1 97 (by decide)) k) (e1 101 (by decide)) rfl) : Mr T n 0 I3 J2).w_ (Or.inr (Or.inl rfl)) (by decide)).w_ (Or.inr (Or.inr (Or.inl rfl))) (by decide)).w_ (Or.inr (Or.inr (Or.inr rfl))) (by decide)
    have a8 : uI (uI (uI I3 97 24 0) 97 25 0) 97 26 0 97 8 = 0 := by rw [rd_k (by decide), rd_k (by decide), rd_k (by decide), e1 97 (by decide)]; exact h28
    have lo : ∀ k, k < 1296 → uI (uI (uI I3 97 24 0) 97 25 0) 97 26 0 102 k = I 102 k := fun k hk => by rw [rd_ne (by decide), rd_ne (by decide), rd_ne (by decide)]; exact lo3 k hk
    have hBa : BkM em0 (uI (uI (uI I3 97 24 0) 97 25 0) 97 26 0) J2 := by
      refine ⟨fun k hk => ?_, fun k hk => ?_, ?_, ?_, ?_⟩
      · rw [rd_ne (by decide), rd_ne (by decide), rd_ne (by decide)]; exact e3 k hk
      · exact absurd hk (by rw [show mnN em0.1 = 0 from rfl]; omega)
      · rw [rd_k (by decide), rd_k (by decide), rd_eq]; rfl
      · rw [rd_k (by decide), rd_eq]; rfl
      · rw [rd_eq]; rfl
    generalize uI (uI (uI I3 97 24 0) 97 25 0) 97 26 0 = M at hFa hMa a8 lo hBa
    refine rf_bak hc (I0 := M) (J0 := J2) (T := T) (e := n) (prB T n (n + 1) em0 0) (fun p I4 J4 hp hF4 hf => ?_) (fun B2 b I4 J4 hp hF4 h4 hB4 hO4 => ?_) (n + 1) 0 em0 M J2 (by omega) rfl BOk.em FrW.rf hMa hBa
    · refine sg_X12_bakery_74 hc _ _ _ (px_wellB hf (fun I5 hF5 hk _ => ⟨fun q => absurd rfl q, fun _ => ?_⟩))
      refine hE p I5 J4 hp ((hFa.tr hF4.nq).tr (hF5.up (fun _ _ q => Or.inl ⟨q.1, (show ∀ k, k ∈ [0, 10, 11] → k ∈ msD by decide) _ q.2⟩) nV.up)) ?_ hk (fun k hk => ?_) (fun k hk => ?_)
      · rw [hF5.i (by decide), hF4.i (by decide)]; exact a8
      · rw [hF5.i (by intro q; exact absurd q.1 (by decide)), hF4.i (by intro q; omega)]; exact lo k hk
      · rw [hF4.j (by intro q; omega), j4]
    · refine sg_X12_bakery_74 hc _ _ _ (px_wellG h4.f (fun I5 hF5 k10 k11 _ => ⟨fun _ => px_copy (f := 4) (t := 0) (by decide) (by decide) (by decide) (by decide) (by decide) (by decide) (by decide) (fun I6 J6 c1 c2 c3 c4 c5 c6 => ⟨vp_of (show (0 : Int32).toInt = 0 from rfl) (by omega) (by omega), ?_⟩), fun q => absurd q (by decide)⟩))
      have f102 : ∀ k, k < 324 → I6 102 k = B2.1 k := fun k hk => by
        have := c3 k hk
        rw [show 324 * 0 + k = k by omega] at this
        rw [this, hF5.i (by intro q; exact absurd q.1 (by decide))]; exact hB4.1 k hk
      have e0 : I6 102 (Int32.toNatClampNeg 0) = B2.1 0 := f102 0 (by omega)
      rw [e0]
      refine hK B2 b I6 J6 hp hO4 (((hFa.tr hF4.nq).tr (hF5.up (fun _ _ q => Or.inl ⟨q.1, (show ∀ k, k ∈ [0, 10, 11] → k ∈ msD by decide) _ q.2⟩) nV.up)).tr ⟨fun c k q => ?_, fun c k q => ?_⟩) ?_ ?_ ?_ f102 (fun k hk => ?_)
      · by_cases z : c = 102
        · subst z
          exact c2 k (by
            rcases Nat.lt_or_ge k 324 with w | w
            · exact absurd (Or.inr ⟨rfl, Or.inl w⟩) q
            · exact Or.inr (by omega))
        · rw [c1 c z]
      · by_cases z : c = 104
        · subst z
          exact c5 k (by
            rcases Nat.lt_or_ge k 6 with w | w
            · exact absurd (Or.inr ⟨rfl, Or.inl w⟩) q
            · exact Or.inr (by omega))
        · rw [c4 c z]
      · rw [c1 97 (by decide), hF5.i (by decide), hF4.i (by decide)]; exact a8
      · rw [c1 97 (by decide)]; exact k10
      · rw [c1 97 (by decide)]; exact k11
      · have hm := hO4.1.m
        have := c6 k (by omega)
        rw [show 6 * 0 + k = k by omega] at this
        rw [this]; exact hB4.2.1 k hk
end MI
