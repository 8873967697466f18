/-! ===== the scribe reads days: the whole ===== -/
noncomputable abbrev WY (p : Nat) : Nat → Nat → Prop := fun c k => WR wsB c k ∨ c = 7 ∨ c = 8 ∨ (p ≤ c ∧ c ≤ p + 5)
noncomputable abbrev FrY (p : Nat) (I : Im) (J : Jm) (I2 : Im) (J2 : Jm) : Prop := FrW (WY p) VR I J I2 J2
theorem FrW.y {p : Nat} {I I2 : Im} {J J2 : Jm} (h : FrR I J I2 J2) : FrY p I J I2 J2 := h.up (fun _ _ q => Or.inl q) (fun _ _ q => q)
theorem FrY.ad {p L : Nat} {c : CD} {I I2 : Im} {J J2 : Jm} (h : FrY p I J I2 J2) : FrY p I J (adI I2 p L c) J2 :=
  ⟨fun o k q => (congrFun (adI_o (fun z => q (Or.inr (Or.inr (Or.inr z))))) k).trans (h.1 o k q), h.2⟩
noncomputable def SDs (s : DS) (p : Nat) (I : Im) : Prop := I p 1 = nI (dN s) ∧ I p 2 = nI (dL s) ∧ I 7 1 = nI (dD s) ∧ (∀ k, k < dD s → I 8 k = nI (dO s k)) ∧ ∀ k, k < dL s → I (p + 1) k = (dC s k).1 ∧ I (p + 2) k = (dC s k).2.1 ∧ I (p + 3) k = (dC s k).2.2.1 ∧ I (p + 4) k = (dC s k).2.2.2 ∧ I (p + 5) k = nI (dM s k)
theorem SDs.cp {s : DS} {p : Nat} {I I2 : Im} (h : SDs s p I) (e : ∀ c, (c = 7 ∨ c = 8 ∨ (p ≤ c ∧ c ≤ p + 5)) → I2 c = I c) : SDs s p I2 := by
  unfold SDs at h ⊢
  rw [e p (by omega), e 7 (by omega), e 8 (by omega), e (p + 1) (by omega), e (p + 2) (by omega), e (p + 3) (by omega), e (p + 4) (by omega), e (p + 5) (by omega)]
  exact h
theorem SDs.fr {s : DS} {p : Nat} {I I2 : Im} {J J2 : Jm} (h : SDs s p I) (hp : 9 ≤ p) (hF : FrR I J I2 J2) : SDs s p I2 := h.cp (fun c hc => hF.c (by intro k q; have := q.1; omega))
section ADI
variable {M : Im} {p L k : Nat} {c : CD}
theorem ad_p1 : adI M p L c p 1 = M p 1 := by
  unfold adI
  rw [rd_k (by decide), rd_ne (by omega), rd_ne (by omega), rd_ne (by omega), rd_ne (by omega), rd_ne (by omega)]
theorem ad_p2 : adI M p L c p 2 = nI (L + 1) := rd_eq
theorem ad_1 : adI M p L c (p + 1) k = if k = L then c.1 else M (p + 1) k := by
  unfold adI
  rw [rd_ne (by omega), rd_ne (by omega), rd_ne (by omega), rd_ne (by omega), rd_ne (by omega)]
  by_cases q : k = L
  · subst q; rw [rd_eq, if_pos rfl]
  · rw [rd_k q, if_neg q]
theorem ad_2 : adI M p L c (p + 2) k = if k = L then c.2.1 else M (p + 2) k := by
  unfold adI
  rw [rd_ne (by omega), rd_ne (by omega), rd_ne (by omega), rd_ne (by omega)]
  by_cases q : k = L
  · subst q; rw [rd_eq, if_pos rfl]
  · rw [rd_k q, if_neg q, rd_ne (by omega)]
theorem ad_3 : adI M p L c (p + 3) k = if k = L then c.2.2.1 else M (p + 3) k := by
  unfold adI
  rw [rd_ne (by omega), rd_ne (by omega), rd_ne (by omega)]
  by_cases q : k = L
  · subst q; rw [rd_eq, if_pos rfl]
  · rw [rd_k q, if_neg q, rd_ne (by omega), rd_ne (by omega)]
theorem ad_4 : adI M p L c (p + 4) k = if k = L then c.2.2.2 else M (p + 4) k := by
  unfold adI
  rw [rd_ne (by omega), rd_ne (by omega)]
  by_cases q : k = L
  · subst q; rw [rd_eq, if_pos rfl]
  · rw [rd_k q, if_neg q, rd_ne (by omega), rd_ne (by omega), rd_ne (by omega)]
theorem ad_5 : adI M p L c (p + 5) k = if k = L then nI L else M (p + 5) k := by
  unfold adI
  rw [rd_ne (by omega)]
  by_cases q : k = L
  · subst q; rw [rd_eq, if_pos rfl]
  · rw [rd_k q, if_neg q, rd_ne (by omega), rd_ne (by omega), rd_ne (by omega), rd_ne (by omega)]
end ADI
/-- a code put behind the others -/
theorem SDs.code {s s2 : DS} {p : Nat} {c : CD} {M : Im} (hp : 9 ≤ p) (e1 : M p 1 = nI (dN s2)) (e7 : M 7 1 = nI (dD s2)) (e8 : ∀ k, k < dD s2 → M 8 k = nI (dO s2 k)) (eL : dL s2 = dL s + 1) (eC : dC s2 = upC (dC s) (dL s) c) (eM : dM s2 = upN (dM s) (dL s) (dL s))
    (hc : ∀ k, k < dL s → M (p + 1) k = (dC s k).1 ∧ M (p + 2) k = (dC s k).2.1 ∧ M (p + 3) k = (dC s k).2.2.1 ∧ M (p + 4) k = (dC s k).2.2.2 ∧ M (p + 5) k = nI (dM s k)) : SDs s2 p (adI M p (dL s) c) := by
  refine ⟨ad_p1.trans e1, by rw [ad_p2, eL], ?_, fun k hk => ?_, fun k hk => ?_⟩
  · rw [adI_o (by omega)]; exact e7
  · rw [adI_o (by omega)]; exact e8 k hk
  · rw [ad_1, ad_2, ad_3, ad_4, ad_5, eC, eM]
    by_cases q : k = dL s
    · subst q
      rw [upC_s, upN_s, if_pos rfl, if_pos rfl, if_pos rfl, if_pos rfl, if_pos rfl]
      exact ⟨rfl, rfl, rfl, rfl, rfl⟩
    · rw [upC_i q, upN_i q, if_neg q, if_neg q, if_neg q, if_neg q, if_neg q]
      exact hc k (by omega)
section DYW
variable {T : Nat → Int32} {e a d : Nat} {N : Nat → Int64} {I : Im} {J : Jm} {R : Rm} {Q : Qt} {p M : Nat}
theorem MnA.y {m o : Nat} {I2 : Im} {J2 : Jm} (h : MnA N m o I J) (ho : 9 ≤ o) (hop : o + 5 < p ∨ p + 5 < o) (hF : FrY p I J I2 J2) : MnA N m o I2 J2 :=
  ⟨h.1, (hF.i (by rintro (q | q | q | q); have := q.1; all_goals omega)).trans h.2.1, fun k hk => (hF.j (by intro q; have := q.1; omega)).trans (h.2.2 k hk)⟩
set_option maxHeartbeats 1000000 in
theorem px_step {o : Nat} {s : DS} (hO : isO 112 p 2 = true) (hN : isO 112 o 0 = true) (hop : o + 5 < p ∨ p + 5 < o) (hm : MnA N M o I J) (hs : SDs s p I) (hD : DOk s) (h : Rd T e a I J) (hE : ∀ q I2 J2, dyS T e N M s a = .error q → FrY p I J I2 J2 → Ft q I2 → Q 0 0 I2 J2 R) (hK : ∀ s2 b I2 J2, dyS T e N M s a = .ok (s2, b) → FrY p I J I2 J2 → Rd T e b I2 J2 → SDs s2 p I2 → DOk s2 → Q 1 0 I2 J2 R) : AM (d + 6) 35 112 [.ref 7, .ref p, .ref o, .ref 3] I J R Q := by
  have hp := p_ge hO
  have ho := o_ge hN
  obtain ⟨h30, h3, hLL, -, -⟩ := id hD
  refine am_X3_readStep (fun P hc => sg_X3_readStep_0 hc _ _ _ _ _ ?_)
  rw [h.w]
  have eS : dyS T e N M s a = if isSt (tI (tok T e a)) = true then (if dN s = 30 then .error (6, tS (tok T e a)) else if isBk (tI (tok T e a)) = true ∧ dD s = 3 then .error (7, tS (tok T e a)) else rb (dyA T e N M (tI (tok T e a)) (tB (tok T e a))) fun c b => rb (tkS T e b) fun _ b => .ok (if isBk (tI (tok T e a)) = true then dsB s c else dsA s c, b)) else .error (mis T e a) := rfl
  generalize tI (tok T e a) = i at eS
  -- behind the word: what it asks for, the semicolon
  have F : ∀ (M0 : Im) (J0 : Jm), isSt i = true → (dyS T e N M s a = rb (dyA T e N M i (tB (tok T e a))) fun c b => rb (tkS T e b) fun _ b => .ok (if isBk i = true then dsB s c else dsA s c, b)) → FrY p I J M0 J0 → Rd T e (tB (tok T e a)) M0 J0 → M0 p 2 = nI (dL s) → dL s < 60 → (∀ c I2 J2, FrR M0 J0 I2 J2 → SDs (if isBk i = true then dsB s c else dsA s c) p (adI I2 p (dL s) c) ∧ DOk (if isBk i = true then dsB s c else dsA s c)) → P 149 112 [(1, .ref p), (2, .ref o), (3, .ref 3), (4, .int i)] [] M0 J0 R := by
    intro M0 J0 hi e1 hF0 h0 e2 hL hnext
    have hm0 := hm.y ho hop hF0
    have tail : ∀ c b I2 J2, dyA T e N M i (tB (tok T e a)) = .ok (c, b) → FrR M0 J0 I2 J2 → Rd T e b I2 J2 → AM (d + 5) 70 112 [.ref 3] (adI I2 p (dL s) c) J2 R (fun x2 y2 I2 J2 R2 => (x2 = 0 ∨ x2 = 1) → ((x2 = (0 : Int32) → (((0 : Int32) = 0 ∨ (0 : Int32) = 1) ∧ Q 0 0 I2 J2 R)) ∧ (¬ x2 = (0 : Int32) → (((1 : Int32) = 0 ∨ (1 : Int32) = 1) ∧ Q 1 0 I2 J2 R)))) := by
      intro c b I2 J2 hq hF hR
      have hFa : FrY p I J (adI I2 p (dL s) c) J2 := FrY.ad (hF0.tr hF.y)
      obtain ⟨n1, n2⟩ := hnext c I2 J2 hF
      exact px_semi (hR.ad (by omega)) (fun q I3 J3 hq3 hF3 hf _ => ⟨fun _ => ⟨Or.inl rfl, hE q I3 J3 (by rw [e1, rb_k hq]; exact rb_e hq3) (hFa.tr hF3.y) hf⟩, fun z => absurd rfl z⟩) (fun b3 I3 J3 hq3 hF3 h3 _ => ⟨fun z => absurd z (by decide), fun _ => ⟨Or.inr rfl, hK _ b3 I3 J3 (by rw [e1, rb_k hq, rb_k hq3]) (hFa.tr hF3.y) h3 (n1.fr (by omega) hF3) n2⟩⟩)
    refine sg_X3_readStep_149 hc _ _ _ _ _ _ ⟨fun c15 => px_act hi c15 hO hN hm0 hL e2 h0 (fun q I2 J2 hq hF hf _ => ⟨fun _ => ⟨Or.inl rfl, hE q I2 J2 (by rw [e1]; exact rb_e hq) (hF0.tr hF.y) hf⟩, fun z => absurd rfl z⟩) (fun c b I2 J2 hq hF hR _ => ⟨fun z => absurd z (by decide), fun _ => tail c b I2 J2 hq hF hR⟩), fun c15 => ?_⟩
    subst c15
    have e15 : dyA T e N M 15 (tB (tok T e a)) = dyT T e N M (tB (tok T e a)) := rfl
    exact px_test hO hN hm0 hL e2 h0 (fun q I2 J2 hq hF hf _ => ⟨fun _ => ⟨Or.inl rfl, hE q I2 J2 (by rw [e1]; exact rb_e (e15.trans hq)) (hF0.tr hF.y) hf⟩, fun z => absurd rfl z⟩) (fun c b I2 J2 hq hF hR _ => ⟨fun z => absurd z (by decide), fun _ => tail c b I2 J2 (e15.trans hq) hF hR⟩)
  -- a word that is a step's
  have X : ∀ v5 : Int32, isSt i = true → ((v5 = 0 ∧ isBk i = false) ∨ (v5 = 1 ∧ isBk i = true)) → P 53 112 [(0, .ref 7), (1, .ref p), (2, .ref o), (3, .ref 3), (4, .int i), (5, .int v5)] [] I J R := by
    intro v5 hi hv
    rw [if_pos hi] at eS
    refine sg_X3_readStep_53 hc _ _ _ _ _ _ _ ⟨fun _ => px_any h (fun I1 J1 hF1 h1 h7 _ => bif_t hO ?_), fun z => absurd z (by decide)⟩
    have hs1 := hs.fr (by omega) hF1
    rw [hs1.1]
    refine ⟨fun c30 => ?_, fun c30 => ?_⟩
    · have n30 : ¬ dN s = 30 := by have := (nlt_nI (b := 30) (by omega) (by omega)).mp c30; omega
      rw [if_neg n30] at eS
      rcases hv with ⟨rfl, hb⟩ | ⟨rfl, hb⟩
      · refine ⟨fun _ => ?_, fun z => absurd rfl z⟩
        rw [if_neg (fun z => by rw [hb] at z; exact absurd z.1 (by decide))] at eS
        refine sg_X3_readStep_111 hc _ _ _ _ _ _ _ (bif_t hO (bif_t hO ⟨fun _ => ?_, fun z => absurd rfl z⟩))
        rw [hs1.1, nI_k1]
        refine F _ _ hi eS (hF1.y.u (Or.inr (Or.inr (Or.inr (by omega))))) (h1.o (uI_ne (by omega)) (uI_ne (by omega)) rfl rfl) ((rd_k (by decide)).trans hs1.2.1) (by omega) (fun c I2 J2 hF => ?_)
        rw [if_neg (by rw [hb]; decide)]
        refine ⟨SDs.code (by omega) ?_ ?_ (fun k hk => ?_) rfl rfl rfl (fun k hk => ?_), hD.a n30⟩
        · rw [hF.c (o := p) (by intro k q; have := q.1; omega)]; exact rd_eq
        · rw [hF.c (o := 7) (by intro k q; have := q.1; omega), rd_ne (by omega)]; exact hs1.2.2.1
        · rw [hF.c (o := 8) (by intro k q; have := q.1; omega), rd_ne (by omega)]; exact hs1.2.2.2.1 k hk
        · rw [hF.c (o := p + 1) (by intro k q; have := q.1; omega), hF.c (o := p + 2) (by intro k q; have := q.1; omega), hF.c (o := p + 3) (by intro k q; have := q.1; omega), hF.c (o := p + 4) (by intro k q; have := q.1; omega), hF.c (o := p + 5) (by intro k q; have := q.1; omega), rd_ne (by omega), rd_ne (by omega), rd_ne (by omega), rd_ne (by omega), rd_ne (by omega)]
          exact hs1.2.2.2.2 k hk
      · refine ⟨fun z => absurd z (by decide), fun _ => ?_⟩
        rw [hs1.2.2.1]
        refine ⟨fun c3 => ?_, fun c3 => ?_⟩
        · have n3 : ¬ dD s = 3 := by have := (nlt_nI (b := 3) (by omega) (by omega)).mp c3; omega
          rw [if_neg (fun z => n3 z.2)] at eS
          have g7 : uI I1 p 1 (nI (dN s) + 1) 7 1 = nI (dD s) := (rd_ne (by omega)).trans hs1.2.2.1
          have g2 : uI I1 p 1 (nI (dN s) + 1) p 2 = nI (dL s) := (rd_k (by decide)).trans hs1.2.1
          have g72 : uI (uI I1 p 1 (nI (dN s) + 1)) 8 (dD s) (nI (dL s)) 7 1 = nI (dD s) := (rd_ne (by decide)).trans g7
          refine sg_X3_readStep_111 hc _ _ _ _ _ _ _ (bif_t hO (bif_t hO ⟨fun z => absurd z (by decide), fun _ => bif_t hO ?_⟩))
          rw [hs1.1, g7, g2, tn_nI (by omega), g72, nI_k1, nI_k1]
          refine ⟨vp_nI (by omega) (by omega), ?_⟩
          refine F _ _ hi eS (((hF1.y.u (Or.inr (Or.inr (Or.inr (by omega))))).u (Or.inr (Or.inr (Or.inl rfl)))).u (Or.inr (Or.inl rfl))) (h1.o ((uI_ne (by decide)).trans ((uI_ne (by decide)).trans (uI_ne (by omega)))) ((uI_ne (by decide)).trans ((uI_ne (by decide)).trans (uI_ne (by omega)))) rfl rfl) ((rd_ne (by omega)).trans ((rd_ne (by omega)).trans ((rd_k (by decide)).trans hs1.2.1))) (by omega) (fun c I2 J2 hF => ?_)
          rw [if_pos hb]
          refine ⟨SDs.code (by omega) ?_ ?_ (fun k hk => ?_) rfl rfl rfl (fun k hk => ?_), hD.b n30 n3⟩
          · rw [hF.c (o := p) (by intro k q; have := q.1; omega), rd_ne (by omega), rd_ne (by omega)]; exact rd_eq
          · rw [hF.c (o := 7) (by intro k q; have := q.1; omega)]; exact rd_eq
          · have hk2 : k < dD s + 1 := hk
            rw [hF.c (o := 8) (by intro k q; have := q.1; omega), rd_ne (by decide)]
            show _ = nI (upN (dO s) (dD s) (dL s) k)
            by_cases q : k = dD s
            · subst q; rw [rd_eq, upN_s]
            · rw [rd_k q, rd_ne (by omega), upN_i q]; exact hs1.2.2.2.1 k (by omega)
          · rw [hF.c (o := p + 1) (by intro k q; have := q.1; omega), hF.c (o := p + 2) (by intro k q; have := q.1; omega), hF.c (o := p + 3) (by intro k q; have := q.1; omega), hF.c (o := p + 4) (by intro k q; have := q.1; omega), hF.c (o := p + 5) (by intro k q; have := q.1; omega)]
            rw [uI_ne (show ¬ p + 1 = 7 by omega), uI_ne (show ¬ p + 1 = 8 by omega), uI_ne (show ¬ p + 1 = p by omega), uI_ne (show ¬ p + 2 = 7 by omega), uI_ne (show ¬ p + 2 = 8 by omega), uI_ne (show ¬ p + 2 = p by omega), uI_ne (show ¬ p + 3 = 7 by omega), uI_ne (show ¬ p + 3 = 8 by omega), uI_ne (show ¬ p + 3 = p by omega), uI_ne (show ¬ p + 4 = 7 by omega), uI_ne (show ¬ p + 4 = 8 by omega), uI_ne (show ¬ p + 4 = p by omega), uI_ne (show ¬ p + 5 = 7 by omega), uI_ne (show ¬ p + 5 = 8 by omega), uI_ne (show ¬ p + 5 = p by omega)]
            exact hs1.2.2.2.2 k hk
        · have e3 : dD s = 3 := by
            rcases Nat.lt_or_ge (dD s) 3 with z | z
            · exact absurd ((nlt_nI (b := 3) (by omega) (by omega)).mpr z) c3
            · omega
          rw [if_pos ⟨hb, e3⟩] at eS
          exact px_wt (k := 7) (by decide) h7 (fun I3 hF3 hf _ => ⟨Or.inl rfl, hE _ I3 J1 eS (hF1.y.tr hF3.y) hf⟩)
    · have e30 : dN s = 30 := by
        rcases Nat.lt_or_ge (dN s) 30 with z | z
        · exact absurd ((nlt_nI (b := 30) (by omega) (by omega)).mpr z) c30
        · omega
      rw [if_pos e30] at eS
      exact px_wt (k := 6) (by decide) h7 (fun I3 hF3 hf _ => ⟨Or.inl rfl, hE _ I3 J1 eS (hF1.y.tr hF3.y) hf⟩)
  have Y : ∀ v5 : Int32, isSt i = false → P 57 112 [(0, .ref 7), (1, .ref p), (2, .ref o), (3, .ref 3), (4, .int i), (5, .int v5)] [] I J R := by
    intro v5 hi
    rw [if_neg (by rw [hi]; decide)] at eS
    exact sg_X3_readStep_57 hc _ _ _ _ _ _ _ ⟨fun z => absurd rfl z, fun _ => px_mis h (fun I2 J2 hF hf _ => ⟨Or.inl rfl, hE _ I2 J2 eS hF.y hf⟩)⟩
  have B : isBk i = true → P 20 112 [(0, .ref 7), (1, .ref p), (2, .ref o), (3, .ref 3), (4, .int i)] [] I J R := fun hb => sg_X3_readStep_20 hc _ _ _ _ _ _ ⟨fun _ => X 1 (by unfold isSt; rw [hb]; rfl) (Or.inr ⟨rfl, hb⟩), fun z => absurd z (by decide)⟩
  refine ⟨fun c => B (by rw [c]; decide), fun c15 => ⟨fun c19 => ⟨fun z => absurd rfl z, fun _ => ⟨fun c21 => X 0 (by rw [c21]; decide) (Or.inl ⟨rfl, by rw [c21]; decide⟩), fun c21 => ⟨fun c9 => Y 0 ?_, fun c9 => ⟨fun c14 => Y 0 ?_, fun c14 => X 0 ?_ (Or.inl ⟨rfl, ?_⟩)⟩⟩⟩⟩, fun c => B (by rw [c]; decide)⟩⟩
  · exact isSt_no c15 c19 c21 (Or.inl c9)
  · exact isSt_no c15 c19 c21 (Or.inr c14)
  · exact isSt_yes (ile.mp c9) (ile.mp c14)
  · exact isBk_no c15 c19
end DYW
