section PT16x0
/-! ===== mean() for the relation of stores ===== -/
section W9N
variable {I I1 I2 : Im} {J J1 J2 : Jm} {R : Rm} {v1 v2 x : Int32} {Q : Qt}
/-- all but what is at e -/
noncomputable def KS99 (e : Nat) (I I2 : Im) : Prop := (∀ a, badW9 a = true → ¬ (e ≤ a ∧ a ≤ e + 5) → I2 a = I a) ∧ (∀ c, c ∈ BKL → ¬ c = e → I2 c 1 = I c 1 ∧ I2 c 3 = I c 3) ∧ ∀ c, c ∈ BP9 → I2 c = I c
theorem KS99.of {e : Nat} (h : ∀ c, ¬ c = 1 → ¬ (e ≤ c ∧ c ≤ e + 5) → ¬ c = 51 → ¬ c = 52 → I2 c = I c) (he : e = 9 ∨ e = 15) : KS99 e I I2 := by
  refine ⟨fun a ha hn => ?_, fun c hc hn => ?_, fun c hc => ?_⟩
  · have hm := arW9_sh a (badW9_mem ha)
    refine h a (fun q => ?_) hn (fun q => ?_) (fun q => ?_)
    · subst q; exact absurd hm (by decide)
    · subst q; exact absurd hm (by decide)
    · subst q; exact absurd ha (by decide)
  · have h6 := bk_six hc
    rw [h c (by omega) (by omega) (by omega) (by omega)]; exact ⟨rfl, rfl⟩
  · have h5 := bp_five hc
    exact h c (by omega) (by omega) (by omega) (by omega)
theorem KS99.tr {e : Nat} {I3 : Im} (h : KS99 e I I2) (k : KW99 I2 I3) : KS99 e I I3 :=
  ⟨fun a ha hn => (k.1 a ha).trans (h.1 a ha hn), fun c hc hn => ⟨(k.2.1 c hc).1.trans (h.2.1 c hc hn).1, (k.2.1 c hc).2.trans (h.2.1 c hc hn).2⟩, fun c hc => (k.2.2 c hc).trans (h.2.2 c hc)⟩
theorem KS99.bh {e o : Nat} {C : Nat → Int32} (k : KS99 e I I2) (he : e = 9 ∨ e = 15) (ho : o ∈ BKL) (hn : ¬ o = e) (h : BA99 o C I) : BA99 o C I2 := by
  have q := k.2.1 o ho hn
  have h6 := bk_six ho
  refine h.cp q.1 q.2 (fun c hc => k.1 c ?_ (by omega))
  rcases h6 with q | q | q | q | q <;> subst q <;> rcases hc with y | y | y | y <;> subst y <;> decide
theorem KS99.dh {e p : Nat} {C : Nat → Int32} (k : KS99 e I I2) (he : e = 9 ∨ e = 15) (hp : p ∈ BP9) (h : DH9 p C I) : DH9 p C I2 := by
  refine h.cp (fun c h1 h2 => ?_)
  have h5 := bp_five hp
  by_cases q : c = p
  · subst q; exact k.2.2 c hp
  · refine k.1 c ?_ (by omega)
    rcases h5 with y | y | y | y | y <;> subst y
    · rcases (show c = 22 ∨ c = 23 ∨ c = 24 ∨ c = 25 ∨ c = 26 by omega) with y | y | y | y | y <;> subst y <;> decide
    · rcases (show c = 28 ∨ c = 29 ∨ c = 30 ∨ c = 31 ∨ c = 32 by omega) with y | y | y | y | y <;> subst y <;> decide
    · rcases (show c = 68 ∨ c = 69 ∨ c = 70 ∨ c = 71 ∨ c = 72 by omega) with y | y | y | y | y <;> subst y <;> decide
    · rcases (show c = 80 ∨ c = 81 ∨ c = 82 ∨ c = 83 ∨ c = 84 by omega) with y | y | y | y | y <;> subst y <;> decide
    · rcases (show c = 92 ∨ c = 93 ∨ c = 94 ∨ c = 95 ∨ c = 96 by omega) with y | y | y | y | y <;> subst y <;> decide
theorem sp_e {R : Rm} (hR : RI R) : (R 1 8 = 9 ∨ R 1 8 = 15) ∧ ¬ R 1 7 = R 1 8 := by
  have := hR.rp.1
  omega
theorem W9.kS (hR : RI R) (h : W9 I R) (k : KS99 (R 1 8) I I2) (e : I2 102 = I 102) (e23 : I2 97 23 = I 97 23) : W9 I2 R := by
  obtain ⟨he, hne⟩ := sp_e hR
  refine ⟨?_, fun j hj hm => ?_⟩
  · obtain ⟨h1, h2, h3⟩ := h.1
    rw [e]
    exact ⟨h1, k.bh he (now_bk hR) hne h2, k.dh he (pl_bp hR) h3⟩
  · rw [e23] at hm
    have eb : blk9 (324 * (j + 1)) I2 = blk9 (324 * (j + 1)) I := funext fun i => congrFun e _
    obtain ⟨h1, h2, h3⟩ := h.2 j hj hm
    rw [eb]
    exact ⟨h1, k.bh he (kb_bk hj) (by omega) h2, k.dh he (kd_bp hj) h3⟩
noncomputable def okM9 (v1 v2 : Int32) (I : Im) : Prop := ((0 : Int32) ≤ v1 ∧ v1 ≤ 9999) ∧ ((1 : Int32) ≤ v2 ∧ v2 ≤ 20) ∧ v1.toInt + v2.toInt ≤ 10000 ∧ ¬ I 102 52 = 0
noncomputable def MnX9 (v1 v2 : Int32) (I : Im) (x : Int32) : Prop := (x = 1 ∧ okM9 v1 v2 I) ∨ (x = 0 ∧ ¬ okM9 v1 v2 I)
noncomputable def HMe9 (R : Rm) (v1 v2 : Int32) (I : Im) (x : Int32) (I1 : Im) : Prop := MnX9 v1 v2 I x ∧ KS99 (R 1 8) I I1 ∧ I1 102 = I 102 ∧ I1 97 23 = I 97 23 ∧ KL9 I I1
set_option maxHeartbeats 1000000 in
theorem cx_mean9 {d : Nat} (hB0 : Bd I) (hR : RI R) (em : I (R 1 7) 4 = I 102 0) (h : W9 I R) : AM (d + 7) 146 112 [.ref 1, .int v1, .int v2] I J R (fun x _ I1 _ _ => HMe9 R v1 v2 I x I1) := by
  have hO := hR.now.1
  have hS := hR.spare.1
  have hP := hR.plan.1
  obtain ⟨he, hne⟩ := sp_e hR
  have n7 := now_9 hR
  have n9 := n9_p hR
  obtain ⟨q1, q2, q3⟩ := h.1
  have hm := q1.m
  have i0 : (0 : Int32).toInt = 0 := rfl
  have i1 : (1 : Int32).toInt = 1 := rfl
  have i20 : (20 : Int32).toInt = 20 := rfl
  have i9 : (9999 : Int32).toInt = 9999 := rfl
  refine am_X11_mean (fun P hc => ?_)
  have no : ∀ z : Int32, ¬ okM9 v1 v2 I → HMe9 R v1 v2 I 0 (uI I 1 0 z) := fun z hz => ⟨Or.inr ⟨rfl, hz⟩, KS99.of (fun c a _ _ _ => uI_ne a) he, uI_ne (by decide), rd_ne (by decide), uI_ne (by decide), uI_ne (by decide), rd_ne (by decide)⟩
  have ny : ∀ z : Int32, ¬ okM9 v1 v2 I → AM (d + 6) 150 112 [.ref 1, .int z] I J R (fun x1 _ I1 _ _ => (x1 = 0 ∨ x1 = 1) → (((x1 : Int32) = 0 ∨ (x1 : Int32) = 1) ∧ HMe9 R v1 v2 I x1 I1)) := fun z hz => w_X11_deny ⟨Or.inl rfl, fun _ => ⟨Or.inl rfl, no _ hz⟩⟩
  have L : okM9 v1 v2 I → ∀ n : Nat, (∀ (v3 : Int64) (v5 : Int32) (M : Im) (JM : Jm), Bd M → (∀ c, ¬ (R 1 8 ≤ c ∧ c ≤ R 1 8 + 5) → ¬ c = 51 → ¬ c = 52 → M c = I c) → (0 ≤ v5.toInt ∧ v5.toInt ≤ 20) → 30 - v5.toInt < (n : Int) → P 61 112 [(0, .ref 1), (1, .int v1), (2, .int v2), (3, .long v3), (5, .int v5)] [] M JM R) := by
    intro hok n
    obtain ⟨⟨o1, o2⟩, ⟨o3, o4⟩, o5, h52⟩ := id hok
    rw [le_i] at o1 o2 o3 o4
    obtain ⟨s, hg⟩ := q3.2 h52
    have hE := h.ev hB0 h52 hg
    have hs := h.hs
    obtain ⟨g1, g2, g3, g4, g5, g6, g7⟩ := id hg
    have hV : ∀ a, a < dL s → VC9 (I 102 0) (dC s a) := fun a ha => by
      rcases (g2.2.2.2 a ha).2.2 with q | ⟨t, ht, q⟩
      · exact ⟨fun z => by rw [q] at z; exact absurd z (by decide), fun z => by rw [q] at z; exact absurd z (by decide)⟩
      · have := (hE.2.2.2.2 t ht).2.2
        rw [q] at this; exact this
    induction n with
    | zero => exact fun v3 v5 M J _ _ hi hm => absurd hm (by omega)
    | succ n ih =>
      intro v3 v5 M JM hB hM hi hmm
      refine sg_X11_mean_61 hc _ _ _ _ _ _ _ ⟨fun c1 => ?_, fun c1 => ?_⟩
      · refine kpW9 rfl hR rfl (kpL9 rfl hR rfl (k3w rfl rfl rfl hR rfl rfl (sp_X11_tell hB hR (fun x3 y8 I4 J5 hB6 p7 kc kn ka kl kw o9 => ⟨o9, Or.inl ⟨x_one p7, hok⟩, (KS99.of (fun c _ a2 a3 a4 => hM c a2 a3 a4) he).tr kw, kc.1.trans (hM 102 (by omega) (by decide) (by decide)), ka.2.trans (congrFun (hM 97 (by omega) (by decide) (by decide)) 23), KL9.tr ⟨hM 49 (by omega) (by decide) (by decide), hM 112 (by omega) (by decide) (by decide), congrFun (hM 97 (by omega) (by decide) (by decide)) 40⟩ kl⟩))))
      · have d11 : (v5.toInt : Int) < v2.toInt := ci_nle rfl rfl c1
        refine ⟨hR.spare.2, hR.now.2, bif_t hS (kx (px_cpB (Q := fun _ _ I2 J2 _ => (∀ c, ¬ (R 1 8 ≤ c ∧ c ≤ R 1 8 + 5) → I2 c = M c) ∧ I2 (R 1 8) 4 = M (R 1 7) 4 ∧ CpB9 (R 1 8) (R 1 7) M I2) hS hO (by omega) (fun I2 J2 f1 _ y4 _ y1 y3 yst yn => ⟨f1, y4, y1, y3, yst, fun k hk => (yn k hk).2⟩)) (sp_X0_copyFrom hB hR hS hO (fun x12 y17 I13 J14 hB15 p16 fg => ?_)))⟩
        obtain ⟨f1, y4, ycp⟩ := fg
        have c0 : ∀ c, ¬ (R 1 8 ≤ c ∧ c ≤ R 1 8 + 5) → ¬ c = 51 → ¬ c = 52 → I13 c = I c := fun c a1 a2 a3 => (f1 c a1).trans (hM c a1 a2 a3)
        have hb13 : BA99 (R 1 8) (I 102) I13 := (q2.cp (I2 := M) (congrFun (hM (R 1 7) (by omega) (by omega) (by omega)) 1) (congrFun (hM (R 1 7) (by omega) (by omega) (by omega)) 3) (fun c hc => hM c (by omega) (by omega) (by omega))).cy hm.1 ycp
        have m13 : I13 (R 1 8) 4 = I 102 0 := y4.trans ((congrFun (hM (R 1 7) (by omega) (by omega) (by omega)) 4).trans em)
        have s13 : SDc s (R 1 9) I13 := g5.cp (fun c a1 a2 => c0 c (by omega) (by omega) (by omega))
        refine ⟨hR.spare.2, hR.plan.2, ?_⟩
        have run : AM (d + 6) 41 112 [.ref 51, .ref (R 1 8), .ref (R 1 9), .int (v1 + v5)] I13 J14 R (fun _ _ I2 J2 _ => FrLf 51 (R 1 8) I13 J14 I2 J2) :=
          px_run4 (du := du9 I) (od := I 102 1) (m := I 102 0) (M := mnN (I 102)) (st := s9 I) (s := s) rfl hS hP (by omega) (by omega) g1 g2 s13 hV m13 hE.2.1 hb13.1 (fun k hk => ⟨(hb13.2.2.2 k hk).1, (hb13.2.2.2 k hk).2.1⟩) hE.2.2.1 ⟨hb13.2.2.1, fun k hk => (hb13.2.2.2 k hk).2.2, hb13.2.1⟩ (fun I2 _ _ _ _ hF => hF)
        refine kx run (sp_X4_run hB15 hR io9_112_51_4 hS hP (fun x18 y23 I19 J20 hB21 p22 hF => ?_))
        refine ⟨hR.spare.2, bif_t hS ?_⟩
        refine kpp rfl (sp_X0_allHoldings hB21 hR hS (fun x24 y29 I25 J26 hB27 p28 eI eJ _ => ?_))
        subst eI
        have e30 : (v5 + 1 : Int32).toInt = v5.toInt + 1 := ti_add rfl rfl (by omega)
        exact ih _ _ _ _ hB27 (fun c a1 a2 a3 => (hF.c (fun k q => by rcases q with (q | q | q) | q | q <;> omega)).trans (c0 c a1 a2 a3)) (by omega) (by omega)
  refine sg_X11_mean_0 hc _ _ _ _ _ ⟨fun c => ny 5 (fun z => ile.mpr z.1.1 c), fun c1 => ⟨fun c => ny 5 (fun z => ile.mpr z.1.2 c), fun c2 => ⟨fun c => ny 5 (fun z => ile.mpr z.2.1.1 c), fun c3 => ⟨fun c => ny 5 (fun z => ile.mpr z.2.1.2 c), fun c4 => ?_⟩⟩⟩⟩
  have l1 := ile.mp c1
  have l2 := ile.mp c2
  have l3 := ile.mp c3
  have l4 := ile.mp c4
  have l1' := l1
  have l2' := l2
  have l3' := l3
  have l4' := l4
  rw [le_i] at l1' l2' l3' l4'
  have ea : ((v1 + v2) - 1 : Int32).toInt = v1.toInt + v2.toInt - 1 := ti_sub (ti_add rfl rfl (by omega)) i1 (by omega)
  refine ⟨fun c5 => ⟨hR.plan.2, bif_t hP ⟨fun c6 => ?_, fun c6 => ny 8 (fun z => z.2.2.2 (by rw [← q3.1]; exact c6))⟩⟩, fun c5 => ny 5 (fun z => c5 (by rw [le_i, ea, i9]; have := z.2.2.1; omega))⟩
  rw [le_i, ea, i9] at c5
  exact L ⟨⟨l1, l2⟩, ⟨l3, l4⟩, by omega, fun z => c6 (q3.1.trans z)⟩ 40 0 0 I J hB0 (fun _ _ _ _ => rfl) (by decide) (by decide)
theorem px_frac9 {d : Nat} {w1 w3 : Int64} (hb : ¬ w3 = 0) (hQ : ∀ J2, Q 1 0 I J2 R) : AM (d + 1) 179 112 [.ref 97, .long w1, .long w3] I J R Q := by
  refine am_X12_fraction (fun P hc => ?_)
  have L : ∀ n : Nat, ∀ v5 v7 : Int64, v7.toInt.natAbs < n → (¬ v5 = 0 ∨ ¬ v7 = 0) → P 9 112 [(0, .ref 97), (1, .long w1), (3, .long w3), (5, .long v5), (7, .long v7)] [] I J R := by
    intro n
    induction n with
    | zero => intro _ _ h; omega
    | succ n ih =>
      intro v5 v7 hm h5
      refine sg_X12_fraction_9 hc w1 w3 v5 v7 I J R ⟨fun c => ?_, fun c => ?_⟩
      · rw [lg_cmp_eq] at c
        have h5' : ¬ v5 = 0 := h5.resolve_right (fun q => q c)
        exact ⟨h5', h5', Or.inr rfl, hQ _⟩
      · rw [lg_cmp_eq] at c
        exact ⟨c, ih v7 _ (by have := tl_rem_abs (x := v5) c; omega) (Or.inl c)⟩
  exact sg_X12_fraction_0 hc w1 w3 I J R (L (w3.toInt.natAbs + 1) _ _ (Nat.lt_succ_self _) (Or.inr hb))
theorem loaf_n9 : ∀ V, V < 21 → 1 ≤ V → ¬ (Int32.toInt64 (nI V)) * 2329089562800 = 0 := by decide +kernel
set_option maxHeartbeats 1000000 in
theorem mx_mean9 {e : Nat} (hB : Bd I) (hR : RI R) (h : W9 I R) (H1 : HMe9 R v1 v2 I x I1) : AM (e + 84) 315 112 [.ref 97, .int v1, .int v2] I1 J1 R (fun x2 _ I2 _ _ => x2 = x ∧ I2 102 = I 102) := by
  obtain ⟨hX, hK, e102, e23, -⟩ := H1
  obtain ⟨q1, q2, q3⟩ := h.1
  have hm := q1.m
  have i0 : (0 : Int32).toInt = 0 := rfl
  have i1 : (1 : Int32).toInt = 1 := rfl
  have i20 : (20 : Int32).toInt = 20 := rfl
  have i9 : (9999 : Int32).toInt = 9999 := rfl
  have it : (10000 : Int32).toInt = 10000 := rfl
  have t52 : Int32.toNatClampNeg 52 = 52 := rfl
  have t0 : Int32.toNatClampNeg 0 = 0 := rfl
  have v52 : vp_in 52 1620 := vp_of (a := 52) rfl (by decide) (by decide)
  have c102 : uI (uI I1 97 1 0) 97 0 0 102 = I 102 := by rw [uI_ne (by decide), uI_ne (by decide)]; exact e102
  have fail : ¬ okM9 v1 v2 I → ∀ z : Int32, AM (e + 83) 177 112 [.ref 97, .int z] (uI (uI I1 97 1 0) 97 0 0) J1 R (fun x1 _ I2 _ _ => (x1 = 0 ∨ x1 = 1) → (((x1 : Int32) = 0 ∨ (x1 : Int32) = 1) ∧ (x1 = x ∧ I2 102 = I 102))) := fun hn z => by
    have x0 : x = 0 := hX.elim (fun y => absurd y.2 hn) (fun y => y.1)
    exact w_X12_no ⟨Or.inl rfl, fun _ => ⟨Or.inl rfl, x0.symm, (uI_ne (by decide)).trans c102⟩⟩
  refine am_X12_mean (fun P hc => sg_X12_mean_0 hc _ _ _ _ _ (px_isInI (lo := 1) (hi := 20) (fun l3 l4 _ => ⟨fun z => absurd z (by decide), fun _ => ?_⟩) (fun m1 _ => ⟨fun _ => fail (fun z => m1.elim (fun y => ile.mpr z.2.1.1 y) (fun y => y z.2.1.2)) 5, fun z => absurd rfl z⟩)))
  have l3' := l3
  have l4' := l4
  rw [le_i] at l3' l4'
  have e10 : (10000 - v2 : Int32).toInt = 10000 - v2.toInt := ti_sub it rfl (by omega)
  refine px_isInI (lo := 0) (hi := 10000 - v2) (fun l1 l2 _ => ⟨fun _ => ⟨v52, ?_⟩, fun z => absurd z (by decide)⟩) (fun m1 _ => ⟨fun z => absurd rfl z, fun _ => fail (fun z => m1.elim (fun y => ile.mpr z.1.1 y) (fun y => y (by rw [le_i, e10]; have := z.2.2.1; omega))) 5⟩)
  have l1' := l1
  have l2' := l2
  rw [le_i] at l1'
  rw [le_i, e10] at l2'
  rw [t52, c102]
  refine ⟨fun h52 => ?_, fun c52 => fail (fun z => z.2.2.2 c52) 8⟩
  have hok : okM9 v1 v2 I := ⟨⟨l1, by rw [le_i, i9]; omega⟩, ⟨l3, l4⟩, by omega, h52⟩
  have x1 : x = 1 := hX.elim (fun y => y.1) (fun y => absurd hok y.2)
  obtain ⟨s, hg⟩ := q3.2 h52
  have hE := h.ev hB h52 hg
  have hs := h.hs
  obtain ⟨g1, g2, g3, g4, g5, g6, g7⟩ := id hg
  obtain ⟨V, hV, eV⟩ : ∃ V : Nat, (1 ≤ V ∧ V ≤ 20) ∧ v2 = nI V := ⟨v2.toInt.toNat, by omega, Int32.toInt_inj.mp (by rw [nI_toInt (by omega)]; omega)⟩
  have L : ∀ (g k : Nat) (v3 : Int64) (A : Im) (JA : Jm), k + g = V → A 102 = I 102 → (∀ j, j < 52 → A 103 j = I 102 j) → P 91 112 [(0, .ref 97), (1, .int v1), (2, .int v2), (3, .long v3), (5, .int (nI k))] [] A JA R := by
    intro g
    induction g with
    | zero =>
      intro k v3 A JA hk hA _
      refine sg_X12_mean_91 hc _ _ _ _ _ _ _ ⟨fun _ => ?_, fun c => absurd (by rw [eV]; exact (nle_nI (by omega) (by omega)).mpr (by omega)) c⟩
      exact px_frac9 (by rw [eV]; exact loaf_n9 V (by omega) (by omega)) (fun J2 _ => ⟨Or.inr rfl, x1.symm, hA⟩)
    | succ g ih =>
      intro k v3 A JA hk hA h103
      refine sg_X12_mean_91 hc _ _ _ _ _ _ _ ⟨fun c => absurd ((nle_nI (a := V) (b := k) (by omega) (by omega)).mp (by rw [eV] at c; exact c)) (by omega), fun _ => ?_⟩
      have hsd : (v1 + nI k : Int32).toInt = v1.toInt + (k : Int) := ti_add rfl (nI_toInt (by omega)) (by omega)
      have hrA : BkR (mnN (I 102)) (s9 I) A := by
        unfold BkR
        rw [hA]
        exact hs.2.1
      refine px_runs9 (e := e + 3) (q := I 50) (hE.o hA) g1 g2 g3 (by rw [hA]; exact g6) (by omega) hs.2.2.1 hrA (fun B hF hM hRB _ _ => ?_)
      have b103 : ∀ j, j < 52 → B 103 j = I 102 j := fun j hj => (hF.i (fun z => by rcases z with z | z <;> omega)).trans (h103 j hj)
      have bhi : ∀ j, 52 ≤ j → B 102 j = I 102 j := fun j hj => (hF.i (fun z => by rcases z with z | z <;> omega)).trans (congrFun hA j)
      have b0 : B 102 0 = I 102 0 := (hF.i (fun z => by rcases z with z | z <;> omega)).trans (congrFun hA 0)
      have L108 : ∀ (f i : Nat) (w3 : Int64), i + f = mnN (I 102) → P 108 112 [(0, .ref 97), (1, .int v1), (2, .int v2), (3, .long w3), (5, .int (nI k)), (6, .int (nI i))] [] B JA R := by
        intro f
        induction f with
        | zero =>
          intro i w3 hi
          refine sg_X12_mean_108 hc _ _ _ _ _ _ _ _ ⟨vp_of (a := 0) rfl (by decide) (by decide), fun _ => ?_, fun c => absurd (by rw [t0, b0, hm.2.1]; exact (nle_nI (by omega) (by omega)).mpr (by omega)) c⟩
          have L2 : ∀ (f j : Nat) (D : Im), j + f = 52 → (∀ i, i < j → D 102 i = I 102 i) → (∀ i, 52 ≤ i → D 102 i = I 102 i) → (∀ i, i < 52 → D 103 i = I 102 i) → P 144 112 [(0, .ref 97), (1, .int v1), (2, .int v2), (3, .long w3), (5, .int (nI k)), (6, .int (nI j))] [] D JA R := by
            intro f
            induction f with
            | zero =>
              intro j D hj d1 d2 d3
              refine sg_X12_mean_144 hc _ _ _ _ _ _ _ _ ⟨fun _ => ?_, fun c => absurd ((nle_nI (a := 52) (by omega) (by omega)).mpr (by omega)) c⟩
              rw [nI_s1]
              refine ih (k + 1) w3 D JA (by omega) (funext fun i => ?_) d3
              rcases Nat.lt_or_ge i 52 with z | z
              · exact d1 i (by omega)
              · exact d2 i z
            | succ f ih2 =>
              intro j D hj d1 d2 d3
              refine sg_X12_mean_144 hc _ _ _ _ _ _ _ _ ⟨fun c => absurd ((nle_nI (a := 52) (by omega) (by omega)).mp c) (by omega), fun _ => ⟨vp_nI (by omega) (by omega), vp_nI (by omega) (by omega), ?_⟩⟩
              rw [tn_nI (by omega), nI_s1]
              refine ih2 (j + 1) _ (by omega) (fun i hi => ?_) (fun i hi => (rd_k (by omega)).trans (d2 i hi)) (fun i hi => (rd_ne (by decide)).trans (d3 i hi))
              by_cases z : i = j
              · subst z; rw [rd_eq]; exact d3 i (by omega)
              · rw [rd_k z]; exact d1 i (by omega)
          exact L2 52 0 B (by omega) (fun i hi => absurd hi (by omega)) bhi b103
        | succ f ih3 =>
          intro i w3 hi
          have k46 : (46 : Int32) + nI i = nI (46 + i) := by rw [show (46 : Int32) = nI 46 from rfl]; exact nI_add 46 i
          refine sg_X12_mean_108 hc _ _ _ _ _ _ _ _ ⟨vp_of (a := 0) rfl (by decide) (by decide), fun c => absurd ((nle_nI (a := mnN (I 102)) (b := i) (by omega) (by omega)).mp (by rw [t0, b0, hm.2.1] at c; exact c)) (by omega), fun _ => ?_⟩
          rw [k46, tn_nI (by omega), nI_s1]
          refine ⟨vp_nI (by omega) (by omega), px_sumOf ?_ (fun y _ => ih3 (i + 1) _ (by omega))⟩
          rw [hM.1.2.1 i (by omega)]
          exact hRB.1.hv0 i (by omega)
      exact L108 (mnN (I 102)) 0 v3 (by omega)
  have L62 : ∀ (f j : Nat) (A : Im), j + f = 52 → A 102 = I 102 → (∀ i, i < j → A 103 i = I 102 i) → P 62 112 [(0, .ref 97), (1, .int v1), (2, .int v2), (3, .int (nI j))] [] A J1 R := by
    intro f
    induction f with
    | zero =>
      intro j A hj hA d3
      exact sg_X12_mean_62 hc _ _ _ _ _ _ ⟨fun _ => L V 0 0 A J1 (by omega) hA (fun i hi => d3 i (by omega)), fun c => absurd ((nle_nI (a := 52) (by omega) (by omega)).mpr (by omega)) c⟩
    | succ f ih4 =>
      intro j A hj hA d3
      refine sg_X12_mean_62 hc _ _ _ _ _ _ ⟨fun c => absurd ((nle_nI (a := 52) (by omega) (by omega)).mp c) (by omega), fun _ => ⟨vp_nI (by omega) (by omega), vp_nI (by omega) (by omega), ?_⟩⟩
      rw [tn_nI (by omega), nI_s1]
      refine ih4 (j + 1) _ (by omega) ((uI_ne (by decide)).trans hA) (fun i hi => ?_)
      by_cases z : i = j
      · subst z; rw [rd_eq, hA]
      · rw [rd_k z]; exact d3 i (by omega)
  exact L62 52 0 _ (by omega) c102 (fun i hi => absurd hi (by omega))
end W9N
end PT16x0
