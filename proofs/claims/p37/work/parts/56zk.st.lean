section PT16x0
/-! ===== mean() for the relation of stores ===== -/
section W9N
variable {I I1 I2 : Im} {J J1 J2 : Jm} {R : Rm} {v1 v2 x : Int32} {Q : Qt}
/-- all but what is at e -/
noncomputable def KS99 (e : Nat) (I I2 : Im) : Prop := (∀ a, badW9 a = true → ¬ (e ≤ a ∧ a ≤ e + 5) → I2 a = I a) ∧ (∀ c, c ∈ BKL → ¬ c = e → I2 c 1 = I c 1 ∧ I2 c 3 = I c 3) ∧ ∀ c, c ∈ BP9 → I2 c = I c
theorem KS99.of {e : Nat} (h : ∀ c, ¬ c = 1 → ¬ (e ≤ c ∧ c ≤ e + 5) → ¬ c = 51 → ¬ c = 52 → I2 c = I c) (he : e = 9 ∨ e = 15) : KS99 e I I2 := by
  refine ⟨fun a ha hn => ?_, fun c hc hn => ?_, fun c hc => ?_⟩
  · have hm := arW9_sh a (badW9_mem ha)
    refine h a (fun q => ?_) hn (fun q => ?_) (fun q => ?_)
    · subst q; exact absurd hm (by decide)
    · subst q; exact absurd hm (by decide)
    · subst q; exact absurd ha (by decide)
  · have h6 := bk_six hc
    rw [h c (by omega) (by omega) (by omega) (by omega)]; exact ⟨rfl, rfl⟩
  · have h5 := bp_five hc
    exact h c (by omega) (by omega) (by omega) (by omega)
theorem KS99.tr {e : Nat} {I3 : Im} (h : KS99 e I I2) (k : KW99 I2 I3) : KS99 e I I3 :=
  ⟨fun a ha hn => (k.1 a ha).trans (h.1 a ha hn), fun c hc hn => ⟨(k.2.1 c hc).1.trans (h.2.1 c hc hn).1, (k.2.1 c hc).2.trans (h.2.1 c hc hn).2⟩, fun c hc => (k.2.2 c hc).trans (h.2.2 c hc)⟩
theorem KS99.bh {e o : Nat} {C : Nat → Int32} (k : KS99 e I I2) (he : e = 9 ∨ e = 15) (ho : o ∈ BKL) (hn : ¬ o = e) (h : BA99 o C I) : BA99 o C I2 := by
  have q := k.2.1 o ho hn
  have h6 := bk_six ho
  refine h.cp q.1 q.2 (fun c hc => k.1 c ?_ (by omega))
  rcases h6 with q | q | q | q | q <;> subst q <;> rcases hc with y | y | y | y <;> subst y <;> decide
theorem KS99.dh {e p : Nat} {C : Nat → Int32} (k : KS99 e I I2) (he : e = 9 ∨ e = 15) (hp : p ∈ BP9) (h : DH9 p C I) : DH9 p C I2 := by
  refine h.cp (fun c h1 h2 => ?_)
  have h5 := bp_five hp
  by_cases q : c = p
  · subst q; exact k.2.2 c hp
  · refine k.1 c ?_ (by omega)
    rcases h5 with y | y | y | y | y <;> subst y
    · rcases (show c = 22 ∨ c = 23 ∨ c = 24 ∨ c = 25 ∨ c = 26 by omega) with y | y | y | y | y <;> subst y <;> decide
    · rcases (show c = 28 ∨ c = 29 ∨ c = 30 ∨ c = 31 ∨ c = 32 by omega) with y | y | y | y | y <;> subst y <;> decide
    · rcases (show c = 68 ∨ c = 69 ∨ c = 70 ∨ c = 71 ∨ c = 72 by omega) with y | y | y | y | y <;> subst y <;> decide
    · rcases (show c = 80 ∨ c = 81 ∨ c = 82 ∨ c = 83 ∨ c = 84 by omega) with y | y | y | y | y <;> subst y <;> decide
    · rcases (show c = 92 ∨ c = 93 ∨ c = 94 ∨ c = 95 ∨ c = 96 by omega) with y | y | y | y | y <;> subst y <;> decide
theorem sp_e {R : Rm} (hR : RI R) : (R 1 8 = 9 ∨ R 1 8 = 15) ∧ ¬ R 1 7 = R 1 8 := by
  have := hR.rp.1
  omega
theorem W9.kS (hR : RI R) (h : W9 I R) (k : KS99 (R 1 8) I I2) (e : I2 102 = I 102) (e23 : I2 97 23 = I 97 23) : W9 I2 R := by
  obtain ⟨he, hne⟩ := sp_e hR
  refine ⟨?_, fun j hj hm => ?_⟩
  · obtain ⟨h1, h2, h3⟩ := h.1
    rw [e]
    exact ⟨h1, k.bh he (now_bk hR) hne h2, k.dh he (pl_bp hR) h3⟩
  · rw [e23] at hm
    have eb : blk9 (324 * (j + 1)) I2 = blk9 (324 * (j + 1)) I := funext fun i => congrFun e _
    obtain ⟨h1, h2, h3⟩ := h.2 j hj hm
    rw [eb]
    exact ⟨h1, k.bh he (kb_bk hj) (by omega) h2, k.dh he (kd_bp hj) h3⟩
noncomputable def okM9 (v1 v2 : Int32) (I : Im) : Prop := ((0 : Int32) ≤ v1 ∧ v1 ≤ 9999) ∧ ((1 : Int32) ≤ v2 ∧ v2 ≤ 20) ∧ v1.toInt + v2.toInt ≤ 10000 ∧ ¬ I 102 52 = 0
noncomputable def MnX9 (v1 v2 : Int32) (I : Im) (x : Int32) : Prop := (x = 1 ∧ okM9 v1 v2 I) ∨ (x = 0 ∧ ¬ okM9 v1 v2 I)
noncomputable def HMe9 (R : Rm) (v1 v2 : Int32) (I : Im) (x : Int32) (I1 : Im) : Prop := MnX9 v1 v2 I x ∧ KS99 (R 1 8) I I1 ∧ I1 102 = I 102 ∧ I1 97 23 = I 97 23 ∧ KL9 I I1
set_option maxHeartbeats 1000000 in
theorem cx_mean9 {d : Nat} (hB0 : Bd I) (hR : RI R) (em : I (R 1 7) 4 = I 102 0) (h : W9 I R) : AM (d + 7) 146 112 [.ref 1, .int v1, .int v2] I J R (fun x _ I1 _ _ => HMe9 R v1 v2 I x I1) := by
  have hO := hR.now.1
  have hS := hR.spare.1
  have hP := hR.plan.1
  obtain ⟨he, hne⟩ := sp_e hR
  have n7 := now_9 hR
  have n9 := n9_p hR
  obtain ⟨q1, q2, q3⟩ := h.1
  have hm := q1.m
  have i0 : (0 : Int32).toInt = 0 := rfl
  have i1 : (1 : Int32).toInt = 1 := rfl
  have i20 : (20 : Int32).toInt = 20 := rfl
  have i9 : (9999 : Int32).toInt = 9999 := rfl
  refine am_X11_mean (fun P hc => ?_)
  have no : ∀ z : Int32, ¬ okM9 v1 v2 I → HMe9 R v1 v2 I 0 (uI I 1 0 z) := fun z hz => ⟨Or.inr ⟨rfl, hz⟩, KS99.of (fun c a _ _ _ => uI_ne a) he, uI_ne (by decide), rd_ne (by decide), uI_ne (by decide), uI_ne (by decide), rd_ne (by decide)⟩
  have ny : ∀ z : Int32, ¬ okM9 v1 v2 I → AM (d + 6) 150 112 [.ref 1, .int z] I J R (fun x1 _ I1 _ _ => (x1 = 0 ∨ x1 = 1) → (((x1 : Int32) = 0 ∨ (x1 : Int32) = 1) ∧ HMe9 R v1 v2 I x1 I1)) := fun z hz => w_X11_deny ⟨Or.inl rfl, fun _ => ⟨Or.inl rfl, no _ hz⟩⟩
  have L : okM9 v1 v2 I → ∀ n : Nat, (∀ (v3 : Int64) (v5 : Int32) (M : Im) (JM : Jm), Bd M → (∀ c, ¬ (R 1 8 ≤ c ∧ c ≤ R 1 8 + 5) → ¬ c = 51 → ¬ c = 52 → M c = I c) → (0 ≤ v5.toInt ∧ v5.toInt ≤ 20) → 30 - v5.toInt < (n : Int) → P 61 112 [(0, .ref 1), (1, .int v1), (2, .int v2), (3, .long v3), (5, .int v5)] [] M JM R) := by
    intro hok n
    obtain ⟨⟨o1, o2⟩, ⟨o3, o4⟩, o5, h52⟩ := id hok
    rw [le_i] at o1 o2 o3 o4
    obtain ⟨s, hg⟩ := q3.2 h52
    have hE := h.ev hB0 h52 hg
    have hs := h.hs
    obtain ⟨g1, g2, g3, g4, g5, g6, g7⟩ := id hg
    have hV : ∀ a, a < dL s → VC9 (I 102 0) (dC s a) := fun a ha => by
      rcases (g2.2.2.2 a ha).2.2 with q | ⟨t, ht, q⟩
      · exact ⟨fun z => by rw [q] at z; exact absurd z (by decide), fun z => by rw [q] at z; exact absurd z (by decide)⟩
      · have := (hE.2.2.2.2 t ht).2.2
        rw [q] at this; exact this
    induction n with
    | zero => exact fun v3 v5 M J _ _ hi hm => absurd hm (by omega)
    | succ n ih =>
      intro v3 v5 M JM hB hM hi hmm
      refine sg_X11_mean_61 hc _ _ _ _ _ _ _ ⟨fun c1 => ?_, fun c1 => ?_⟩
      · refine kpW9 rfl hR rfl (kpL9 rfl hR rfl (k3w rfl rfl rfl hR rfl rfl (sp_X11_tell hB hR (fun x3 y8 I4 J5 hB6 p7 kc kn ka kl kw o9 => ⟨o9, Or.inl ⟨x_one p7, hok⟩, (KS99.of (fun c _ a2 a3 a4 => hM c a2 a3 a4) he).tr kw, kc.1.trans (hM 102 (by omega) (by decide) (by decide)), ka.2.trans (congrFun (hM 97 (by omega) (by decide) (by decide)) 23), KL9.tr ⟨hM 49 (by omega) (by decide) (by decide), hM 112 (by omega) (by decide) (by decide), congrFun (hM 97 (by omega) (by decide) (by decide)) 40⟩ kl⟩))))
      · have d11 : (v5.toInt : Int) < v2.toInt := ci_nle rfl rfl c1
        refine ⟨hR.spare.2, hR.now.2, bif_t hS (kx (px_cpB (Q := fun _ _ I2 J2 _ => (∀ c, ¬ (R 1 8 ≤ c ∧ c ≤ R 1 8 + 5) → I2 c = M c) ∧ I2 (R 1 8) 4 = M (R 1 7) 4 ∧ CpB9 (R 1 8) (R 1 7) M I2) hS hO (by omega) (fun I2 J2 f1 _ y4 _ y1 y3 yst yn => ⟨f1, y4, y1, y3, yst, fun k hk => (yn k hk).2⟩)) (sp_X0_copyFrom hB hR hS hO (fun x12 y17 I13 J14 hB15 p16 fg => ?_)))⟩
        obtain ⟨f1, y4, ycp⟩ := fg
        have c0 : ∀ c, ¬ (R 1 8 ≤ c ∧ c ≤ R 1 8 + 5) → ¬ c = 51 → ¬ c = 52 → I13 c = I c := fun c a1 a2 a3 => (f1 c a1).trans (hM c a1 a2 a3)
        have hb13 : BA99 (R 1 8) (I 102) I13 := (q2.cp (I2 := M) (congrFun (hM (R 1 7) (by omega) (by omega) (by omega)) 1) (congrFun (hM (R 1 7) (by omega) (by omega) (by omega)) 3) (fun c hc => hM c (by omega) (by omega) (by omega))).cy hm.1 ycp
        have m13 : I13 (R 1 8) 4 = I 102 0 := y4.trans ((congrFun (hM (R 1 7) (by omega) (by omega) (by omega)) 4).trans em)
        have s13 : SDc s (R 1 9) I13 := g5.cp (fun c a1 a2 => c0 c (by omega) (by omega) (by omega))
        refine ⟨hR.spare.2, hR.plan.2, ?_⟩
        have run : AM (d + 6) 41 112 [.ref 51, .ref (R 1 8), .ref (R 1 9), .int (v1 + v5)] I13 J14 R (fun _ _ I2 J2 _ => FrLf 51 (R 1 8) I13 J14 I2 J2) :=
          px_run4 (du := du9 I) (od := I 102 1) (m := I 102 0) (M := mnN (I 102)) (st := s9 I) (s := s) rfl hS hP (by omega) (by omega) g1 g2 s13 hV m13 hE.2.1 hb13.1 (fun k hk => ⟨(hb13.2.2.2 k hk).1, (hb13.2.2.2 k hk).2.1⟩) hE.2.2.1 ⟨hb13.2.2.1, fun k hk => (hb13.2.2.2 k hk).2.2, hb13.2.1⟩ (fun I2 _ _ _ _ hF => hF)
        refine kx run (sp_X4_run hB15 hR io9_112_51_4 hS hP (fun x18 y23 I19 J20 hB21 p22 hF => ?_))
        refine ⟨hR.spare.2, bif_t hS ?_⟩
        refine kpp rfl (sp_X0_allHoldings hB21 hR hS (fun x24 y29 I25 J26 hB27 p28 eI eJ _ => ?_))
        subst eI
        have e30 : (v5 + 1 : Int32).toInt = v5.toInt + 1 := ti_add rfl rfl (by omega)
        exact ih _ _ _ _ hB27 (fun c a1 a2 a3 => (hF.c (fun k q => by rcases q with (q | q | q) | q | q <;> omega)).trans (c0 c a1 a2 a3)) (by omega) (by omega)
  refine sg_X11_mean_0 hc _ _ _ _ _ ⟨fun c => ny 5 (fun z => ile.mpr z.1.1 c), fun c1 => ⟨fun c => ny 5 (fun z => ile.mpr z.1.2 c), fun c2 => ⟨fun c => ny 5 (fun z => ile.mpr z.2.1.1 c), fun c3 => ⟨fun c => ny 5 (fun z => ile.mpr z.2.1.2 c), fun c4 => ?_⟩⟩⟩⟩
  have l1 := ile.mp c1
  have l2 := ile.mp c2
  have l3 := ile.mp c3
  have l4 := ile.mp c4
  have l1' := l1
  have l2' := l2
  have l3' := l3
  have l4' := l4
  rw [le_i] at l1' l2' l3' l4'
  have ea : ((v1 + v2) - 1 : Int32).toInt = v1.toInt + v2.toInt - 1 := ti_sub (ti_add rfl rfl (by omega)) i1 (by omega)
  refine ⟨fun c5 => ⟨hR.plan.2, bif_t hP ⟨fun c6 => ?_, fun c6 => ny 8 (fun z => z.2.2.2 (by rw [← q3.1]; exact c6))⟩⟩, fun c5 => ny 5 (fun z => c5 (by rw [le_i, ea, i9]; have := z.2.2.1; omega))⟩
  rw [le_i, ea, i9] at c5
  exact L ⟨⟨l1, l2⟩, ⟨l3, l4⟩, by omega, fun z => c6 (q3.1.trans z)⟩ 40 0 0 I J hB0 (fun _ _ _ _ => rfl) (by decide) (by decide)
theorem px_frac9 {d : Nat} {w1 w3 : Int64} (hb : ¬ w3 = 0) (hQ : ∀ J2, Q 1 0 I J2 R) : AM (d + 1) 179 112 [.ref 97, .long w1, .long w3] I J R Q := by
  refine am_X12_fraction (fun P hc => ?_)
  have L : ∀ n : Nat, ∀ v5 v7 : Int64, v7.toInt.natAbs < n → (¬ v5 = 0 ∨ ¬ v7 = 0) → P 9 112 [(0, .ref 97), (1, .long w1), (3, .long w3), (5, .long v5), (7, .long v7)] [] I J R := by
    intro n
    induction n with
    | zero => intro _ _ h; omega
    | succ n ih =>
      intro v5 v7 hm h5
      refine sg_X12_fraction_9 hc w1 w3 v5 v7 I J R ⟨fun c => ?_, fun c => ?_⟩
      · rw [lg_cmp_eq] at c
        have h5' : ¬ v5 = 0 := h5.resolve_right (fun q => q c)
        exact ⟨h5', h5', Or.inr rfl, hQ _⟩
      · rw [lg_cmp_eq] at c
        exact ⟨c, ih v7 _ (by have := tl_rem_abs (x := v5) c; omega) (Or.inl c)⟩
  exact sg_X12_fraction_0 hc w1 w3 I J R (L (w3.toInt.natAbs + 1) _ _ (Nat.lt_succ_self _) (Or.inr hb))
theorem loaf_n9 : ∀ V, V < 21 → 1 ≤ V → ¬ (Int32.toInt64 (nI V)) * 2329089562800 = 0 := by decide +kernel
set_option maxHeartbeats 1000000 in
theorem mx_mean9 {e : Nat} (hB : Bd I) (hR : RI R) (h : W9 I R) (H1 : HMe9 R v1 v2 I x I1) : AM (e + 84) 315 112 [.ref 97, .int v1, .int v2] I1 J1 R (fun x2 _ I2 _ _ => x2 = x ∧ I2 102 = I 102) := by
  obtain ⟨hX, hK, e102, e23, -⟩ := H1
  obtain ⟨q1, q2, q3⟩ := h.1
  have hm := q1.m
  have i0 : (0 : Int32).toInt = 0 := rfl
  have i1 : (1 : Int32).toInt = 1 := rfl
  have i20 : (20 : Int32).toInt = 20 := rfl
  have i9 : (9999 : Int32).toInt = 9999 := rfl
  have it : (10000 : Int32).toInt = 10000 := rfl
  have t52 : Int32.toNatClampNeg 52 = 52 := rfl
  have t0 : Int32.toNatClampNeg 0 = 0 := rfl
  have v52 : vp_in 52 1620 := vp_of (a := 52) rfl (by decide) (by decide)
  have c102 : uI (uI I1 97 1 0) 97 0 0 102 = I 102 := by rw [uI_ne (by decide), uI_ne (by decide)]; exact e102
  have fail : ¬ okM9 v1 v2 I → ∀ z : Int32, AM (e + 83) 177 112 [.ref 97, .int z] (uI (uI I1 97 1 0) 97 0 0) J1 R (fun x1 _ I2 _ _ => (x1 = 0 ∨ x1 = 1) → (((x1 : Int32) = 0 ∨ (x1 : Int32) = 1) ∧ (x1 = x ∧ I2 102 = I 102))) := fun hn z => by
    have x0 : x = 0 := hX.elim (fun y => absurd y.2 hn) (fun y => y.1)
    exact w_X12_no ⟨Or.inl rfl, fun _ => ⟨Or.inl rfl, x0.symm, (uI_ne (by decide)).trans c102⟩⟩
  refine am_X12_mean (fun P hc => sg_X12_mean_0 hc _ _ _ _ _ (px_isInI (lo := 1) (hi := 20) (fun l3 l4 _ => ⟨fun z => absurd z (by decide), fun _ => ?_⟩) (fun m1 _ => ⟨fun _ => fail (fun z => m1.elim (fun y => ile.mpr z.2.1.1 y) (fun y => y z.2.1.2)) 5, fun z => absurd rfl z⟩)))
  have l3' := l3
  have l4' := l4
  rw [le_i] at l3' l4'
  have e10 : (10000 - v2 : Int32).toInt = 10000 - v2.toInt := ti_sub it rfl (by omega)
  refine px_isInI (lo := 0) (hi := 10000 - v2) (fun l1 l2 _ => ⟨fun _ => ⟨v52, ?_⟩, fun z => absurd z (by decide)⟩) (fun m1 _ => ⟨fun z => absurd rfl z, fun _ => fail (fun z => m1.elim (fun y => ile.mpr z.1.1 y) (fun y => y (by rw [le_i, e10]; have := z.2.2.1; omega))) 5⟩)
  have l1' := l1
  have l2' := l2
  rw [le_i] at l1'
  rw [le_i, e10] at l2'
  rw [t52, c102]
  refine ⟨fun h52 => ?_, fun c52 => fail (fun z => z.2.2.2 c52) 8⟩
  have hok : okM9 v1 v2 I := ⟨⟨l1, by rw [le_i, i9]; omega⟩, ⟨l3, l4⟩, by omega, h52⟩
  have x1 : x = 1 := hX.elim (fun y => y.1) (fun y => absurd hok y.2)
  obtain ⟨s, hg⟩ := q3.2 h52
  have hE := h.ev hB h52 hg
  have hs := h.hs
  obtain ⟨g1, g2, g3, g4, g5, g6, g7⟩ := id hg
  obtain ⟨V, hV, eV⟩ : ∃ V : Nat, (1 ≤ V ∧ V ≤ 20) ∧ v2 = nI V := ⟨v2.toInt.toNat, by omega, Int32.toInt_inj.mp (by rw [nI_toInt (by omega)]; omega)⟩
  have L : ∀ (g k : Nat) (v3 : Int64) (A : Im) (JA : Jm), k + g = V → A 102 = I 102 → (∀ j, j < 52 → A 103 j = I 102 j) → P 91 112 [(0, .ref 97), (1, .int v1), (2, .int v2), (3, .long v3), (5, .int (nI k))] [] A JA R := by
    intro g
    induction g with
    | zero =>
      intro k v3 A JA hk hA _
      refine sg_X12_mean_91 hc _ _ _ _ _ _ _ ⟨fun _ => ?_, fun c => absurd (by rw [eV]; exact (nle_nI (by omega) (by omega)).mpr (by omega)) c⟩
      exact px_frac9 (by rw [eV]; exact loaf_n9 V (by omega) (by omega)) (fun J2 _ => ⟨Or.inr rfl, x1.symm, hA⟩)
    | succ g ih =>
      intro k v3 A JA hk hA h103
      refine sg_X12_mean_91 hc _ _ _ _ _ _ _ ⟨fun c => absurd ((nle_nI (a := V) (b := k) (by omega) (by omega)).mp (by rw [eV] at c; exact c)) (by omega), fun _ => ?_⟩
      have hsd : (v1 + nI k : Int32).toInt = v1.toInt + (k : Int) := ti_add rfl (nI_toInt (by omega)) (by omega)
      have hrA : BkR (mnN (I 102)) (s9 I) A := by
        unfold BkR
        rw [hA]
        exact hs.2.1
      refine px_runs9 (e := e + 3) (q := I 50) (hE.o hA) g1 g2 g3 (by rw [hA]; exact g6) (by omega) hs.2.2.1 hrA (fun B hF hM hRB _ _ => ?_)
      have b103 : ∀ j, j < 52 → B 103 j = I 102 j := fun j hj => (hF.i (fun z => by rcases z with z | z <;> omega)).trans (h103 j hj)
      have bhi : ∀ j, 52 ≤ j → B 102 j = I 102 j := fun j hj => (hF.i (fun z => by rcases z with z | z <;> omega)).trans (congrFun hA j)
      have b0 : B 102 0 = I 102 0 := (hF.i (fun z => by rcases z with z | z <;> omega)).trans (congrFun hA 0)
      have L108 : ∀ (f i : Nat) (w3 : Int64), i + f = mnN (I 102) → P 108 112 [(0, .ref 97), (1, .int v1), (2, .int v2), (3, .long w3), (5, .int (nI k)), (6, .int (nI i))] [] B JA R := by
        intro f
        induction f with
        | zero =>
          intro i w3 hi
          refine sg_X12_mean_108 hc _ _ _ _ _ _ _ _ ⟨vp_of (a := 0) rfl (by decide) (by decide), fun _ => ?_, fun c => absurd (by rw [t0, b0, hm.2.1]; exact (nle_nI (by omega) (by omega)).mpr (by omega)) c⟩
          have L2 : ∀ (f j : Nat) (D : Im), j + f = 52 → (∀ i, i < j → D 102 i = I 102 i) → (∀ i, 52 ≤ i → D 102 i = I 102 i) → (∀ i, i < 52 → D 103 i = I 102 i) → P 144 112 [(0, .ref 97), (1, .int v1), (2, .int v2), (3, .long w3), (5, .int (nI k)), (6, .int (nI j))] [] D JA R := by
            intro f
            induction f with
            | zero =>
              intro j D hj d1 d2 d3
              refine sg_X12_mean_144 hc _ _ _ _ _ _ _ _ ⟨fun _ => ?_, fun c => absurd ((nle_nI (a := 52) (by omega) (by omega)).mpr (by omega)) c⟩
              rw [nI_s1]
              refine ih (k + 1) w3 D JA (by omega) (funext fun i => ?_) d3
              rcases Nat.lt_or_ge i 52 with z | z
              · exact d1 i (by omega)
              · exact d2 i z
            | succ f ih2 =>
              intro j D hj d1 d2 d3
              refine sg_X12_mean_144 hc _ _ _ _ _ _ _ _ ⟨fun c => absurd ((nle_nI (a := 52) (by omega) (by omega)).mp c) (by omega), fun _ => ⟨vp_nI (by omega) (by omega), vp_nI (by omega) (by omega), ?_⟩⟩
              rw [tn_nI (by omega), nI_s1]
              refine ih2 (j + 1) _ (by omega) (fun i hi => ?_) (fun i hi => (rd_k (by omega)).trans (d2 i hi)) (fun i hi => (rd_ne (by decide)).trans (d3 i hi))
              by_cases z : i = j
              · subst z; rw [rd_eq]; exact d3 i (by omega)
              · rw [rd_k z]; exact d1 i (by omega)
          exact L2 52 0 B (by omega) (fun i hi => absurd hi (by omega)) bhi b103
        | succ f ih3 =>
          intro i w3 hi
          have k46 : (46 : Int32) + nI i = nI (46 + i) := by rw [show (46 : Int32) = nI 46 from rfl]; exact nI_add 46 i
          refine sg_X12_mean_108 hc _ _ _ _ _ _ _ _ ⟨vp_of (a := 0) rfl (by decide) (by decide), fun c => absurd ((nle_nI (a := mnN (I 102)) (b := i) (by omega) (by omega)).mp (by rw [t0, b0, hm.2.1] at c; exact c)) (by omega), fun _ => ?_⟩
          rw [k46, tn_nI (by omega), nI_s1]
          refine ⟨vp_nI (by omega) (by omega), px_sumOf ?_ (fun y _ => ih3 (i + 1) _ (by omega))⟩
          rw [hM.1.2.1 i (by omega)]
          exact hRB.1.hv0 i (by omega)
      exact L108 (mnN (I 102)) 0 v3 (by omega)
  have L62 : ∀ (f j : Nat) (A : Im), j + f = 52 → A 102 = I 102 → (∀ i, i < j → A 103 i = I 102 i) → P 62 112 [(0, .ref 97), (1, .int v1), (2, .int v2), (3, .int (nI j))] [] A J1 R := by
    intro f
    induction f with
    | zero =>
      intro j A hj hA d3
      exact sg_X12_mean_62 hc _ _ _ _ _ _ ⟨fun _ => L V 0 0 A J1 (by omega) hA (fun i hi => d3 i (by omega)), fun c => absurd ((nle_nI (a := 52) (by omega) (by omega)).mpr (by omega)) c⟩
    | succ f ih4 =>
      intro j A hj hA d3
      refine sg_X12_mean_62 hc _ _ _ _ _ _ ⟨fun c => absurd ((nle_nI (a := 52) (by omega) (by omega)).mp c) (by omega), fun _ => ⟨vp_nI (by omega) (by omega), vp_nI (by omega) (by omega), ?_⟩⟩
      rw [tn_nI (by omega), nI_s1]
      refine ih4 (j + 1) _ (by omega) ((uI_ne (by decide)).trans hA) (fun i hi => ?_)
      by_cases z : i = j
      · subst z; rw [rd_eq, hA]
      · rw [rd_k z]; exact d3 i (by omega)
  exact L62 52 0 _ (by omega) c102 (fun i hi => absurd hi (by omega))
end W9N
end PT16x0
section PT16x1
/-! ===== the relation of stores: small pieces, its start ===== -/
section W9T
variable {I I1 : Im} {J J1 : Jm} {R : Rm}
theorem W9.mm (h : W9 I R) : (I 102 0).toInt = (mnN (I 102) : Int) ∧ mnN (I 102) ≤ 6 := ⟨h.1.1.m.2.2, h.1.1.m.1⟩
theorem FrCk.z102 {o : Nat} (ho : o = 9 ∨ o = 15) (hF : FrCk o I J I1 J1) : I1 102 0 = I 102 0 := hF.1 102 0 (fun q => by rcases q with (q | q | q) | q <;> omega)
theorem W9.start (e7 : R 1 7 = 9) (e9 : R 1 9 = 21) (h : I 9 1 = 4 ∧ I 9 3 = 0 ∧ (∀ k, I 10 k = 0) ∧ I 21 0 = 0 ∧ ∀ k, k < 324 → I 102 k = emC k) (hm : I 97 23 = 0) : W9 I R := by
  obtain ⟨h1, h2, h3, h4, h5⟩ := h
  have em : mnN (I 102) = 0 := by
    unfold mnN
    rw [h5 0 (by omega)]; rfl
  have ed : ∀ d, 1 ≤ d → d ≤ 30 → I 102 (3 + d) = 0 := fun d a b => by
    rw [h5 (3 + d) (by omega)]
    unfold emC
    rw [if_neg (by omega), if_neg (by omega)]
  refine ⟨?_, fun j hj hk => ?_⟩
  · rw [e7, e9]
    refine ⟨⟨⟨0, by omega, h5 0 (by omega)⟩, fun d a b => ?_, fun k hk => ?_⟩, ⟨?_, ?_, fun d a b => ?_, fun k hk => ?_⟩, ?_, fun h0 => ?_⟩
    · rw [ed d a b]; decide
    · rw [em] at hk; omega
    · rw [h1, h5 1 (by omega)]; rfl
    · rw [h2, h5 2 (by omega)]; rfl
    · rw [ed d a b]; exact h3 d
    · rw [em] at hk; omega
    · rw [h4, h5 52 (by omega)]; rfl
    · exact absurd (h5 52 (by omega)) h0
  · rw [hm, show (0 : Int32).toInt = 0 from rfl] at hk
    omega
end W9T
end PT16x1
section PT16x2
/-! ===== fill(), fillAt(): what they answer ===== -/
theorem an_ge {a b : Int32} (h : 0 ≤ a.toInt) : 0 ≤ (a &&& b).toInt := by
  have e : (a &&& b).toBitVec.msb = (a.toBitVec.msb && b.toBitVec.msb) := by rw [Int32.toBitVec_and]; exact BitVec.msb_and
  have e1 : a.toBitVec.toInt = a.toInt := rfl
  have e2 : (a &&& b).toBitVec.toInt = (a &&& b).toInt := rfl
  have ea : a.toBitVec.msb = false := by rw [BitVec.msb_eq_toInt]; exact decide_eq_false (by omega)
  rw [ea, Bool.false_and, BitVec.msb_eq_toInt] at e
  have := of_decide_eq_false e
  omega
/-- what the store holds and a man has not -/
noncomputable def gf9 (s : StS9) (k : Int32) : Int32 := stR s.1 30 0 &&& (s.2.1 (nn9 k) ^^^ (-1))
noncomputable def fl9 (I : Im) (k : Int32) : Option (List Nat) := fwC (SA (gf9 (s9 I) k)) (lk9 (du9 I) (s9 I).2.1 (nn9 k))
section W9F
variable {I I1 : Im} {J J1 : Jm} {R : Rm} {Q : Qt} {v w : Int32}
/-! the reference -/
end W9F
end PT16x2
section PT16x3
/-! ===== the latest life, carried ===== -/
section LVC
variable {I I2 : Im}
theorem LV9.kp (h : LV9 I) (k : KL9 I I2) : LV9 I2 := by
  unfold LV9 at h ⊢
  rw [k.1, k.2.1, k.2.2]
  exact h
theorem LV9.start (h : I 97 40 = 0) (h2 : I 49 0 = 0) : LV9 I := ⟨h.trans h2.symm, fun z => absurd h2 z⟩
end LVC
end PT16x3
section PT16x4
/-! ===== how many cuts and splits till there is a slice: the numbers ===== -/
noncomputable def tb9 : List (List Nat) := [[1000, 1000, 1000, 1000, 1000, 1000, 1000, 1000, 1000, 1000, 1000, 1000, 1000, 1000, 1000, 1000, 1000, 1000, 1000, 1000, 1000, 1000, 1000, 1000, 1000, 1000, 1000, 1000, 1000, 1000, 1000],
  [1000, 0, 1000, 1000, 1000, 1000, 1000, 1000, 1000, 1000, 1000, 1000, 1000, 1000, 1000, 1000, 1000, 1000, 1000, 1000, 1000, 1000, 1000, 1000, 1000, 1000, 1000, 1000, 1000, 1000, 1000],
  [1000, 1, 0, 1000, 1000, 1000, 1000, 1000, 1000, 1000, 1000, 1000, 1000, 1000, 1000, 1000, 1000, 1000, 1000, 1000, 1000, 1000, 1000, 1000, 1000, 1000, 1000, 1000, 1000, 1000, 1000],
  [1000, 1, 1, 0, 1000, 1000, 1000, 1000, 1000, 1000, 1000, 1000, 1000, 1000, 1000, 1000, 1000, 1000, 1000, 1000, 1000, 1000, 1000, 1000, 1000, 1000, 1000, 1000, 1000, 1000, 1000],
  [1000, 1, 1, 1, 0, 1000, 1000, 1000, 1000, 1000, 1000, 1000, 1000, 1000, 1000, 1000, 1000, 1000, 1000, 1000, 1000, 1000, 1000, 1000, 1000, 1000, 1000, 1000, 1000, 1000, 1000],
  [1000, 1, 2, 2, 1, 0, 1000, 1000, 1000, 1000, 1000, 1000, 1000, 1000, 1000, 1000, 1000, 1000, 1000, 1000, 1000, 1000, 1000, 1000, 1000, 1000, 1000, 1000, 1000, 1000, 1000],
  [1000, 1, 1, 1, 1, 1, 0, 1000, 1000, 1000, 1000, 1000, 1000, 1000, 1000, 1000, 1000, 1000, 1000, 1000, 1000, 1000, 1000, 1000, 1000, 1000, 1000, 1000, 1000, 1000, 1000],
  [1000, 1, 1000, 1000, 1000, 1000, 1000, 0, 1000, 1000, 1000, 1000, 1000, 1000, 1000, 1000, 1000, 1000, 1000, 1000, 1000, 1000, 1000, 1000, 1000, 1000, 1000, 1000, 1000, 1000, 1000],
  [1000, 1, 1, 2, 1, 2, 1, 1000, 0, 1000, 1000, 1000, 1000, 1000, 1000, 1000, 1000, 1000, 1000, 1000, 1000, 1000, 1000, 1000, 1000, 1000, 1000, 1000, 1000, 1000, 1000],
  [1000, 1, 2, 1, 2, 2, 1, 1000, 1000, 0, 1000, 1000, 1000, 1000, 1000, 1000, 1000, 1000, 1000, 1000, 1000, 1000, 1000, 1000, 1000, 1000, 1000, 1000, 1000, 1000, 1000],
  [1000, 1, 1, 2, 2, 1, 1, 1000, 1000, 1000, 0, 1000, 1000, 1000, 1000, 1000, 1000, 1000, 1000, 1000, 1000, 1000, 1000, 1000, 1000, 1000, 1000, 1000, 1000, 1000, 1000],
  [1000, 1, 1000, 1000, 1000, 1000, 1000, 1000, 1000, 1000, 1000, 0, 1000, 1000, 1000, 1000, 1000, 1000, 1000, 1000, 1000, 1000, 1000, 1000, 1000, 1000, 1000, 1000, 1000, 1000, 1000],
  [1000, 1, 1, 1, 1, 2, 1, 1000, 1, 1000, 1000, 1000, 0, 1000, 1000, 1000, 1000, 1000, 1000, 1000, 1000, 1000, 1000, 1000, 1000, 1000, 1000, 1000, 1000, 1000, 1000],
  [1000, 1, 1000, 1000, 1000, 1000, 1000, 1000, 1000, 1000, 1000, 1000, 1000, 0, 1000, 1000, 1000, 1000, 1000, 1000, 1000, 1000, 1000, 1000, 1000, 1000, 1000, 1000, 1000, 1000, 1000],
  [1000, 1, 1, 1000, 1000, 1000, 1000, 1, 1000, 1000, 1000, 1000, 1000, 1000, 0, 1000, 1000, 1000, 1000, 1000, 1000, 1000, 1000, 1000, 1000, 1000, 1000, 1000, 1000, 1000, 1000],
  [1000, 1, 2, 1, 2, 1, 1, 1000, 1000, 1000, 1, 1000, 1000, 1000, 1000, 0, 1000, 1000, 1000, 1000, 1000, 1000, 1000, 1000, 1000, 1000, 1000, 1000, 1000, 1000, 1000],
  [1000, 1, 1, 2, 1, 3, 2, 1000, 1, 1000, 1000, 1000, 1000, 1000, 1000, 1000, 0, 1000, 1000, 1000, 1000, 1000, 1000, 1000, 1000, 1000, 1000, 1000, 1000, 1000, 1000],
  [1000, 1, 1000, 1000, 1000, 1000, 1000, 1000, 1000, 1000, 1000, 1000, 1000, 1000, 1000, 1000, 1000, 0, 1000, 1000, 1000, 1000, 1000, 1000, 1000, 1000, 1000, 1000, 1000, 1000, 1000],
  [1000, 1, 1, 1, 2, 2, 1, 1000, 1000, 1, 1000, 1000, 1000, 1000, 1000, 1000, 1000, 1000, 0, 1000, 1000, 1000, 1000, 1000, 1000, 1000, 1000, 1000, 1000, 1000, 1000],
  [1000, 1, 1000, 1000, 1000, 1000, 1000, 1000, 1000, 1000, 1000, 1000, 1000, 1000, 1000, 1000, 1000, 1000, 1000, 0, 1000, 1000, 1000, 1000, 1000, 1000, 1000, 1000, 1000, 1000, 1000],
  [1000, 1, 1, 2, 1, 1, 2, 1000, 2, 1000, 1, 1000, 1, 1000, 1000, 1000, 1000, 1000, 1000, 1000, 0, 1000, 1000, 1000, 1000, 1000, 1000, 1000, 1000, 1000, 1000],
  [1000, 1, 2, 1, 2, 3, 2, 1, 2, 1000, 1000, 1000, 1, 1000, 1000, 1000, 1000, 1000, 1000, 1000, 1000, 0, 1000, 1000, 1000, 1000, 1000, 1000, 1000, 1000, 1000],
  [1000, 1, 1, 1000, 1000, 1000, 1000, 1000, 1000, 1000, 1000, 1, 1000, 1000, 1000, 1000, 1000, 1000, 1000, 1000, 1000, 1000, 0, 1000, 1000, 1000, 1000, 1000, 1000, 1000, 1000],
  [1000, 1, 1000, 1000, 1000, 1000, 1000, 1000, 1000, 1000, 1000, 1000, 1000, 1000, 1000, 1000, 1000, 1000, 1000, 1000, 1000, 1000, 1000, 0, 1000, 1000, 1000, 1000, 1000, 1000, 1000],
  [1000, 1, 1, 1, 1, 2, 1, 1000, 1, 1000, 1000, 1000, 1, 1000, 1000, 1000, 1000, 1000, 1000, 1000, 1000, 1000, 1000, 1000, 0, 1000, 1000, 1000, 1000, 1000, 1000],
  [1000, 1, 3, 3, 2, 1, 1000, 1000, 1000, 1000, 1000, 1000, 1000, 1000, 1000, 1000, 1000, 1000, 1000, 1000, 1000, 1000, 1000, 1000, 1000, 0, 1000, 1000, 1000, 1000, 1000],
  [1000, 1, 1, 1000, 1000, 1000, 1000, 1000, 1000, 1000, 1000, 1000, 1000, 1, 1000, 1000, 1000, 1000, 1000, 1000, 1000, 1000, 1000, 1000, 1000, 1000, 0, 1000, 1000, 1000, 1000],
  [1000, 1, 2, 1, 3, 3, 2, 1000, 1000, 1, 1000, 1000, 1000, 1000, 1000, 1000, 1000, 1000, 1000, 1000, 1000, 1000, 1000, 1000, 1000, 1000, 1000, 0, 1000, 1000, 1000],
  [1000, 1, 1, 2, 1, 3, 2, 1, 2, 1000, 1000, 1000, 1, 1000, 1, 1000, 1000, 1000, 1000, 1000, 1000, 1000, 1000, 1000, 1000, 1000, 1000, 1000, 0, 1000, 1000],
  [1000, 1, 1000, 1000, 1000, 1000, 1000, 1000, 1000, 1000, 1000, 1000, 1000, 1000, 1000, 1000, 1000, 1000, 1000, 1000, 1000, 1000, 1000, 1000, 1000, 1000, 1000, 1000, 1000, 0, 1000],
  [1000, 1, 1, 1, 2, 1, 1, 1000, 2, 1000, 1, 1000, 1, 1000, 1000, 1, 1000, 1000, 1000, 1000, 1000, 1000, 1000, 1000, 1000, 1000, 1000, 1000, 1000, 1000, 0]]
/-- the fewest till there is a t, from an s on (1000: never); the next slice then -/
noncomputable def e9 (t s : Nat) : Nat := (tb9.getD t []).getD s 1000
section RC9
variable {t s p a b : Nat}
end RC9
section RCX
variable {I : Im} {J : Jm} {R : Rm} {Q : Qt}
end RCX
end PT16x4
section PT16x5
/-! ===== reach(), reachAt(): what they answer ===== -/
theorem inS_or9 {x : Int32} {d k : Nat} (hx : 0 ≤ x.toInt ∧ x.toInt < 1073741824) (d1 : 1 ≤ d) (d2 : d ≤ 30) (k1 : 1 ≤ k) (k2 : k ≤ 30) : inS (x ||| biS (nI d)) (nI k) = (inS x (nI k) || decide (k = d)) := by
  have a1 : (1 : Int32) ≤ nI d := (nle_nI (a := 1) (by omega) (by omega)).mpr d1
  have a2 : nI d ≤ (30 : Int32) := (nle_nI (b := 30) (by omega) (by omega)).mpr d2
  have hb := bi_in hx a1 a2
  have hd : (nI d - 1).toInt = ((d - 1 : Nat) : Int) := by
    rw [show nI d - 1 = nI (d - 1) from nI_sub (b := 1) (by omega) d1]
    exact nI_toInt (by omega)
  have hk : (nI k - 1).toInt = ((k - 1 : Nat) : Int) := by
    rw [show nI k - 1 = nI (k - 1) from nI_sub (b := 1) (by omega) k1]
    exact nI_toInt (by omega)
  rw [inS_tb hb.1 (show k - 1 < 30 by omega) hk, inS_tb hx.1 (show k - 1 < 30 by omega) hk, or_tb hx (show d - 1 < 30 by omega) hd]
  by_cases q : k = d
  · subst q
    rw [tb_or2, decide_eq_true rfl, Bool.or_true]
  · rw [tb_ne (by omega), decide_eq_false q, Bool.or_false]
section W9C
variable {I I1 : Im} {J J1 : Jm} {R : Rm} {v w : Int32}
end W9C
end PT16x5
section PT16x6
/-! ===== the trays' numbers: the scribe's ===== -/
/-- a number as a tray of a sort holds it -/
noncomputable def trm9 (s : Int32) (v : Int64) : Int64 := if s = 0 then Int32.toInt64 (Int32.toInt8 (Int64.toInt32 v)).toInt32 else if s = 1 then Int32.toInt64 (Int32.toInt16 (Int64.toInt32 v)).toInt32 else if s = 2 then Int32.toInt64 (Int64.toInt32 v) else v
noncomputable def tr9 (a : Int32) : Prop := 0 ≤ a.toInt ∧ a.toInt ≤ 3
noncomputable def okP9 (L : Nat → Int32) (a b : Int32) : Prop := tr9 a ∧ 0 ≤ b.toInt ∧ b.toInt < (L (nn9 a)).toInt
noncomputable def okT9 (a b c : Int32) : Prop := tr9 a ∧ (0 ≤ b.toInt ∧ b.toInt ≤ 3) ∧ 0 ≤ c.toInt ∧ c.toInt ≤ 60
noncomputable def trL9 (I : Im) (t : Nat) : Int32 := I (53 + 2 * t) 1
noncomputable def trS9 (I : Im) (t : Nat) : Int32 := I (53 + 2 * t) 0
theorem tr9_n {a : Int32} (h : tr9 a) : nn9 a < 4 ∧ vp_in a 4 := by
  obtain ⟨h1, h2⟩ := h
  exact ⟨by show a.toInt.toNat < 4; omega, vp_of (a := a.toInt) rfl (by omega) (by omega)⟩
section TRC
variable {I : Im} {J : Jm} {R : Rm} {Q : Qt}
theorem px_tr9 {d : Nat} {v : Int32} (hY : tr9 v → Q 1 0 I J R) (hN : ¬ tr9 v → Q 0 0 I J R) : AM (d + 1) 160 112 [.int v] I J R Q := by
  have z0 : (0 : Int32).toInt = 0 := rfl
  have z4 : (4 : Int32).toInt = 4 := rfl
  refine w_X11_isTray ⟨fun c => ⟨Or.inl rfl, hN (fun z => ?_)⟩, fun c1 => ⟨fun c2 => ⟨Or.inl rfl, hN (fun z => ?_)⟩, fun c2 => ⟨Or.inr rfl, hY ?_⟩⟩⟩
  · rw [Int32.lt_iff_toInt_lt, z0] at c; have := z.1; omega
  · rw [le_i, z4] at c2; have := z.2; omega
  · rw [Int32.lt_iff_toInt_lt, z0] at c1
    rw [le_i, z4] at c2
    exact ⟨by omega, by omega⟩
/-- the tray's object -/
theorem tr9_o (hR : RI R) {a : Int32} (h : tr9 a) : vp_in a 4 ∧ (¬ R 2 (Int32.toNatClampNeg a) = 0 ∧ isO 112 (R 2 (Int32.toNatClampNeg a)) 10 = true) ∧ R 2 (Int32.toNatClampNeg a) = 53 + 2 * nn9 a := by
  obtain ⟨n4, v4⟩ := tr9_n h
  have n4' : Int32.toNatClampNeg a < 4 := n4
  exact ⟨v4, hR.tray _ (by omega), hR.tr _ n4'⟩
theorem px_tst9 {d : Nat} {v : Int32} (hR : RI R) (hY : tr9 v → 0 ≤ (trL9 I (nn9 v)).toInt → Q 0 0 I J R) (hN : ¬ (tr9 v ∧ 0 ≤ (trL9 I (nn9 v)).toInt) → ∀ x : Int32, ¬ x = 0 → Q x 0 I J R) : AM (d + 2) 156 112 [.ref 1, .int v] I J R Q := by
  have z0 : (0 : Int32).toInt = 0 := rfl
  refine w_X11_trayStatus (px_tr9 (fun h _ => ⟨fun _ => ?_, fun z => absurd z (by decide)⟩) (fun h _ => ⟨fun z => absurd rfl z, fun _ => hN (fun z => h z.1) 1 (by decide)⟩))
  obtain ⟨v4, ⟨r0, rO⟩, rt⟩ := tr9_o hR h
  refine ⟨v4, r0, bif_t rO (w_X10_isMissing (bif_t rO ⟨fun c => ⟨Or.inl rfl, fun _ => ⟨fun _ => hY h ?_, fun z => absurd rfl z⟩⟩, fun c => ⟨Or.inr rfl, fun _ => ⟨fun z => absurd z (by decide), fun _ => hN (fun z => c ?_) 3 (by decide)⟩⟩⟩))⟩
  · rw [rt, le_i, z0] at c; exact c
  · rw [rt, le_i, z0]; exact z.2
theorem px_hp9 {d o : Nat} {a b : Int32} (hO : isO 112 o 10 = true) (hY : 0 ≤ a.toInt ∧ 0 ≤ b.toInt ∧ a.toInt + b.toInt ≤ (I o 1).toInt → Q 1 0 I J R) (hN : ¬ (0 ≤ a.toInt ∧ 0 ≤ b.toInt ∧ a.toInt + b.toInt ≤ (I o 1).toInt) → Q 0 0 I J R) : AM (d + 1) 97 112 [.ref o, .int a, .int b] I J R Q := by
  have z0 : (0 : Int32).toInt = 0 := rfl
  have ia := i32 a
  have ib := i32 b
  have ea : (Int32.toInt64 a).toInt = a.toInt := tl_i2l rfl
  have eb : (Int32.toInt64 b).toInt = b.toInt := tl_i2l rfl
  have el : (Int32.toInt64 (I o 1)).toInt = (I o 1).toInt := tl_i2l rfl
  have es : (Int32.toInt64 a + Int32.toInt64 b).toInt = a.toInt + b.toInt := tl_add ea eb (by omega)
  refine w_X10_hasPlaces ⟨fun c => ⟨Or.inl rfl, hN (fun z => ?_)⟩, fun c1 => ⟨fun c => ⟨Or.inl rfl, hN (fun z => ?_)⟩, fun c2 => bif_t hO ⟨fun c => ⟨Or.inl rfl, hN (fun z => ?_)⟩, fun c => ⟨Or.inr rfl, hY ?_⟩⟩⟩⟩
  · rw [Int32.lt_iff_toInt_lt, z0] at c; have := z.1; omega
  · rw [Int32.lt_iff_toInt_lt, z0] at c; have := z.2.1; omega
  · rw [lg_cmp_gt] at c
    have := cl_lt el es c
    have := z.2.2
    omega
  · rw [lg_cmp_gt] at c
    have := cl_nlt el es c
    rw [Int32.lt_iff_toInt_lt, z0] at c1 c2
    exact ⟨by omega, by omega, by omega⟩
theorem px_pl9 {d : Nat} {a b : Int32} (hR : RI R) (hY : okP9 (trL9 I) a b → Q 0 0 I J R) (hN : ¬ okP9 (trL9 I) a b → ∀ x : Int32, ¬ x = 0 → Q x 0 I J R) : AM (d + 3) 157 112 [.ref 1, .int a, .int b] I J R Q := by
  have z1 : (1 : Int32).toInt = 1 := rfl
  refine w_X11_placeStatus (px_tst9 hR (fun h hl => ⟨fun _ => ?_, fun z => absurd rfl z⟩) (fun h x hx => ⟨fun z => absurd z hx, fun _ => hN (fun y => h ⟨y.1, by have := y.2.1; have := y.2.2; omega⟩) x hx⟩))
  obtain ⟨v4, ⟨r0, rO⟩, rt⟩ := tr9_o hR h
  have eL : (I (R 2 (Int32.toNatClampNeg a)) 1).toInt = (trL9 I (nn9 a)).toInt := by rw [rt]; rfl
  refine ⟨v4, r0, bif_t rO (px_hp9 rO (fun q _ => ⟨fun z => absurd z (by decide), fun _ => hY ⟨h, ?_⟩⟩) (fun q _ => ⟨fun _ => hN (fun y => q ?_) 4 (by decide), fun z => absurd rfl z⟩))⟩
  · rw [eL, z1] at q
    exact ⟨q.1, by omega⟩
  · rw [eL, z1]
    have := y.2.1
    have := y.2.2
    exact ⟨by omega, by omega, by omega⟩
theorem px_put9 {d o : Nat} {p : Int32} {v : Int64} (hB : Bd I) (hO : isO 112 o 10 = true) (hY : 0 ≤ p.toInt ∧ p.toInt < (I o 1).toInt → Q 0 0 I (uJ J (o + 1) (nn9 p) (trm9 (I o 0) v)) R) (hN : ¬ (0 ≤ p.toInt ∧ p.toInt < (I o 1).toInt) → Q 0 0 I J R) : AM (d + 2) 98 112 [.ref o, .int p, .long v] I J R Q := by
  obtain ⟨a1, l1, -⟩ := fa_10_2 hO
  have z1 : (1 : Int32).toInt = 1 := rfl
  have hb := Bd.o hB hO bd9_10_1
  refine w_X10_put (bif_t hO (px_hp9 hO (fun h _ => ⟨fun z => absurd z (by decide), fun _ => ?_⟩) (fun h _ => ⟨fun _ => hN (fun z => h (by rw [z1]; exact ⟨z.1, by decide, by omega⟩)), fun z => absurd rfl z⟩)))
  rw [z1] at h
  have key := hY ⟨h.1, by omega⟩
  have vp : vp_in p (aL (o + 1)) := by rw [l1]; exact vp_of (a := p.toInt) rfl h.1 (by omega)
  unfold trm9 at key
  refine bif_t hO (bif_t hO ⟨fun s0 => bif_t hO ⟨fun s1 => bif_t hO ⟨fun s2 => bif_t a1 ⟨vp, ?_⟩, fun s2 => bif_t a1 ⟨vp, ?_⟩⟩, fun s1 => bif_t a1 ⟨vp, ?_⟩⟩, fun s0 => bif_t a1 ⟨vp, ?_⟩⟩)
  · rw [if_neg s0, if_neg s1, if_neg s2] at key; exact key
  · rw [if_neg s0, if_neg s1, if_pos s2] at key; exact key
  · rw [if_neg s0, if_pos s1] at key; exact key
  · rw [if_pos s0] at key; exact key
/-- write(): the tray's number -/
noncomputable def HWr9 (I : Im) (J : Jm) (a b : Int32) (v : Int64) (J1 : Jm) : Prop := (okP9 (trL9 I) a b → J1 = uJ J (53 + 2 * nn9 a + 1) (nn9 b) (trm9 (trS9 I (nn9 a)) v)) ∧ (¬ okP9 (trL9 I) a b → J1 = J)
theorem cx_write9 {d : Nat} {a b : Int32} {v : Int64} (hB : Bd I) (hR : RI R) : AM (d + 4) 104 112 [.ref 1, .int a, .int b, .long v] I J R (fun _ _ _ J1 _ => HWr9 I J a b v J1) := by
  refine w_X11_write (px_pl9 hR (fun hk => ⟨fun _ => ?_, fun z => absurd rfl z⟩) (fun hk x hx => ⟨fun z => absurd z hx, fun _ => w_X11_deny ⟨Or.inl rfl, fun _ => ⟨Or.inl rfl, ⟨fun z => absurd z hk, fun _ => rfl⟩⟩⟩⟩))
  obtain ⟨v4, ⟨r0, rO⟩, rt⟩ := tr9_o hR hk.1
  have eL : (I (R 2 (Int32.toNatClampNeg a)) 1).toInt = (trL9 I (nn9 a)).toInt := by rw [rt]; rfl
  refine ⟨v4, r0, bif_t rO (px_put9 hB rO (fun h => w_X11_allow ⟨Or.inr rfl, fun _ => ⟨Or.inr rfl, ⟨fun _ => ?_, fun z => absurd hk z⟩⟩⟩) (fun h => absurd ?_ h))⟩
  · rw [rt]; rfl
  · rw [eL]; exact hk.2
/-- read() -/
noncomputable def HRd9 (L : Nat → Int32) (X : Nat → Nat → Int64) (a b : Int32) (y : Int64) : Prop := (okP9 L a b → y = X (nn9 a) (nn9 b)) ∧ (¬ okP9 L a b → y = -1)
/-- a row of longs filled -/
theorem px_fillL9 {d o : Nat} {v : Int64} (a1 : isA 112 o 1 = true) (l1 : aL o = 60) (hQ : ∀ J2 : Jm, (∀ k, k < 60 → J2 o k = v) → (∀ c, ¬ c = o → J2 c = J c) → Q 0 0 I J2 R) : AM (d + 1) 320 112 [.ref o, .long v] I J R Q := by
  refine am_J7_fill_d0a16 (fun P hc => ?_)
  have e60 : Int32.ofNat (aL o) = nI 60 := by rw [l1]; rfl
  have L : ∀ (f : Nat) (M : Jm), f ≤ 60 → (∀ k, k < 60 - f → M o k = v) → (∀ c, ¬ c = o → M c = J c) → P 6 112 [(0, .ref o), (1, .long v), (3, .int (nI (60 - f))), (4, .int (Int32.ofNat (aL o)))] [] I M R := by
    intro f
    induction f with
    | zero =>
      intro M _ h1 h2
      refine sg_J7_fill_d0a16_6 hc _ _ _ _ _ _ _ ⟨fun _ => hQ M h1 h2, fun c => ?_⟩
      rw [e60] at c
      exact absurd ((nle_nI (a := 60) (b := 60 - 0) (by omega) (by omega)).mpr (by omega)) c
    | succ f ih =>
      intro M hf h1 h2
      refine sg_J7_fill_d0a16_6 hc _ _ _ _ _ _ _ ⟨fun c => ?_, fun _ => bif_t a1 ⟨by rw [l1]; exact vp_nI (by omega) (by omega), ?_⟩⟩
      · rw [e60] at c
        exact absurd ((nle_nI (a := 60) (b := 60 - (f + 1)) (by omega) (by omega)).mp c) (by omega)
      · rw [tn_nI (by omega), show nI (60 - (f + 1)) + 1 = nI (60 - f) from by rw [nI_k1]; exact congrArg nI (by omega)]
        refine ih _ (by omega) (fun k hk => ?_) (fun c hc => (uJ_ne hc).trans (h2 c hc))
        by_cases q : k = 60 - (f + 1)
        · subst q; exact rj_eq
        · rw [rj_k q]; exact h1 k (by omega)
  have go : P 6 112 [(0, .ref o), (1, .long v), (3, .int 0), (4, .int (Int32.ofNat (aL o)))] [] I J R := L 60 J (by decide) (fun k hk => absurd hk (by omega)) (fun _ _ => rfl)
  refine sg_J7_fill_d0a16_0 hc _ _ _ _ _ ?_
  cases q : isA 112 o 0 with
  | true => exact go
  | false => exact bif_t a1 go
/-- tray() -/
noncomputable def HTr9 (J : Jm) (a b c : Int32) (J1 : Jm) : Prop := (okT9 a b c → (∀ k, k < 60 → J1 (53 + 2 * nn9 a + 1) k = 0) ∧ ∀ o, ¬ o = 53 + 2 * nn9 a + 1 → J1 o = J o) ∧ (¬ okT9 a b c → J1 = J)
theorem cx_tray9 {d : Nat} {a b c : Int32} (hR : RI R) : AM (d + 3) 103 112 [.ref 1, .int a, .int b, .int c] I J R (fun _ _ _ J1 _ => HTr9 J a b c J1) := by
  have z0 : (0 : Int32).toInt = 0 := rfl
  have z3 : (3 : Int32).toInt = 3 := rfl
  have z60 : (60 : Int32).toInt = 60 := rfl
  have no : ¬ okT9 a b c → ∀ s : Int32, AM (d + 2) 150 112 [.ref 1, .int s] I J R (fun x _ _ J1 _ => (x = 0 ∨ x = 1) → (((x : Int32) = 0 ∨ (x : Int32) = 1) ∧ HTr9 J a b c J1)) := fun hn s => w_X11_deny ⟨Or.inl rfl, fun _ => ⟨Or.inl rfl, fun z => absurd z hn, fun _ => rfl⟩⟩
  refine w_X11_tray (px_tr9 (fun h _ => ⟨fun z => absurd z (by decide), fun _ => ⟨fun q => no (fun z => ?_) 1, fun q1 => ⟨fun q2 => ⟨fun q3 => ⟨fun q4 => ?_, fun q4 => no (fun z => ?_) 6⟩, fun q3 => no (fun z => ?_) 5⟩, fun q2 => no (fun z => ?_) 1⟩⟩⟩) (fun h _ => ⟨fun _ => no (fun z => h z.1) 1, fun z => absurd rfl z⟩))
  · rw [Int32.lt_iff_toInt_lt, z0] at q; have := z.2.1.1; omega
  · rw [Int32.lt_iff_toInt_lt, z0] at q1
    rw [le_i, z3] at q2
    rw [le_i, z60] at q3
    rw [le_i, z0] at q4
    have hk : okT9 a b c := ⟨h, ⟨by omega, q2⟩, q4, q3⟩
    obtain ⟨v4, ⟨r0, rO⟩, rt⟩ := tr9_o hR h
    obtain ⟨a1, l1, -⟩ := fa_10_2 rO
    refine ⟨v4, r0, bif_t rO (w_X10_lay (bif_t rO (bif_t rO (bif_t rO (px_fillL9 a1 l1 (fun J2 h1 h2 => w_X11_allow ⟨Or.inr rfl, fun _ => ⟨Or.inr rfl, fun _ => ?_, fun z => absurd hk z⟩⟩))))))⟩
    rw [rt] at h1 h2
    exact ⟨h1, h2⟩
  · rw [le_i, z0] at q4; exact q4 z.2.2.1
  · rw [le_i, z60] at q3; exact q3 z.2.2.2
  · rw [le_i, z3] at q2; exact q2 z.2.1.2
end TRC
end PT16x6
section PT16x7
/-! ===== the trays' numbers: copyStore(), pour(), the scribe's ===== -/
noncomputable def okCs9 (L : Nat → Int32) (a b : Int32) : Prop := tr9 a ∧ (0 ≤ b.toInt ∧ b.toInt ≤ 30) ∧ b.toInt ≤ (L (nn9 a)).toInt
noncomputable def okU9 (L S : Nat → Int32) (a p b q n : Int32) : Prop := (tr9 a ∧ tr9 b) ∧ S (nn9 a) = S (nn9 b) ∧ (0 ≤ p.toInt ∧ 0 ≤ q.toInt ∧ 0 ≤ n.toInt) ∧ p.toInt + n.toInt ≤ (L (nn9 a)).toInt ∧ q.toInt + n.toInt ≤ (L (nn9 b)).toInt
/-- copyStore(): the tray's numbers -/
noncomputable def HCs9 (L S : Nat → Int32) (ST : Nat → Int32) (J : Jm) (a b : Int32) (J1 : Jm) : Prop := (okCs9 L a b → (∀ k, J1 (53 + 2 * nn9 a + 1) k = if k < nn9 b then trm9 (S (nn9 a)) (Int32.toInt64 (ST (k + 1))) else J (53 + 2 * nn9 a + 1) k) ∧ ∀ o, ¬ o = 53 + 2 * nn9 a + 1 → J1 o = J o) ∧ (¬ okCs9 L a b → J1 = J)
noncomputable def HPo9 (L S : Nat → Int32) (J : Jm) (a p b q n : Int32) (J1 : Jm) : Prop := (okU9 L S a p b q n → (∀ k, J1 (53 + 2 * nn9 b + 1) k = if nn9 q ≤ k ∧ k < nn9 q + nn9 n then J (53 + 2 * nn9 a + 1) (nn9 p + (k - nn9 q)) else J (53 + 2 * nn9 b + 1) k) ∧ ∀ o, ¬ o = 53 + 2 * nn9 b + 1 → J1 o = J o) ∧ (¬ okU9 L S a p b q n → J1 = J)
theorem cJ_v9 {J : Jm} {a0 a1 sp dp n k : Nat} : cJ J a0 a1 sp dp n a1 k = if dp ≤ k ∧ k < dp + n then J a0 (sp + (k - dp)) else J a1 k := by
  unfold cJ va_cpy
  rw [if_pos rfl]
section TRU
variable {I : Im} {J : Jm} {R : Rm} {Q : Qt}
theorem cx_copy9 {d : Nat} {a b : Int32} (hB : Bd I) (hR : RI R) : AM (d + 4) 117 112 [.ref 1, .int a, .int b] I J R (fun _ _ _ J1 _ => HCs9 (trL9 I) (trS9 I) (I (R 1 7 + 1)) J a b J1) := by
  have hO := hR.now.1
  obtain ⟨s1, sl, -⟩ := fa_0_0 hO
  have z0 : (0 : Int32).toInt = 0 := rfl
  have z30 : (30 : Int32).toInt = 30 := rfl
  refine am_X11_copyStore (fun P hc => ?_)
  have no : ¬ okCs9 (trL9 I) a b → ∀ s : Int32, AM (d + 3) 149 112 [.ref 1, .int s] I J R (fun x y I1 J1 R1 => HCs9 (trL9 I) (trS9 I) (I (R 1 7 + 1)) J a b J1) := fun hn s => w_X11_refuse ⟨fun z => absurd z hn, fun _ => rfl⟩
  refine sg_X11_copyStore_0 hc _ _ _ _ _ (w_X11_placesStatus (px_tst9 hR (fun h hl => ⟨fun _ => ?_, fun z => absurd rfl z⟩) (fun h x hx => ⟨fun z => absurd z hx, fun _ => ⟨fun z => absurd z hx, fun _ => no (fun y => h ⟨y.1, by have := y.2.1.1; have := y.2.2; omega⟩) x⟩⟩)))
  obtain ⟨v4, ⟨r0, rO⟩, rt⟩ := tr9_o hR h
  obtain ⟨a1, l1, -⟩ := fa_10_2 rO
  have hb := Bd.o hB rO bd9_10_1
  have eL : (I (R 2 (Int32.toNatClampNeg a)) 1).toInt = (trL9 I (nn9 a)).toInt := by rw [rt]; rfl
  refine ⟨v4, r0, bif_t rO ⟨fun c1 => ⟨fun _ => ⟨fun c => no (fun z => ?_) 5, fun c2 => ⟨fun c3 => ?_, fun c3 => no (fun z => ?_) 5⟩⟩, fun z => absurd rfl z⟩, fun c1 => ⟨fun z => absurd z (by decide), fun _ => no (fun z => ?_) 4⟩⟩⟩
  · rw [Int32.lt_iff_toInt_lt, z0] at c; have := z.2.1.1; omega
  · rw [le_i, eL] at c1
    rw [Int32.lt_iff_toInt_lt, z0] at c2
    rw [le_i, z30] at c3
    have hk : okCs9 (trL9 I) a b := ⟨h, ⟨by omega, c3⟩, c1⟩
    have nb : (nn9 b : Int) = b.toInt := by show (b.toInt.toNat : Int) = b.toInt; omega
    have eb : b = nI (nn9 b) := Int32.toInt_inj.mp (by rw [nI_toInt (by omega)]; omega)
    generalize nn9 b = n at nb eb
    have L : ∀ (f : Nat) (M : Jm), f ≤ n → (∀ k, M (53 + 2 * nn9 a + 1) k = if k < n - f then trm9 (trS9 I (nn9 a)) (Int32.toInt64 (I (R 1 7 + 1) (k + 1))) else J (53 + 2 * nn9 a + 1) k) → (∀ o, ¬ o = 53 + 2 * nn9 a + 1 → M o = J o) → P 36 112 [(0, .ref 1), (1, .int a), (2, .int b), (4, .int (nI (n + 1 - f)))] [] I M R := by
      intro f
      induction f with
      | zero =>
        intro M _ h1 h2
        refine sg_X11_copyStore_36 hc _ _ _ _ _ _ ⟨fun _ => w_X11_answer ⟨fun _ => ⟨?_, h2⟩, fun z => absurd hk z⟩, fun c => ?_⟩
        · have en : nn9 b = n := by rw [eb]; exact tn_nI (by omega)
          rw [en]; exact h1
        · rw [eb] at c
          exact absurd ((nlt_nI (b := n + 1 - 0) (by omega) (by omega)).mpr (by omega)) c
      | succ f ih =>
        intro M hf h1 h2
        have ed : n + 1 - (f + 1) = n - f := by omega
        rw [ed]
        have e1 : nI (n - f) - 1 = nI (n - f - 1) := nI_sub (b := 1) (by omega) (by omega)
        have en : nI (n - f) + 1 = nI (n + 1 - f) := by rw [nI_k1]; exact congrArg nI (by omega)
        refine sg_X11_copyStore_36 hc _ _ _ _ _ _ ⟨fun c => ?_, fun _ => ⟨v4, r0, hR.now.2, bif_t hO (bif_t s1 ⟨by rw [sl]; exact vp_nI (by omega) (by omega), bif_t rO ?_⟩)⟩⟩
        · rw [eb] at c
          exact absurd ((nlt_nI (by omega) (by omega)).mp c) (by omega)
        · rw [e1, en, tn_nI (by omega)]
          refine px_put9 hB rO (fun _ => ?_) (fun z => absurd (show 0 ≤ (nI (n - f - 1)).toInt ∧ (nI (n - f - 1)).toInt < (I (R 2 (Int32.toNatClampNeg a)) 1).toInt from by
            rw [eL, nI_toInt (by omega)]
            exact ⟨by omega, by omega⟩) z)
          have e3 : nn9 (nI (n - f - 1)) = n - f - 1 := tn_nI (by omega)
          rw [e3, rt]
          refine ih _ (by omega) (fun k => ?_) (fun o ho => (uJ_ne ho).trans (h2 o ho))
          by_cases q : k = n - f - 1
          · subst q
            rw [rj_eq, if_pos (by omega), show n - f - 1 + 1 = n - f by omega]
            rfl
          · rw [rj_k q, h1 k]
            by_cases y : k < n - (f + 1)
            · rw [if_pos y, if_pos (by omega)]
            · rw [if_neg y, if_neg (by omega)]
    have k := L n J (Nat.le_refl _) (fun k => by rw [Nat.sub_self, if_neg (by omega)]) (fun _ _ => rfl)
    rw [show n + 1 - n = 1 by omega] at k
    exact k
  · rw [le_i, z30] at c3; exact c3 z.2.1.2
  · rw [le_i, eL] at c1; exact c1 z.2.2
theorem cx_pour9 {d : Nat} {a p b q n : Int32} (hB : Bd I) (hR : RI R) : AM (d + 2) 106 112 [.ref 1, .int a, .int p, .int b, .int q, .int n] I J R (fun _ _ _ J1 _ => HPo9 (trL9 I) (trS9 I) J a p b q n J1) := by
  have z0 : (0 : Int32).toInt = 0 := rfl
  have no : ¬ okU9 (trL9 I) (trS9 I) a p b q n → ∀ s : Int32, AM (d + 1) 150 112 [.ref 1, .int s] I J R (fun x _ _ J1 _ => (x = 0 ∨ x = 1) → (((x : Int32) = 0 ∨ (x : Int32) = 1) ∧ HPo9 (trL9 I) (trS9 I) J a p b q n J1)) := fun hn s => w_X11_deny ⟨Or.inl rfl, fun _ => ⟨Or.inl rfl, fun z => absurd z hn, fun _ => rfl⟩⟩
  refine w_X11_pour (px_tr9 (fun ha _ => ⟨fun z => absurd z (by decide), fun _ => px_tr9 (fun hb _ => ⟨fun _ => ?_, fun z => absurd z (by decide)⟩) (fun hb _ => ⟨fun z => absurd rfl z, fun _ => no (fun z => hb z.1.2) 1⟩)⟩) (fun ha _ => ⟨fun _ => no (fun z => ha z.1.1) 1, fun z => absurd rfl z⟩))
  obtain ⟨va, ⟨ra0, raO⟩, rta⟩ := tr9_o hR ha
  obtain ⟨vb, ⟨rb0, rbO⟩, rtb⟩ := tr9_o hR hb
  obtain ⟨aa, la, -⟩ := fa_10_2 raO
  obtain ⟨ab, lb, -⟩ := fa_10_2 rbO
  have bda := Bd.o hB raO bd9_10_1
  have bdb := Bd.o hB rbO bd9_10_1
  have ea : (I (R 2 (Int32.toNatClampNeg a)) 1).toInt = (trL9 I (nn9 a)).toInt := by rw [rta]; rfl
  have eb : (I (R 2 (Int32.toNatClampNeg b)) 1).toInt = (trL9 I (nn9 b)).toInt := by rw [rtb]; rfl
  have sa : I (R 2 (Int32.toNatClampNeg a)) 0 = trS9 I (nn9 a) := by rw [rta]; rfl
  have sb : I (R 2 (Int32.toNatClampNeg b)) 0 = trS9 I (nn9 b) := by rw [rtb]; rfl
  refine ⟨va, ra0, vb, rb0, bif_t raO (w_X10_isMissing (bif_t raO ⟨fun ca => ⟨Or.inl rfl, fun _ => ⟨fun z => absurd rfl z, fun _ => bif_t rbO (w_X10_isMissing (bif_t rbO ⟨fun cb => ⟨Or.inl rfl, fun _ => ⟨fun _ => bif_t raO (bif_t rbO ?_), fun z => absurd rfl z⟩⟩, fun cb => ⟨Or.inr rfl, fun _ => ⟨fun z => absurd z (by decide), fun _ => no (fun z => cb ?_) 3⟩⟩⟩))⟩⟩, fun ca => ⟨Or.inr rfl, fun _ => ⟨fun _ => no (fun z => ca ?_) 3, fun z => absurd z (by decide)⟩⟩⟩))⟩
  · refine ⟨fun cs => ⟨fun cn => bif_t raO (px_hp9 raO (fun h1 _ => ⟨fun z => absurd z (by decide), fun _ => bif_t rbO (px_hp9 rbO (fun h2 _ => ⟨fun _ => bif_t raO (bif_t rbO ?_), fun z => absurd z (by decide)⟩) (fun h2 _ => ⟨fun z => absurd rfl z, fun _ => no (fun z => h2 ?_) 4⟩))⟩) (fun h1 _ => ⟨fun _ => no (fun z => h1 ?_) 4, fun z => absurd rfl z⟩)), fun cn => no (fun z => cn ?_) 6⟩, fun cs => no (fun z => cs ?_) 11⟩
    · have hk : okU9 (trL9 I) (trS9 I) a p b q n := ⟨⟨ha, hb⟩, by rw [← sa, ← sb]; exact cs, ⟨h1.1, h2.1, h1.2.1⟩, by rw [← ea]; exact h1.2.2, by rw [← eb]; exact h2.2.2⟩
      have ep : (Int32.toNatClampNeg p : Int) = p.toInt := by show (p.toInt.toNat : Int) = _; have := h1.1; omega
      have eq : (Int32.toNatClampNeg q : Int) = q.toInt := by show (q.toInt.toNat : Int) = _; have := h2.1; omega
      have en : (Int32.toNatClampNeg n : Int) = n.toInt := by show (n.toInt.toNat : Int) = _; have := h1.2.1; omega
      have l1 := h1.2.2
      have l2 := h2.2.2
      have c : (isA 112 (R 2 (Int32.toNatClampNeg a) + 1) 1 && isA 112 (R 2 (Int32.toNatClampNeg b) + 1) 1) = true := by rw [aa, ab]; rfl
      have ng : ∀ x : Int32, 0 ≤ x.toInt → ¬ x < 0 := fun x hx z => by rw [Int32.lt_iff_toInt_lt, z0] at z; omega
      refine bif_t c ⟨⟨ng p h1.1, ng q h2.1, ng n h1.2.1, by rw [la]; omega, by rw [lb]; omega⟩, w_X11_allow ⟨Or.inr rfl, fun _ => ⟨Or.inr rfl, fun _ => ⟨fun k => ?_, fun o ho => ?_⟩, fun z => absurd hk z⟩⟩⟩
      · rw [rta, rtb]
        exact cJ_v9
      · rw [rta, rtb]
        exact cJ_ne ho
    · exact ⟨z.2.2.1.2.1, z.2.2.1.2.2, by rw [eb]; exact z.2.2.2.2⟩
    · exact ⟨z.2.2.1.1, z.2.2.1.2.2, by rw [ea]; exact z.2.2.2.1⟩
    · rw [le_i, z0]; exact z.2.2.1.2.2
    · rw [sa, sb]; exact z.2.1
  · rw [le_i, z0, eb]
    have := z.2.2.1.2.1
    have := z.2.2.1.2.2
    have := z.2.2.2.2
    omega
  · rw [le_i, z0, ea]
    have := z.2.2.1.1
    have := z.2.2.1.2.2
    have := z.2.2.2.1
    omega
end TRU
end PT16x7
section PT16x8
/-! ===== the trays' numbers: the reference's ===== -/
theorem ix60 {a b : Int32} (h : tr9 a) (h1 : 0 ≤ b.toInt) (h2 : b.toInt < 60) : Int32.toNatClampNeg (60 * a + b) = 60 * nn9 a + nn9 b ∧ vp_in (60 * a + b) 240 := by
  obtain ⟨a1, a2⟩ := h
  have e60 : (60 : Int32).toInt = 60 := rfl
  have em : (60 * a : Int32).toInt = 60 * a.toInt := ti_mul e60 rfl (by omega)
  have es : (60 * a + b : Int32).toInt = 60 * a.toInt + b.toInt := ti_add em rfl (by omega)
  have ea : nn9 a = a.toInt.toNat := rfl
  have eb : nn9 b = b.toInt.toNat := rfl
  have e3 : Int32.toNatClampNeg (60 * a + b) = (60 * a + b : Int32).toInt.toNat := rfl
  exact ⟨by rw [e3, es, ea, eb]; omega, vp_of es (by omega) (by omega)⟩
section TRR
variable {I : Im} {J : Jm} {R : Rm} {Q : Qt}
theorem px_trd9 {d : Nat} {v : Int32} (hY : tr9 v → 0 ≤ (I 99 (nn9 v)).toInt → Q 0 0 I J R) (hN : ¬ (tr9 v ∧ 0 ≤ (I 99 (nn9 v)).toInt) → ∀ x : Int32, ¬ x ≤ 0 → Q x 0 I J R) : AM (d + 1) 182 112 [.ref 97, .int v] I J R Q := by
  have z0 : (0 : Int32).toInt = 0 := rfl
  have z4 : (4 : Int32).toInt = 4 := rfl
  refine w_X12_trayed ⟨fun c => hN (fun z => ?_) 1 (by decide), fun c1 => ⟨fun c2 => ?_, fun c2 => hN (fun z => ?_) 1 (by decide)⟩⟩
  · rw [Int32.lt_iff_toInt_lt, z0] at c; have := z.1.1; omega
  · rw [Int32.lt_iff_toInt_lt, z0] at c1
    rw [Int32.lt_iff_toInt_lt, z4] at c2
    have h : tr9 v := ⟨by omega, by omega⟩
    refine ⟨(tr9_n h).2, fun c => hY h ?_, fun c => hN (fun z => c ?_) 3 (by decide)⟩
    · rw [le_i, z0] at c; exact c
    · rw [le_i, z0]; exact z.2
  · rw [Int32.lt_iff_toInt_lt, z4] at c2; have := z.1.2; omega
theorem px_plR9 {d : Nat} {a b : Int32} (hY : okP9 (I 99) a b → Q 0 0 I J R) (hN : ¬ okP9 (I 99) a b → ∀ x : Int32, ¬ x ≤ 0 → Q x 0 I J R) : AM (d + 2) 183 112 [.ref 97, .int a, .int b] I J R Q := by
  have z0 : (0 : Int32).toInt = 0 := rfl
  refine w_X12_placed (px_trd9 (fun h hl => ⟨fun _ => ?_, fun z => absurd (show (0 : Int32) ≤ 0 by decide) z⟩) (fun h x hx => ⟨fun z => absurd z hx, fun _ => hN (fun y => h ⟨y.1, by have := y.2.1; have := y.2.2; omega⟩) x hx⟩))
  refine ⟨fun c => hN (fun z => ?_) 4 (by decide), fun c1 => ⟨(tr9_n h).2, fun c => hY ⟨h, ?_, ?_⟩, fun c => hN (fun z => c ?_) 4 (by decide)⟩⟩
  · rw [Int32.lt_iff_toInt_lt, z0] at c; have := z.2.1; omega
  · rw [Int32.lt_iff_toInt_lt, z0] at c1; omega
  · rw [Int32.lt_iff_toInt_lt] at c; exact c
  · rw [Int32.lt_iff_toInt_lt]; exact z.2.2
theorem px_trim9 {d : Nat} {s : Int32} {v : Int64} (hQ : Q 0 (trm9 s v) I J R) : AM (d + 1) 180 112 [.int s, .long v] I J R Q := by
  unfold trm9 at hQ
  refine w_X12_trims ⟨fun s0 => ⟨fun s1 => ⟨fun s2 => ?_, fun s2 => ?_⟩, fun s1 => ?_⟩, fun s0 => ?_⟩
  · rw [if_neg s0, if_neg s1, if_neg s2] at hQ; exact hQ
  · rw [if_neg s0, if_neg s1, if_pos s2] at hQ; exact hQ
  · rw [if_neg s0, if_pos s1] at hQ; exact hQ
  · rw [if_pos s0] at hQ; exact hQ
theorem px_wrR9 {d : Nat} {a b : Int32} {v : Int64} (h60 : ∀ t, t < 4 → (I 99 t).toInt ≤ 60) (hY : okP9 (I 99) a b → Q 1 0 (uI (uI I 97 1 0) 97 0 0) (uJ J 100 (60 * nn9 a + nn9 b) (trm9 (I 98 (nn9 a)) v)) R) (hN : ¬ okP9 (I 99) a b → ∀ I2, Q 0 0 I2 J R) : AM (d + 3) 184 112 [.ref 97, .int a, .int b, .long v] I J R Q := by
  have e99 : uI I 97 1 0 99 = I 99 := uI_ne (by decide)
  refine w_X12_write (px_plR9 (fun hk => ?_) (fun hk x hx => ?_))
  · rw [e99] at hk
    obtain ⟨n4, v4⟩ := tr9_n hk.1
    have l := h60 _ n4
    have h1 := hk.2.1
    have h2 := hk.2.2
    obtain ⟨ix, vx⟩ := ix60 hk.1 h1 (by omega)
    refine ⟨fun _ => ⟨v4, ?_⟩, fun z => absurd (show uI (uI I 97 1 0) 97 0 0 97 0 ≤ (0 : Int32) from by rw [rd_eq]; decide) z⟩
    refine px_trim9 ⟨vx, Or.inr rfl, ?_⟩
    rw [ix, rd_ne (by decide), rd_ne (by decide)]
    exact hY hk
  · rw [e99] at hk
    exact ⟨fun z => absurd (show x ≤ 0 by rw [rd_eq] at z; exact z) hx, fun _ => ⟨Or.inl rfl, hN hk _⟩⟩
noncomputable def HWq9 (I : Im) (J : Jm) (a b : Int32) (v : Int64) (J1 : Jm) : Prop := (okP9 (I 99) a b → J1 = uJ J 100 (60 * nn9 a + nn9 b) (trm9 (I 98 (nn9 a)) v)) ∧ (¬ okP9 (I 99) a b → J1 = J)
theorem mx_write9 {d : Nat} {a b : Int32} {v : Int64} (h60 : ∀ t, t < 4 → (I 99 t).toInt ≤ 60) : AM (d + 3) 184 112 [.ref 97, .int a, .int b, .long v] I J R (fun _ _ _ J1 _ => HWq9 I J a b v J1) :=
  px_wrR9 h60 (fun hk => ⟨fun _ => rfl, fun z => absurd hk z⟩) (fun hk _ => ⟨fun z => absurd z hk, fun _ => rfl⟩)
/-- tray() -/
noncomputable def HTq9 (J : Jm) (a b c : Int32) (J1 : Jm) : Prop := (okT9 a b c → (∀ k : Nat, (k : Int) < c.toInt → J1 100 (60 * nn9 a + k) = 0) ∧ (∀ i, ¬ (60 * nn9 a ≤ i ∧ i < 60 * nn9 a + 60) → J1 100 i = J 100 i) ∧ ∀ o, ¬ o = 100 → J1 o = J o) ∧ (¬ okT9 a b c → J1 = J)
theorem mx_tray9 {d : Nat} {a b c : Int32} : AM (d + 2) 181 112 [.ref 97, .int a, .int b, .int c] I J R (fun _ _ _ J1 _ => HTq9 J a b c J1) := by
  have z0 : (0 : Int32).toInt = 0 := rfl
  have z3 : (3 : Int32).toInt = 3 := rfl
  have z4 : (4 : Int32).toInt = 4 := rfl
  have z60 : (60 : Int32).toInt = 60 := rfl
  refine am_X12_tray (fun P hc => ?_)
  have no : ¬ okT9 a b c → ∀ (s : Int32) (A : Im), AM (d + 1) 177 112 [.ref 97, .int s] A J R (fun x _ _ J1 _ => (x = 0 ∨ x = 1) → (((x : Int32) = 0 ∨ (x : Int32) = 1) ∧ HTq9 J a b c J1)) := fun hn s A => w_X12_no ⟨Or.inl rfl, fun _ => ⟨Or.inl rfl, fun z => absurd z hn, fun _ => rfl⟩⟩
  refine sg_X12_tray_0 hc _ _ _ _ _ _ ⟨fun q => no (fun z => ?_) 1 _, fun q1 => ⟨fun q => no (fun z => ?_) 1 _, fun q2 => ⟨fun q => no (fun z => ?_) 1 _, fun q3 => ⟨fun q4 => ⟨fun q5 => ⟨fun q6 => ?_, fun q => no (fun z => ?_) 6 _⟩, fun q => no (fun z => ?_) 5 _⟩, fun q => no (fun z => ?_) 1 _⟩⟩⟩⟩
  · rw [Int32.lt_iff_toInt_lt, z0] at q; have := z.1.1; omega
  · rw [le_i, z4] at q; have := z.1.2; omega
  · rw [Int32.lt_iff_toInt_lt, z0] at q; have := z.2.1.1; omega
  · rw [Int32.lt_iff_toInt_lt, z0] at q1 q3
    rw [le_i, z4] at q2
    rw [le_i, z3] at q4
    rw [le_i, z60] at q5
    rw [le_i, z0] at q6
    have ht : tr9 a := ⟨by omega, by omega⟩
    have hk : okT9 a b c := ⟨ht, ⟨by omega, q4⟩, q6, q5⟩
    have v4 := (tr9_n ht).2
    have ec : c = nI (nn9 c) := Int32.toInt_inj.mp (by
      have : (nn9 c : Int) = c.toInt := by show (c.toInt.toNat : Int) = _; omega
      rw [nI_toInt (by omega)]; omega)
    have nc : (nn9 c : Int) = c.toInt := by show (c.toInt.toNat : Int) = _; omega
    refine ⟨v4, v4, ?_⟩
    generalize uI (uI (uI (uI I 97 1 0) 97 0 0) 98 (Int32.toNatClampNeg a) b) 99 (Int32.toNatClampNeg a) c = A
    have L : ∀ (f : Nat) (M : Jm), f ≤ nn9 c → (∀ k, k < nn9 c - f → M 100 (60 * nn9 a + k) = 0) → (∀ i, ¬ (60 * nn9 a ≤ i ∧ i < 60 * nn9 a + 60) → M 100 i = J 100 i) → (∀ o, ¬ o = 100 → M o = J o) → P 74 112 [(0, .ref 97), (1, .int a), (3, .int c), (4, .int (nI (nn9 c - f)))] [] A M R := by
      intro f
      induction f with
      | zero =>
        intro M _ h1 h2 h3
        refine sg_X12_tray_74 hc _ _ _ _ _ _ ⟨fun _ => ⟨Or.inr rfl, fun _ => ⟨fun k hk => h1 k (by omega), h2, h3⟩, fun z => absurd hk z⟩, fun y => ?_⟩
        rw [ec] at y
        exact absurd ((nle_nI (b := nn9 (nI (nn9 c)) - 0) (by omega) (by rw [show nn9 (nI (nn9 c)) = nn9 c from by rw [← ec]]; omega)).mpr (by rw [show nn9 (nI (nn9 c)) = nn9 c from by rw [← ec]]; omega)) y
      | succ f ih =>
        intro M hf h1 h2 h3
        have tn : (nI (nn9 c - (f + 1))).toInt = ((nn9 c - (f + 1) : Nat) : Int) := nI_toInt (by omega)
        have nn : nn9 (nI (nn9 c - (f + 1))) = nn9 c - (f + 1) := tn_nI (by omega)
        obtain ⟨ix, vx⟩ := ix60 (b := nI (nn9 c - (f + 1))) ht (by omega) (by omega)
        refine sg_X12_tray_74 hc _ _ _ _ _ _ ⟨fun y => ?_, fun _ => ⟨vx, ?_⟩⟩
        · rw [le_i, tn] at y
          omega
        · rw [ix, nn, show nI (nn9 c - (f + 1)) + 1 = nI (nn9 c - f) from by rw [nI_k1]; exact congrArg nI (by omega)]
          refine ih _ (by omega) (fun k hk => ?_) (fun i hi => ?_) (fun o ho => (uJ_ne ho).trans (h3 o ho))
          · by_cases q : k = nn9 c - (f + 1)
            · subst q; exact rj_eq
            · rw [rj_k (by omega)]; exact h1 k (by omega)
          · rw [rj_k (by omega)]; exact h2 i hi
    have k := L (nn9 c) J (Nat.le_refl _) (fun k hk => absurd hk (by omega)) (fun _ _ => rfl) (fun _ _ => rfl)
    rw [Nat.sub_self] at k
    exact k
  · rw [le_i, z0] at q; exact q z.2.2.1
  · rw [le_i, z60] at q; exact q z.2.2.2
  · rw [le_i, z3] at q; exact q z.2.1.2
end TRR
end PT16x8
section PT16x9
/-! ===== the trays' numbers: copyStore(), pour(), the reference's ===== -/
noncomputable def HCq9 (I : Im) (J : Jm) (a b : Int32) (J1 : Jm) : Prop := (okCs9 (I 99) a b → (∀ k, k < 60 → J1 100 (60 * nn9 a + k) = if k < nn9 b then trm9 (I 98 (nn9 a)) (Int32.toInt64 (I 102 (4 + k))) else J 100 (60 * nn9 a + k)) ∧ (∀ i, ¬ (60 * nn9 a ≤ i ∧ i < 60 * nn9 a + 60) → J1 100 i = J 100 i) ∧ ∀ o, ¬ o = 100 → J1 o = J o) ∧ (¬ okCs9 (I 99) a b → J1 = J)
noncomputable def HPq9 (I : Im) (J : Jm) (a p b q n : Int32) (J1 : Jm) : Prop := (okU9 (I 99) (I 98) a p b q n → (∀ k, k < 60 → J1 100 (60 * nn9 b + k) = if nn9 q ≤ k ∧ k < nn9 q + nn9 n then J 100 (60 * nn9 a + (nn9 p + (k - nn9 q))) else J 100 (60 * nn9 b + k)) ∧ (∀ i, ¬ (60 * nn9 b ≤ i ∧ i < 60 * nn9 b + 60) → J1 100 i = J 100 i) ∧ ∀ o, ¬ o = 100 → J1 o = J o) ∧ (¬ okU9 (I 99) (I 98) a p b q n → J1 = J)
section TRV
variable {I : Im} {J : Jm} {R : Rm} {Q : Qt}
theorem mx_copy9 {d : Nat} {a b : Int32} (h60 : ∀ t, t < 4 → (I 99 t).toInt ≤ 60) : AM (d + 4) 254 112 [.ref 97, .int a, .int b] I J R (fun _ _ _ J1 _ => HCq9 I J a b J1) := by
  have z0 : (0 : Int32).toInt = 0 := rfl
  have z3 : (3 : Int32).toInt = 3 := rfl
  have z30 : (30 : Int32).toInt = 30 := rfl
  have e99 : uI (uI I 97 1 0) 97 0 0 99 = I 99 := (uI_ne (by decide)).trans (uI_ne (by decide))
  have e98 : uI (uI I 97 1 0) 97 0 0 98 = I 98 := (uI_ne (by decide)).trans (uI_ne (by decide))
  have e102 : uI (uI I 97 1 0) 97 0 0 102 = I 102 := (uI_ne (by decide)).trans (uI_ne (by decide))
  refine am_X12_copyStore (fun P hc => ?_)
  have no : ¬ okCs9 (I 99) a b → ∀ (s : Int32) (A : Im), AM (d + 3) 176 112 [.ref 97, .int s] A J R (fun _ _ _ J1 _ => HCq9 I J a b J1) := fun hn s A => w_X12_refuse ⟨fun z => absurd z hn, fun _ => rfl⟩
  refine sg_X12_copyStore_0 hc _ _ _ _ _ (w_X12_isTray (px_isInI (lo := 0) (hi := 3) (fun l1 l2 _ => ⟨Or.inr rfl, fun _ => ⟨fun _ => ?_, fun z => absurd z (by decide)⟩⟩) (fun m1 _ => ⟨Or.inl rfl, fun _ => ⟨fun z => absurd rfl z, fun _ => no (fun z => ?_) 1 _⟩⟩)))
  · rw [le_i, z0] at l1
    rw [le_i, z3] at l2
    have ht : tr9 a := ⟨l1, l2⟩
    obtain ⟨n4, v4⟩ := tr9_n ht
    have l := h60 _ n4
    have e99t : uI (uI I 97 1 0) 97 0 0 99 (Int32.toNatClampNeg a) = I 99 (nn9 a) := congrFun e99 _
    refine ⟨v4, fun c1 => ⟨v4, fun c2 => ?_, fun c2 => no (fun z => c2 ?_) 4 _⟩, fun c1 => no (fun z => c1 ?_) 3 _⟩
    · rw [e99t, le_i] at c2
      refine px_isInI (lo := 0) (hi := 30) (fun k1 k2 _ => ⟨fun _ => ?_, fun z => absurd z (by decide)⟩) (fun m2 _ => ⟨fun z => absurd rfl z, fun _ => no (fun z => ?_) 5 _⟩)
      · rw [le_i, z0] at k1
        rw [le_i, z30] at k2
        have hk : okCs9 (I 99) a b := ⟨ht, ⟨k1, k2⟩, c2⟩
        have nb : (nn9 b : Int) = b.toInt := by show (b.toInt.toNat : Int) = b.toInt; omega
        have eb : b = nI (nn9 b) := Int32.toInt_inj.mp (by rw [nI_toInt (by omega)]; omega)
        have L : ∀ (f : Nat) (A : Im) (M : Jm), f ≤ nn9 b → A 99 = I 99 → A 98 = I 98 → A 102 = I 102 → (∀ k, k < 60 → M 100 (60 * nn9 a + k) = if k < nn9 b - f then trm9 (I 98 (nn9 a)) (Int32.toInt64 (I 102 (4 + k))) else J 100 (60 * nn9 a + k)) → (∀ i, ¬ (60 * nn9 a ≤ i ∧ i < 60 * nn9 a + 60) → M 100 i = J 100 i) → (∀ o, ¬ o = 100 → M o = J o) → P 75 112 [(0, .ref 97), (1, .int a), (2, .int b), (3, .int (nI (nn9 b - f)))] [] A M R := by
          intro f
          induction f with
          | zero =>
            intro A M _ _ _ _ h1 h2 h3
            refine sg_X12_copyStore_75 hc _ _ _ _ _ _ ⟨fun _ => ⟨fun _ => ⟨h1, h2, h3⟩, fun z => absurd hk z⟩, fun y => absurd ?_ y⟩
            rw [le_i, nI_toInt (show nn9 b - 0 < 2 ^ 31 by omega)]
            omega
          | succ f ih =>
            intro A M hf g99 g98 g102 h1 h2 h3
            have tn : (nI (nn9 b - (f + 1))).toInt = ((nn9 b - (f + 1) : Nat) : Int) := nI_toInt (by omega)
            have nn : nn9 (nI (nn9 b - (f + 1))) = nn9 b - (f + 1) := tn_nI (by omega)
            have i4 : (4 + nI (nn9 b - (f + 1)) : Int32).toInt = 4 + ((nn9 b - (f + 1) : Nat) : Int) := ti_add (show (4 : Int32).toInt = 4 from rfl) tn (by omega)
            have i5 : Int32.toNatClampNeg (4 + nI (nn9 b - (f + 1))) = 4 + (nn9 b - (f + 1)) := by
              have e3 : Int32.toNatClampNeg (4 + nI (nn9 b - (f + 1))) = (4 + nI (nn9 b - (f + 1)) : Int32).toInt.toNat := rfl
              rw [e3, i4]; omega
            have en : nI (nn9 b - (f + 1)) + 1 = nI (nn9 b - f) := by rw [nI_k1]; exact congrArg nI (by omega)
            refine sg_X12_copyStore_75 hc _ _ _ _ _ _ ⟨fun y => ?_, fun _ => ⟨vp_of i4 (by omega) (by omega), ?_⟩⟩
            · rw [le_i, tn] at y; omega
            · rw [i5, en]
              refine px_wrR9 (fun t ht => by rw [g99]; exact h60 t ht) (fun _ => fun _ => ?_) (fun hn => absurd ⟨ht, by rw [tn]; omega, by rw [tn, g99]; omega⟩ hn)
              rw [nn, g98, g102]
              refine ih _ _ (by omega) ((uI_ne (by decide)).trans ((uI_ne (by decide)).trans g99)) ((uI_ne (by decide)).trans ((uI_ne (by decide)).trans g98)) ((uI_ne (by decide)).trans ((uI_ne (by decide)).trans g102)) (fun k hk6 => ?_) (fun i hi => ?_) (fun o ho => (uJ_ne ho).trans (h3 o ho))
              · by_cases q : k = nn9 b - (f + 1)
                · subst q
                  rw [rj_eq, if_pos (by omega)]
                · rw [rj_k (by omega), h1 k hk6]
                  by_cases y : k < nn9 b - (f + 1)
                  · rw [if_pos y, if_pos (by omega)]
                  · rw [if_neg y, if_neg (by omega)]
              · rw [rj_k (by omega)]; exact h2 i hi
        have k := L (nn9 b) (uI (uI I 97 1 0) 97 0 0) J (Nat.le_refl _) e99 e98 e102 (fun k _ => by rw [Nat.sub_self, if_neg (by omega)]) (fun _ _ => rfl) (fun _ _ => rfl)
        rw [Nat.sub_self] at k
        exact k
      · have := z.2.1.1
        have := z.2.1.2
        rcases m2 with m2 | m2
        · rw [Int32.lt_iff_toInt_lt, z0] at m2; omega
        · rw [le_i, z30] at m2; omega
    · rw [e99t, le_i]; exact z.2.2
    · rw [e99t, le_i, z0]
      have := z.2.1.1
      have := z.2.2
      omega
  · have := z.1.1
    have := z.1.2
    rcases m1 with m1 | m1
    · rw [Int32.lt_iff_toInt_lt, z0] at m1; omega
    · rw [le_i, z3] at m1; omega
theorem ix60b {a p x : Int32} (h : tr9 a) (hp : 0 ≤ p.toInt) (hx : 0 ≤ x.toInt) (h2 : p.toInt + x.toInt < 60) : Int32.toNatClampNeg ((60 * a + p) + x) = 60 * nn9 a + (nn9 p + nn9 x) ∧ vp_in ((60 * a + p) + x) 240 := by
  obtain ⟨a1, a2⟩ := h
  have e60 : (60 : Int32).toInt = 60 := rfl
  have em : (60 * a : Int32).toInt = 60 * a.toInt := ti_mul e60 rfl (by omega)
  have es : (60 * a + p : Int32).toInt = 60 * a.toInt + p.toInt := ti_add em rfl (by omega)
  have et : ((60 * a + p) + x : Int32).toInt = 60 * a.toInt + p.toInt + x.toInt := ti_add es rfl (by omega)
  have ea : nn9 a = a.toInt.toNat := rfl
  have ep : nn9 p = p.toInt.toNat := rfl
  have ex : nn9 x = x.toInt.toNat := rfl
  have e3 : Int32.toNatClampNeg ((60 * a + p) + x) = ((60 * a + p) + x : Int32).toInt.toNat := rfl
  exact ⟨by rw [e3, et, ea, ep, ex]; omega, vp_of et (by omega) (by omega)⟩
theorem mx_pour9 {d : Nat} {a p b q n : Int32} (h60 : ∀ t, t < 4 → (I 99 t).toInt ≤ 60) : AM (d + 2) 186 112 [.ref 97, .int a, .int p, .int b, .int q, .int n] I J R (fun _ _ _ J1 _ => HPq9 I J a p b q n J1) := by
  have z0 : (0 : Int32).toInt = 0 := rfl
  have z1 : (1 : Int32).toInt = 1 := rfl
  have z4 : (4 : Int32).toInt = 4 := rfl
  have e99 : uI (uI I 97 1 0) 97 0 0 99 = I 99 := (uI_ne (by decide)).trans (uI_ne (by decide))
  have e98 : uI (uI I 97 1 0) 97 0 0 98 = I 98 := (uI_ne (by decide)).trans (uI_ne (by decide))
  refine am_X12_pour (fun P hc => ?_)
  have no : ¬ okU9 (I 99) (I 98) a p b q n → ∀ (s : Int32) (A : Im), AM (d + 1) 177 112 [.ref 97, .int s] A J R (fun x _ _ J1 _ => (x = 0 ∨ x = 1) → (((x : Int32) = 0 ∨ (x : Int32) = 1) ∧ HPq9 I J a p b q n J1)) := fun hn s A => w_X12_no ⟨Or.inl rfl, fun _ => ⟨Or.inl rfl, fun z => absurd z hn, fun _ => rfl⟩⟩
  refine sg_X12_pour_0 hc _ _ _ _ _ _ _ _ ⟨fun c => no (fun z => ?_) 1 _, fun c1 => ⟨fun c => no (fun z => ?_) 1 _, fun c2 => ⟨fun c => no (fun z => ?_) 1 _, fun c3 => ⟨fun c4 => ?_, fun c => no (fun z => ?_) 1 _⟩⟩⟩⟩
  · rw [Int32.lt_iff_toInt_lt, z0] at c; have := z.1.1.1; omega
  · rw [le_i, z4] at c; have := z.1.1.2; omega
  · rw [Int32.lt_iff_toInt_lt, z0] at c; have := z.1.2.1; omega
  · rw [Int32.lt_iff_toInt_lt, z0] at c1 c3
    rw [le_i, z4] at c2
    rw [Int32.lt_iff_toInt_lt, z4] at c4
    have ha : tr9 a := ⟨by omega, by omega⟩
    have hb : tr9 b := ⟨by omega, by omega⟩
    obtain ⟨na, va⟩ := tr9_n ha
    obtain ⟨nb, vb⟩ := tr9_n hb
    have la := h60 _ na
    have lb := h60 _ nb
    have ea : uI (uI I 97 1 0) 97 0 0 99 (Int32.toNatClampNeg a) = I 99 (nn9 a) := congrFun e99 _
    have eb : uI (uI I 97 1 0) 97 0 0 99 (Int32.toNatClampNeg b) = I 99 (nn9 b) := congrFun e99 _
    have sa : uI (uI I 97 1 0) 97 0 0 98 (Int32.toNatClampNeg a) = I 98 (nn9 a) := congrFun e98 _
    have sb : uI (uI I 97 1 0) 97 0 0 98 (Int32.toNatClampNeg b) = I 98 (nn9 b) := congrFun e98 _
    have ip := i32 p
    have iq := i32 q
    have in_ := i32 n
    rw [ea, eb, sa, sb]
    have ell : ∀ x : Int32, (Int32.toInt64 x).toInt = x.toInt := fun x => tl_i2l rfl
    have e1 : (Int32.toInt64 p + Int32.toInt64 n).toInt = p.toInt + n.toInt := tl_add (ell p) (ell n) (by omega)
    have e2 : (Int32.toInt64 q + Int32.toInt64 n).toInt = q.toInt + n.toInt := tl_add (ell q) (ell n) (by omega)
    refine ⟨va, fun c => no (fun z => ?_) 3 _, fun c5 => ⟨vb, fun c6 => ⟨va, vb, fun c7 => ⟨fun c8 => ⟨fun c => no (fun z => ?_) 4 _, fun c9 => ⟨fun c => no (fun z => ?_) 4 _, fun c10 => ⟨va, fun c => no (fun z => ?_) 4 _, fun c11 => ⟨vb, fun c12 => ?_, fun c => no (fun z => ?_) 4 _⟩⟩⟩⟩, fun c => no (fun z => ?_) 6 _⟩, fun c => no (fun z => c z.2.1) 11 _⟩, fun c => no (fun z => ?_) 3 _⟩⟩
    · rw [Int32.lt_iff_toInt_lt, z0] at c
      have := z.2.2.1.1
      have := z.2.2.1.2.2
      have := z.2.2.2.1
      omega
    · rw [Int32.lt_iff_toInt_lt, z0] at c; have := z.2.2.1.1; omega
    · rw [Int32.lt_iff_toInt_lt, z0] at c; have := z.2.2.1.2.1; omega
    · rw [lg_cmp_gt] at c
      have := cl_lt (ell _) e1 c
      have := z.2.2.2.1
      omega
    · rw [le_i, z0] at c8
      rw [Int32.lt_iff_toInt_lt, z0] at c9 c10
      rw [lg_cmp_gt] at c11
      have k11 := cl_nlt (ell _) e1 c11
      rw [lg_cmp_le] at c12
      have k12 := cl_le e2 (ell _) c12
      have hk : okU9 (I 99) (I 98) a p b q n := ⟨⟨ha, hb⟩, c7, ⟨by omega, by omega, c8⟩, k11, k12⟩
      have np : (nn9 p : Int) = p.toInt := by show (p.toInt.toNat : Int) = p.toInt; omega
      have nq : (nn9 q : Int) = q.toInt := by show (q.toInt.toNat : Int) = q.toInt; omega
      have nn : (nn9 n : Int) = n.toInt := by show (n.toInt.toNat : Int) = n.toInt; omega
      have en : n = nI (nn9 n) := Int32.toInt_inj.mp (by rw [nI_toInt (by omega)]; omega)
      generalize uI (uI I 97 1 0) 97 0 0 = A
      have fin : ∀ M : Jm, (∀ j, j < nn9 n → M 100 (60 * nn9 b + (nn9 q + j)) = J 100 (60 * nn9 a + (nn9 p + j))) → (∀ i, (∀ j, j < nn9 n → ¬ i = 60 * nn9 b + (nn9 q + j)) → M 100 i = J 100 i) → (∀ o, ¬ o = 100 → M o = J o) → HPq9 I J a p b q n M := fun M h1 h2 h3 => by
        refine ⟨fun _ => ⟨fun k hk6 => ?_, fun i hi => h2 i (fun j hj y => hi (by omega)), h3⟩, fun z => absurd hk z⟩
        by_cases y : nn9 q ≤ k ∧ k < nn9 q + nn9 n
        · rw [if_pos y]
          have k2 := h1 (k - nn9 q) (by omega)
          rw [show nn9 q + (k - nn9 q) = k by omega] at k2
          exact k2
        · rw [if_neg y]
          exact h2 _ (fun j hj x => y (by omega))
      refine ⟨fun c13 => ?_, fun c13 => ?_⟩
      · rw [le_i] at c13
        have L : ∀ (f : Nat) (M : Jm), f ≤ nn9 n → (∀ j, j < nn9 n - f → M 100 (60 * nn9 b + (nn9 q + j)) = J 100 (60 * nn9 a + (nn9 p + j))) → (∀ i, (∀ j, j < nn9 n - f → ¬ i = 60 * nn9 b + (nn9 q + j)) → M 100 i = J 100 i) → (∀ o, ¬ o = 100 → M o = J o) → P 158 112 [(0, .ref 97), (1, .int a), (2, .int p), (3, .int b), (4, .int q), (5, .int n), (6, .int 0), (7, .int (nI (nn9 n - f)))] [] A M R := by
          intro f
          induction f with
          | zero =>
            intro M _ h1 h2 h3
            refine sg_X12_pour_158 hc _ _ _ _ _ _ _ _ _ _ ⟨fun _ => ⟨Or.inr rfl, fin M h1 h2 h3⟩, fun y => absurd ?_ y⟩
            rw [le_i, nI_toInt (show nn9 n - 0 < 2 ^ 31 by omega)]; omega
          | succ f ih =>
            intro M hf h1 h2 h3
            have tn : (nI (nn9 n - (f + 1))).toInt = ((nn9 n - (f + 1) : Nat) : Int) := nI_toInt (by omega)
            have nI9 : nn9 (nI (nn9 n - (f + 1))) = nn9 n - (f + 1) := tn_nI (by omega)
            obtain ⟨x1, w1⟩ := ix60b (a := a) (p := p) (x := nI (nn9 n - (f + 1))) ha (by omega) (by omega) (by omega)
            obtain ⟨x2, w2⟩ := ix60b (a := b) (p := q) (x := nI (nn9 n - (f + 1))) hb (by omega) (by omega) (by omega)
            refine sg_X12_pour_158 hc _ _ _ _ _ _ _ _ _ _ ⟨fun y => ?_, fun _ => ⟨fun _ => ⟨w1, w2, ?_⟩, fun z => absurd rfl z⟩⟩
            · rw [le_i, tn] at y; omega
            · rw [x1, x2, nI9, show nI (nn9 n - (f + 1)) + 1 = nI (nn9 n - f) from by rw [nI_k1]; exact congrArg nI (by omega)]
              have src : M 100 (60 * nn9 a + (nn9 p + (nn9 n - (f + 1)))) = J 100 (60 * nn9 a + (nn9 p + (nn9 n - (f + 1)))) := h2 _ (fun j hj y => by omega)
              refine ih _ (by omega) (fun j hj => ?_) (fun i hi => ?_) (fun o ho => (uJ_ne ho).trans (h3 o ho))
              · by_cases y : j = nn9 n - (f + 1)
                · subst y; rw [rj_eq, src]
                · rw [rj_k (by omega)]; exact h1 j (by omega)
              · rw [rj_k (hi (nn9 n - (f + 1)) (by omega))]
                exact h2 i (fun j hj => hi j (by omega))
        have k := L (nn9 n) J (Nat.le_refl _) (fun j hj => absurd hj (by omega)) (fun _ _ => rfl) (fun _ _ => rfl)
        rw [Nat.sub_self] at k
        exact k
      · rw [le_i] at c13
        have L : ∀ (f : Nat) (M : Jm), f ≤ nn9 n → (∀ j, f ≤ j → j < nn9 n → M 100 (60 * nn9 b + (nn9 q + j)) = J 100 (60 * nn9 a + (nn9 p + j))) → (∀ i, (∀ j, f ≤ j → j < nn9 n → ¬ i = 60 * nn9 b + (nn9 q + j)) → M 100 i = J 100 i) → (∀ o, ¬ o = 100 → M o = J o) → P 158 112 [(0, .ref 97), (1, .int a), (2, .int p), (3, .int b), (4, .int q), (5, .int n), (6, .int 1), (7, .int (nI (nn9 n - f)))] [] A M R := by
          intro f
          induction f with
          | zero =>
            intro M _ h1 h2 h3
            refine sg_X12_pour_158 hc _ _ _ _ _ _ _ _ _ _ ⟨fun _ => ⟨Or.inr rfl, fin M (fun j hj => h1 j (Nat.zero_le _) hj) (fun i hi => h2 i (fun j _ hj => hi j hj)) h3⟩, fun y => absurd ?_ y⟩
            rw [le_i, nI_toInt (show nn9 n - 0 < 2 ^ 31 by omega)]; omega
          | succ f ih =>
            intro M hf h1 h2 h3
            have tn : (nI (nn9 n - (f + 1))).toInt = ((nn9 n - (f + 1) : Nat) : Int) := nI_toInt (by omega)
            have t1 : (n - 1 : Int32).toInt = n.toInt - 1 := ti_sub rfl z1 (by omega)
            have t2 : ((n - 1) - nI (nn9 n - (f + 1)) : Int32).toInt = n.toInt - 1 - ((nn9 n - (f + 1) : Nat) : Int) := ti_sub t1 tn (by omega)
            have nI9 : nn9 ((n - 1) - nI (nn9 n - (f + 1))) = f := by
              have e3 : nn9 ((n - 1) - nI (nn9 n - (f + 1))) = ((n - 1) - nI (nn9 n - (f + 1)) : Int32).toInt.toNat := rfl
              rw [e3, t2]; omega
            obtain ⟨x1, w1⟩ := ix60b (a := a) (p := p) (x := (n - 1) - nI (nn9 n - (f + 1))) ha (by omega) (by omega) (by omega)
            obtain ⟨x2, w2⟩ := ix60b (a := b) (p := q) (x := (n - 1) - nI (nn9 n - (f + 1))) hb (by omega) (by omega) (by omega)
            refine sg_X12_pour_158 hc _ _ _ _ _ _ _ _ _ _ ⟨fun y => ?_, fun _ => ⟨fun z => absurd z (by decide), fun _ => ⟨w1, w2, ?_⟩⟩⟩
            · rw [le_i, tn] at y; omega
            · rw [x1, x2, nI9, show nI (nn9 n - (f + 1)) + 1 = nI (nn9 n - f) from by rw [nI_k1]; exact congrArg nI (by omega)]
              have src : M 100 (60 * nn9 a + (nn9 p + f)) = J 100 (60 * nn9 a + (nn9 p + f)) := h2 _ (fun j hj1 hj y => by omega)
              refine ih _ (by omega) (fun j hj1 hj => ?_) (fun i hi => ?_) (fun o ho => (uJ_ne ho).trans (h3 o ho))
              · by_cases y : j = f
                · subst y; rw [rj_eq, src]
                · rw [rj_k (by omega)]; exact h1 j (by omega) hj
              · rw [rj_k (hi f (Nat.le_refl _) (by omega))]
                exact h2 i (fun j hj1 hj => hi j (by omega) hj)
        have k := L (nn9 n) J (Nat.le_refl _) (fun j hj1 hj => absurd hj (by omega)) (fun _ _ => rfl) (fun _ _ => rfl)
        rw [Nat.sub_self] at k
        exact k
    · rw [lg_cmp_le] at c
      have := cl_nle e2 (ell _) c
      have := z.2.2.2.2
      omega
    · rw [le_i, z0] at c; exact c z.2.2.1.2.2
    · rw [le_i, z0] at c
      have := z.2.2.1.2.1
      have := z.2.2.1.2.2
      have := z.2.2.2.2
      omega
  · rw [Int32.lt_iff_toInt_lt, z4] at c; have := z.1.2.2; omega
end TRV
end PT16x9
section PT16x10
/-! ===== the trays' numbers: both sides ===== -/
noncomputable def TQ9 (I : Im) (J : Jm) : Prop := ∀ t, t < 4 → ∀ k : Nat, (k : Int) < (I 99 t).toInt → J (53 + 2 * t + 1) k = J 100 (60 * t + k)
section TRX
variable {I I2 : Im} {J J1 J2 : Jm} {a b c p q n : Int32} {v : Int64}
theorem RT.eL (h : RT I) {t : Nat} (ht : t < 4) : trL9 I t = I 99 t := (h t ht).2
theorem RT.eS (h : RT I) {t : Nat} (ht : t < 4) : trS9 I t = I 98 t := (h t ht).1
theorem RT.okP (h : RT I) : okP9 (trL9 I) a b ↔ okP9 (I 99) a b := by
  constructor
  · intro z
    have := h.eL (tr9_n z.1).1
    exact ⟨z.1, z.2.1, by rw [← this]; exact z.2.2⟩
  · intro z
    have := h.eL (tr9_n z.1).1
    exact ⟨z.1, z.2.1, by rw [this]; exact z.2.2⟩
theorem RT.okC (h : RT I) : okCs9 (trL9 I) a b ↔ okCs9 (I 99) a b := by
  constructor
  · intro z
    have := h.eL (tr9_n z.1).1
    exact ⟨z.1, z.2.1, by rw [← this]; exact z.2.2⟩
  · intro z
    have := h.eL (tr9_n z.1).1
    exact ⟨z.1, z.2.1, by rw [this]; exact z.2.2⟩
theorem RT.okU (h : RT I) : okU9 (trL9 I) (trS9 I) a p b q n ↔ okU9 (I 99) (I 98) a p b q n := by
  constructor
  · intro z
    have n1 := (tr9_n z.1.1).1
    have n2 := (tr9_n z.1.2).1
    exact ⟨z.1, by rw [← h.eS n1, ← h.eS n2]; exact z.2.1, z.2.2.1, by rw [← h.eL n1]; exact z.2.2.2.1, by rw [← h.eL n2]; exact z.2.2.2.2⟩
  · intro z
    have n1 := (tr9_n z.1.1).1
    have n2 := (tr9_n z.1.2).1
    exact ⟨z.1, by rw [h.eS n1, h.eS n2]; exact z.2.1, z.2.2.1, by rw [h.eL n1]; exact z.2.2.2.1, by rw [h.eL n2]; exact z.2.2.2.2⟩
theorem TQ9.read {y y2 : Int64} (hT : RT I) (h : TQ9 I J) (h1 : HRd9 (trL9 I) (fun t k => J (53 + 2 * t + 1) k) a b y) (h2 : HRd9 (I 99) (fun t k => J 100 (60 * t + k)) a b y2) : y2 = y := by
  by_cases z : okP9 (I 99) a b
  · rw [h1.1 (hT.okP.mpr z), h2.1 z]
    have nb : (nn9 b : Int) = b.toInt := by have := z.2.1; show (b.toInt.toNat : Int) = b.toInt; omega
    exact (h _ (tr9_n z.1).1 _ (by rw [nb]; exact z.2.2)).symm
  · rw [h1.2 (fun y => z (hT.okP.mp y)), h2.2 z]
theorem TQ9.write (hT : RT I) (h : TQ9 I J) (e : I2 99 = I 99) (h60 : ∀ t, t < 4 → (I 99 t).toInt ≤ 60) (h1 : HWr9 I J a b v J1) (h2 : HWq9 I J1 a b v J2) : TQ9 I2 J2 := by
  intro t ht k hk
  rw [e] at hk
  have l := h60 t ht
  by_cases z : okP9 (I 99) a b
  · have n4 := (tr9_n z.1).1
    have lz := h60 _ n4
    have nb : (nn9 b : Int) = b.toInt := by have := z.2.1; show (b.toInt.toNat : Int) = b.toInt; omega
    have zb := z.2.2
    rw [h2.1 z, h1.1 (hT.okP.mpr z), rj_ne (by omega), hT.eS n4]
    by_cases y : t = nn9 a ∧ k = nn9 b
    · obtain ⟨y1, y2⟩ := y
      rw [y1, y2, rj_eq, rj_eq]
    · have x1 : uJ J (53 + 2 * nn9 a + 1) (nn9 b) (trm9 (I 98 (nn9 a)) v) (53 + 2 * t + 1) k = J (53 + 2 * t + 1) k := by
        by_cases w : t = nn9 a
        · subst w
          exact rj_k (fun x => y ⟨rfl, x⟩)
        · exact rj_ne (by omega)
      rw [x1, rj_k (by
        intro x
        by_cases w : t = nn9 a
        · exact y ⟨w, by subst w; omega⟩
        · omega), rj_ne (by omega)]
      exact h t ht k hk
  · rw [h2.2 z, h1.2 (fun y => z (hT.okP.mp y))]
    exact h t ht k hk
theorem TQ9.tray (h : TQ9 I J) (ho : okT9 a b c → I2 99 (nn9 a) = c ∧ ∀ t, t < 4 → ¬ t = nn9 a → I2 99 t = I 99 t) (hn : ¬ okT9 a b c → I2 99 = I 99) (h60 : ∀ t, t < 4 → (I 99 t).toInt ≤ 60) (h1 : HTr9 J a b c J1) (h2 : HTq9 J1 a b c J2) : TQ9 I2 J2 := by
  intro t ht k hk
  by_cases z : okT9 a b c
  · have n4 := (tr9_n z.1).1
    obtain ⟨o1, o2⟩ := ho z
    obtain ⟨p1, p2⟩ := h1.1 z
    obtain ⟨q1, q2, q3⟩ := h2.1 z
    have c60 := z.2.2.2
    rw [q3 _ (by omega)]
    by_cases w : t = nn9 a
    · subst w
      rw [o1] at hk
      rw [p1 k (by omega), q1 k hk]
    · have l := h60 t ht
      rw [o2 t ht w] at hk
      rw [p2 _ (by omega), q2 _ (by omega), p2 100 (by omega)]
      exact h t ht k hk
  · rw [h2.2 z, h1.2 z]
    rw [hn z] at hk
    exact h t ht k hk
theorem TQ9.copy {ST : Nat → Int32} (hT : RT I) (h : TQ9 I J) (e : I2 99 = I 99) (h60 : ∀ t, t < 4 → (I 99 t).toInt ≤ 60) (hS : ∀ d, 1 ≤ d → d ≤ 30 → ST d = I 102 (3 + d)) (h1 : HCs9 (trL9 I) (trS9 I) ST J a b J1) (h2 : HCq9 I J1 a b J2) : TQ9 I2 J2 := by
  intro t ht k hk
  rw [e] at hk
  have l := h60 t ht
  by_cases z : okCs9 (I 99) a b
  · have n4 := (tr9_n z.1).1
    obtain ⟨p1, p2⟩ := h1.1 (hT.okC.mpr z)
    obtain ⟨q1, q2, q3⟩ := h2.1 z
    have nb : (nn9 b : Int) = b.toInt := by have := z.2.1.1; show (b.toInt.toNat : Int) = b.toInt; omega
    have b30 := z.2.1.2
    rw [q3 _ (by omega)]
    by_cases w : t = nn9 a
    · subst w
      rw [p1 k, q1 k (by omega), hT.eS n4]
      by_cases y : k < nn9 b
      · rw [if_pos y, if_pos y, hS (k + 1) (by omega) (by omega), show 3 + (k + 1) = 4 + k by omega]
      · rw [if_neg y, if_neg y, p2 100 (by omega)]
        exact h _ ht k hk
    · rw [p2 _ (by omega), q2 _ (by omega), p2 100 (by omega)]
      exact h t ht k hk
  · rw [h2.2 z, h1.2 (fun y => z (hT.okC.mp y))]
    exact h t ht k hk
theorem TQ9.pour (hT : RT I) (h : TQ9 I J) (e : I2 99 = I 99) (h60 : ∀ t, t < 4 → (I 99 t).toInt ≤ 60) (h1 : HPo9 (trL9 I) (trS9 I) J a p b q n J1) (h2 : HPq9 I J1 a p b q n J2) : TQ9 I2 J2 := by
  intro t ht k hk
  rw [e] at hk
  have l := h60 t ht
  by_cases z : okU9 (I 99) (I 98) a p b q n
  · have n4 := (tr9_n z.1.2).1
    have n5 := (tr9_n z.1.1).1
    obtain ⟨p1, p2⟩ := h1.1 (hT.okU.mpr z)
    obtain ⟨q1, q2, q3⟩ := h2.1 z
    have np : (nn9 p : Int) = p.toInt := by have := z.2.2.1.1; show (p.toInt.toNat : Int) = p.toInt; omega
    have nq : (nn9 q : Int) = q.toInt := by have := z.2.2.1.2.1; show (q.toInt.toNat : Int) = q.toInt; omega
    have nn : (nn9 n : Int) = n.toInt := by have := z.2.2.1.2.2; show (n.toInt.toNat : Int) = n.toInt; omega
    have z1 := z.2.2.2.1
    have la := h60 _ n5
    rw [q3 _ (by omega)]
    by_cases w : t = nn9 b
    · subst w
      rw [p1 k, q1 k (by omega)]
      by_cases y : nn9 q ≤ k ∧ k < nn9 q + nn9 n
      · rw [if_pos y, if_pos y, p2 100 (by omega)]
        exact h _ n5 _ (by omega)
      · rw [if_neg y, if_neg y, p2 100 (by omega)]
        exact h _ ht k hk
    · rw [p2 _ (by omega), q2 _ (by omega), p2 100 (by omega)]
      exact h t ht k hk
  · rw [h2.2 z, h1.2 (fun y => z (hT.okU.mp y))]
    exact h t ht k hk
end TRX
end PT16x10
section PT16x11
/-! printed by grpT.py: the trays' numbers on both sides: what keeps them -/
noncomputable def badT9 (a : Nat) : Bool := [54, 56, 58, 60, 100].any (fun b => Nat.beq a b)
noncomputable def okgT9 (ci k : Nat) : Bool := !(Nat.beq ci 10 && Nat.beq k 2) && !(Nat.beq ci 12 && Nat.beq k 6)
noncomputable def KQ9 (J J2 : Jm) : Prop := ∀ a, badT9 a = true → J2 a = J a
theorem KQ9.tr {J J2 J3 : Jm} (h : KQ9 J J2) (h2 : KQ9 J2 J3) : KQ9 J J3 := fun a q => (h2 a q).trans (h a q)
theorem badT9_ne {a b : Nat} (h : badT9 a = false) (hb : badT9 b = true) : ¬ b = a := fun q => by
  subst q
  rw [h] at hb
  exact absurd hb (by decide)
theorem badT9_mem {a : Nat} (h : badT9 a = true) : a = 54 ∨ a = 56 ∨ a = 58 ∨ a = 60 ∨ a = 100 := by
  unfold badT9 at h
  obtain ⟨b, hb, e⟩ := List.any_eq_true.mp h
  have e2 := Nat.eq_of_beq_eq_true e
  simp only [List.mem_cons, List.not_mem_nil, or_false] at hb
  omega
theorem badT9_sh {a : Nat} (h : badT9 a = true) : (shl.getD (a - 1) (999, 0)).1 = 101 := by
  rcases badT9_mem h with q | q | q | q | q <;> subst q <;> decide +kernel
theorem badT9_o {a ci : Nat} (h : (shl.getD (a - 1) (999, 0)).1 = ci) (hc : ci < 100) : badT9 a = false := by
  cases q : badT9 a with
  | false => rfl
  | true => have := badT9_sh q; omega
theorem stg_T9 {J0 : Jm} : StG badT9 (fun _ _ => true) (fun _ J _ => KQ9 J0 J) := by
  refine ⟨fun I J R o ci k x h1 h2 h3 hF => hF, fun I J R o ci k x h1 h2 h3 hF => ?_, fun I J R a t j x h1 h2 hF => hF, fun I J R a t j x h1 h2 hF => ?_, fun I J R a0 a1 t p q m h1 h2 hF => hF, fun I J R a0 a1 t p q m h1 h2 hF => ?_, fun I J R o ci k x h1 h2 hF => hF⟩
  · exact fun b hb => (uJ_ne (badT9_ne (badT9_o h1 h2) hb)).trans (hF b hb)
  · exact fun b hb => (uJ_ne (badT9_ne h2 hb)).trans (hF b hb)
  · exact fun b hb => (cJ_ne (badT9_ne h2 hb)).trans (hF b hb)
set_option maxRecDepth 100000 in
theorem gf_T9 : ∀ o ci k, 0 < o → (shl.getD (o - 1) (999, 0)).1 = ci → fkd ci k = 4 → okgT9 ci k = true → badT9 (o + fof ci k) = false := by
  have each : ∀ q ∈ fk4L, okgT9 (shl.getD (q.1 - 1) (999, 0)).1 q.2 = true → badT9 (q.1 + fof (shl.getD (q.1 - 1) (999, 0)).1 q.2) = false := by decide +kernel
  intro o ci k h0 h1 h2 h3
  obtain ⟨i1, i2⟩ := fkd_in h2 (by decide)
  subst h1
  exact each (o, k) (List.contains_iff_mem.mp (fk4_all o (shl_in rfl (by omega)) h0 k i2 h2)) h3
theorem HRf_T9 {R : Rm} (h : RI R) : HRf badT9 R := by
  constructor
  · intro o ci k h0 h1 h2
    obtain ⟨i1, i2⟩ := fkd_in h2 (by decide)
    subst h1
    obtain ⟨rfl, hk⟩ := okH9_s (okH9_all o (shl_in rfl (by omega)) h0 k i2 h2)
    rcases hk with rfl | rfl | rfl | rfl
    · exact badT9_o (isO_spec h.now.1).2.2 (by decide)
    · exact badT9_o (isO_spec h.spare.1).2.2 (by decide)
    · exact badT9_o (isO_spec h.plan.1).2.2 (by decide)
    · exact badT9_o (isO_spec h.splan.1).2.2 (by decide)
  · intro a t j h1 h2
    have ha : a < 113 := by
      rcases Nat.lt_or_ge a 113 with q | q
      · exact q
      · unfold aL at h2
        rw [sh_out (by omega)] at h2
        exact absurd h2 (Nat.not_lt_zero _)
    have lt := shl9_lt a ha
    rcases arr9_all a ha (by omega) lt with ⟨rfl, e⟩ | ⟨rfl, e⟩ | ⟨rfl, e⟩
    · exact badT9_o (isO_spec (h.tray j (by omega)).2).2.2 (by decide)
    · exact badT9_o (isO_spec (h.kb j (by omega)).2).2.2 (by decide)
    · exact badT9_o (isO_spec (h.kd j (by omega)).2).2.2 (by decide)
noncomputable def okasT9 : List Value → Bool
  | [] => true
  | .ref a :: r => !badT9 a && okasT9 r
  | _ :: r => okasT9 r
theorem okasT9_kv : ∀ as : List Value, okasT9 as = true → kvS badT9 as := by
  intro as
  induction as with
  | nil => intro _; exact kvS.n
  | cons v r ih =>
    intro h
    cases v with
    | ref a =>
      unfold okasT9 at h
      rw [Bool.and_eq_true, Bool.not_eq_true'] at h
      exact kvS.c (kvO.rf h.1) (ih h.2)
    | _ => exact kvS.c (fun _ q => by cases q) (ih h)
/-- all that comes to those and is not pure: X10_lay, X10_put, X11_copyStore, X11_pour, X11_read, X11_slipAt, X11_slips, X11_tray, X11_write, X12_copyStore, X12_pour, X12_read, X12_tray, X12_write, X8_findAll -/
noncomputable def dtyT9 : List Nat := [0, 27, 32, 40, 53, 58, 74, 85, 86, 88, 94, 96, 98, 99, 103, 104, 105, 106, 117, 134, 135, 172, 181, 184, 185, 186, 254]
set_option maxRecDepth 100000 in
theorem clT9 : ClT pul dtyT9 okgT9 (fun _ _ => true) := ClT.ef (by decide +kernel)
theorem kpT9 {d mi n : Nat} {as : List Value} {I : Im} {J : Jm} {R : Rm} {Q : Qt} (hd : dtyT9.elem mi = false) (hR : RI R) (ha : okasT9 as = true) (h : AM d mi n as I J R (fun x y I' J' R' => KQ9 J J' → Q x y I' J' R')) : AM d mi n as I J R Q :=
  AM_w (F := fun _ J' _ => KQ9 J J') pul_kk clT9 gf_T9 stg_T9 hd (okasT9_kv as ha) (HRf_T9 hR) (fun _ _ => rfl) h
/-- no row of longs is written -/
theorem kpN9 {d mi n : Nat} {as : List Value} {I : Im} {J : Jm} {R : Rm} {Q : Qt} (hd : nbl.elem mi = true) (h : AM d mi n as I J R (fun x y I' J' R' => KQ9 J J' → Q x y I' J' R')) : AM d mi n as I J R Q :=
  AM_m d _ _ _ _ _ _ _ _ (fun x y I' J' R' q => q.2 (fun a ha => q.1.2 a (badT9_sh ha))) (AM_t nbl_t d mi n as I J R _ hd h)
end PT16x11
section PT16x12
/-! ===== the trays' numbers, carried ===== -/
section TQK
variable {I I1 I2 : Im} {J J1 J2 : Jm} {a b c p q n : Int32} {v : Int64}
theorem okT9_i : okT9 a b c ↔ (0 ≤ a.toInt ∧ a.toInt ≤ 3 ∧ 0 ≤ b.toInt ∧ b.toInt ≤ 3 ∧ 0 ≤ c.toInt ∧ c.toInt ≤ 60) := ⟨fun h => ⟨h.1.1, h.1.2, h.2.1.1, h.2.1.2, h.2.2.1, h.2.2.2⟩, fun h => ⟨⟨h.1, h.2.1⟩, ⟨h.2.2.1, h.2.2.2.1⟩, h.2.2.2.2⟩⟩
theorem tq_b {t : Nat} (ht : t < 4) : badT9 (53 + 2 * t + 1) = true := by
  rcases (show t = 0 ∨ t = 1 ∨ t = 2 ∨ t = 3 by omega) with z | z | z | z <;> subst z <;> decide
theorem TQ9.kp (h : TQ9 I J) (k : KQ9 J J2) (e : I2 99 = I 99) : TQ9 I2 J2 := fun t ht k9 hk => by
  rw [k _ (tq_b ht), k 100 (by decide)]
  rw [e] at hk
  exact h t ht k9 hk
theorem TQ9.start (h : ∀ t, t < 4 → I 99 t = -1) : TQ9 I J := fun t ht k hk => by
  rw [h t ht, show (-1 : Int32).toInt = -1 from rfl] at hk
  omega
theorem RT.h60 (hB : Bd I) (hT : RT I) : ∀ t, t < 4 → (I 99 t).toInt ≤ 60 := fun t ht => by
  have hO : isO 112 (53 + 2 * t) 10 = true := by
    rcases (show t = 0 ∨ t = 1 ∨ t = 2 ∨ t = 3 by omega) with z | z | z | z <;> subst z <;> decide +kernel
  have hb := Bd.o hB hO bd9_10_1
  rw [← (hT t ht).2]
  exact hb.2
theorem K9.h60 (k : K9 I I1) (h : ∀ t, t < 4 → (I 99 t).toInt ≤ 60) : ∀ t, t < 4 → (I1 99 t).toInt ≤ 60 := fun t ht => by
  rw [k.2]; exact h t ht
theorem TQ9.write2 (hT : RT I) (h : TQ9 I J) (k : K9 I I1) (k2 : K9 I1 I2) (h60 : ∀ t, t < 4 → (I 99 t).toInt ≤ 60) (h1 : HWr9 I J a b v J1) (h2 : HWq9 I1 J1 a b v J2) : TQ9 I2 J2 := by
  unfold HWq9 at h2
  rw [k.1, k.2] at h2
  exact h.write hT (k2.2.trans k.2) h60 h1 h2
theorem TQ9.pour2 (hT : RT I) (h : TQ9 I J) (k : K9 I I1) (k2 : K9 I1 I2) (h60 : ∀ t, t < 4 → (I 99 t).toInt ≤ 60) (h1 : HPo9 (trL9 I) (trS9 I) J a p b q n J1) (h2 : HPq9 I1 J1 a p b q n J2) : TQ9 I2 J2 := by
  unfold HPq9 at h2
  rw [k.1, k.2] at h2
  exact h.pour hT (k2.2.trans k.2) h60 h1 h2
theorem TQ9.copy2 {R : Rm} (hW : W9 I R) (hT : RT I) (h : TQ9 I J) (k : K9 I I1) (k2 : K9 I1 I2) (e : I1 102 = I 102) (h60 : ∀ t, t < 4 → (I 99 t).toInt ≤ 60) (h1 : HCs9 (trL9 I) (trS9 I) (I (R 1 7 + 1)) J a b J1) (h2 : HCq9 I1 J1 a b J2) : TQ9 I2 J2 := by
  unfold HCq9 at h2
  rw [k.1, k.2, e] at h2
  exact h.copy hT (k2.2.trans k.2) h60 (fun d x y => hW.1.2.1.2.2.1 d x y) h1 h2
theorem TQ9.tray2 {x : Int} (h : TQ9 I J) (k : K9 I I1) (hx1 : x = 1 → okT9 a b c) (hx2 : okT9 a b c → x = 1) (p : (x = 1 ∧ TE I1 I2 a b c) ∨ (x = 0 ∧ K9 I1 I2)) (h60 : ∀ t, t < 4 → (I 99 t).toInt ≤ 60) (h1 : HTr9 J a b c J1) (h2 : HTq9 J1 a b c J2) : TQ9 I2 J2 := by
  refine h.tray (fun z => ?_) (fun z => ?_) h60 h1 h2
  · rcases p with ⟨-, t1, t2⟩ | ⟨x0, -⟩
    · rw [t2]
      refine ⟨upd_at9, fun t ht hn => (upd_ne9 hn).trans (congrFun k.2 t)⟩
    · have := hx2 z; omega
  · rcases p with ⟨x1, -⟩ | ⟨-, t1⟩
    · exact absurd (hx1 x1) z
    · exact t1.2.trans k.2
end TQK
end PT16x12
section PT16x13
/-! ===== a row that is told: the numbers ===== -/
noncomputable def upD (D : Nat → Nat) (p d : Nat) : Nat → Nat := fun i => if i = p then d else D i
noncomputable def smD (D : Nat → Nat) : Nat → Int
  | 0 => 0
  | n + 1 => smD D n + pt (D n)
/-- without the one at a place -/
noncomputable def smX (D : Nat → Nat) (p : Nat) : Nat → Int
  | 0 => 0
  | n + 1 => smX D p n + (if n = p then 0 else pt (D n))
/-- n slices that are a row of l -/
noncomputable def RowP (K : Int32) (D : Nat → Nat) (n : Nat) (l : Int) : Prop := (∀ i, i < n → inS K (nI (D i)) = true) ∧ (∀ i j, i < j → j < n → ¬ D i = D j) ∧ smD D n = l
section SLP
variable {K : Int32} {D : Nat → Nat} {n p d : Nat} {l : Int}
theorem smD_b : ∀ n, (∀ i, i < n → 1 ≤ D i ∧ D i ≤ 30) → 0 ≤ smD D n ∧ smD D n ≤ (n : Int) * 2329089562800 := by
  intro n
  induction n with
  | zero => intro _; exact ⟨Int.le_refl _, Int.le_refl _⟩
  | succ n ih =>
    intro h
    have h1 := ih (fun i hi => h i (by omega))
    obtain ⟨d1, d2⟩ := h n (by omega)
    obtain ⟨p1, p2, -⟩ := pt_b d1 d2
    show 0 ≤ smD D n + pt (D n) ∧ smD D n + pt (D n) ≤ ((n + 1 : Nat) : Int) * 2329089562800
    omega
theorem smX_b : ∀ n, (∀ i, i < n → 1 ≤ D i ∧ D i ≤ 30) → 0 ≤ smX D p n ∧ smX D p n ≤ (n : Int) * 2329089562800 := by
  intro n
  induction n with
  | zero => intro _; exact ⟨Int.le_refl _, Int.le_refl _⟩
  | succ n ih =>
    intro h
    have h1 := ih (fun i hi => h i (by omega))
    obtain ⟨d1, d2⟩ := h n (by omega)
    obtain ⟨p1, p2, -⟩ := pt_b d1 d2
    show 0 ≤ smX D p n + (if n = p then 0 else pt (D n)) ∧ smX D p n + (if n = p then 0 else pt (D n)) ≤ ((n + 1 : Nat) : Int) * 2329089562800
    split <;> omega
theorem smD_up : ∀ n, smD (upD D p d) n = smX D p n + (if p < n then pt d else 0) := by
  intro n
  induction n with
  | zero => rfl
  | succ n ih =>
    show smD (upD D p d) n + pt (upD D p d n) = smX D p n + (if n = p then 0 else pt (D n)) + (if p < n + 1 then pt d else 0)
    rw [ih]
    by_cases q : n = p
    · subst q
      rw [if_pos rfl, if_neg (Nat.lt_irrefl n), if_pos (Nat.lt_succ_self n), show upD D n d n = d from if_pos rfl]
    · rw [if_neg q, show upD D p d n = D n from if_neg q]
      by_cases y : p < n
      · rw [if_pos y, if_pos (by omega)]; omega
      · rw [if_neg y, if_neg (by omega)]; omega
theorem pt_in {a b : Nat} (a1 : 1 ≤ a) (a2 : a ≤ 30) (b1 : 1 ≤ b) (b2 : b ≤ 30) (h : pt a = pt b) : a = b := by
  rcases Nat.lt_trichotomy a b with q | q | q
  · have := pt_lt a1 q b2; omega
  · exact q
  · have := pt_lt b1 q a2; omega
/-- a row with a slice put in another's place -/
theorem RowP_up (hp : p < n) : RowP K (upD D p d) n l ↔ (inS K (nI d) = true ∧ ∀ j, j < n → ¬ j = p → ¬ D j = d) ∧ ((∀ j, j < n → ¬ j = p → inS K (nI (D j)) = true) ∧ ∀ i j, i < j → j < n → ¬ i = p → ¬ j = p → ¬ D i = D j) ∧ smX D p n + pt d = l := by
  have up : upD D p d p = d := if_pos rfl
  have ne : ∀ i, ¬ i = p → upD D p d i = D i := fun i h => if_neg h
  unfold RowP
  rw [smD_up, if_pos hp]
  constructor
  · intro ⟨h1, h2, h3⟩
    refine ⟨⟨?_, fun j hj hn z => ?_⟩, ⟨fun j hj hn => ?_, fun i j hij hj hi hn z => ?_⟩, h3⟩
    · have := h1 p hp; rw [up] at this; exact this
    · rcases Nat.lt_trichotomy j p with q | q | q
      · exact h2 j p q hp (by rw [up, ne j hn]; exact z)
      · exact hn q
      · exact h2 p j q hj (by rw [up, ne j hn]; exact z.symm)
    · have := h1 j hj; rw [ne j hn] at this; exact this
    · exact h2 i j hij hj (by rw [ne i hi, ne j hn]; exact z)
  · intro ⟨⟨h1, h2⟩, ⟨h3, h4⟩, h5⟩
    refine ⟨fun i hi => ?_, fun i j hij hj z => ?_, h5⟩
    · by_cases q : i = p
      · subst q; rw [up]; exact h1
      · rw [ne i q]; exact h3 i hi q
    · by_cases q : i = p
      · subst q
        rw [up, ne j (by omega)] at z
        exact h2 j hj (by omega) z.symm
      · by_cases q2 : j = p
        · subst q2
          rw [up, ne i q] at z
          exact h2 i (by omega) q z
        · rw [ne i q, ne j q2] at z
          exact h4 i j hij hj q q2 z
end SLP
set_option maxRecDepth 100000 in
theorem bi_not9 : ∀ a, a < 31 → ∀ b, b < 31 → (decide (a = 0) || (decide (b = 0) || decide ((biS (nI a) ^^^ (-1)) &&& biS (nI b) = if a = b then 0 else biS (nI b)))) = true := by decide +kernel
theorem inS_not9 {u : Int32} {a b : Nat} (a1 : 1 ≤ a) (a2 : a ≤ 30) (b1 : 1 ≤ b) (b2 : b ≤ 30) : inS (u &&& (biS (nI a) ^^^ (-1))) (nI b) = (inS u (nI b) && decide (¬ a = b)) := by
  have h := bi_not9 a (by omega) b (by omega)
  rw [decide_eq_false (show ¬ a = 0 by omega), decide_eq_false (show ¬ b = 0 by omega), Bool.false_or, Bool.false_or] at h
  have h2 := of_decide_eq_true h
  have e : inS (u &&& (biS (nI a) ^^^ (-1))) (nI b) = !decide ((u &&& (biS (nI a) ^^^ (-1))) &&& biS (nI b) = 0) := rfl
  have e2 : inS u (nI b) = !decide (u &&& biS (nI b) = 0) := rfl
  rw [e, e2, Int32.and_assoc, h2]
  by_cases q : a = b
  · rw [if_pos q, Int32.and_zero, decide_eq_true rfl, decide_eq_false (show ¬ ¬ a = b from fun z => z q), Bool.and_false]; rfl
  · rw [if_neg q, decide_eq_true q, Bool.and_true]
/-- the parts' numbers as longs -/
noncomputable def fxL (d : Nat) : Int64 := 2329089562800 / Int32.toInt64 (nI d)
set_option maxRecDepth 100000 in
theorem fxL_t : ∀ d, d < 31 → (decide (d = 0) || (decide (¬ lg_cmp (fxL d) 1 < 0) && (decide (¬ fxL d = 0) && (decide (lg_cmp (2329089562800 - 2329089562800 / fxL d * fxL d) 0 = 0) && (decide (lg_cmp (2329089562800 / fxL d) 30 ≤ 0) && decide (Int64.toInt32 (2329089562800 / fxL d) = nI d)))))) = true := by decide +kernel
theorem fxL_q {y : Int64} (h1 : 1 ≤ y.toInt) (h2 : lg_cmp (2329089562800 - 2329089562800 / y * y) 0 = 0) (h3 : lg_cmp (2329089562800 / y) 30 ≤ 0) : ∃ d : Nat, 1 ≤ d ∧ d ≤ 30 ∧ y.toInt = pt d := by
  have eL : (2329089562800 : Int64).toInt = 2329089562800 := rfl
  have z0 : (0 : Int64).toInt = 0 := rfl
  have z30 : (30 : Int64).toInt = 30 := rfl
  have iy := i64 y
  rw [lg_cmp_eq] at h2
  rw [lg_cmp_le] at h3
  have hq : (2329089562800 / y : Int64).toInt = 2329089562800 / y.toInt := by
    rw [Int64.toInt_div_of_ne_left _ _ (by decide), eL, Int.tdiv_eq_ediv_of_nonneg (by decide)]
  have a1 : 0 ≤ 2329089562800 / y.toInt := Int.ediv_nonneg (by decide) (by omega)
  have hm : 2329089562800 / y.toInt * y.toInt ≤ 2329089562800 := Int.ediv_mul_le _ (by omega)
  have hm0 : 0 ≤ 2329089562800 / y.toInt * y.toInt := Int.mul_nonneg a1 (by omega)
  have em : (2329089562800 / y * y : Int64).toInt = 2329089562800 / y.toInt * y.toInt := tl_mul9 hq rfl (by omega)
  have er : (2329089562800 - 2329089562800 / y * y : Int64).toInt = 2329089562800 - 2329089562800 / y.toInt * y.toInt := tl_sub eL em (by omega)
  have h0 := cl_eq er z0 h2
  have h30 := cl_le hq z30 h3
  have q1 : 1 ≤ 2329089562800 / y.toInt := Int.not_lt.mp (fun z => by
    have e : 2329089562800 / y.toInt = 0 := by omega
    rw [e] at h0
    omega)
  refine ⟨(2329089562800 / y.toInt).toNat, by omega, by omega, ?_⟩
  obtain ⟨-, -, p3⟩ := pt_b (d := (2329089562800 / y.toInt).toNat) (by omega) (by omega)
  have en : (((2329089562800 / y.toInt).toNat : Nat) : Int) = 2329089562800 / y.toInt := by omega
  rw [en] at p3
  have e2 : y.toInt * (2329089562800 / y.toInt) = pt (2329089562800 / y.toInt).toNat * (2329089562800 / y.toInt) := by
    rw [p3, Int.mul_comm]; omega
  exact Int.eq_of_mul_eq_mul_right (by omega) e2
end PT16x13
section PT16x14
/-! ===== what fits in a place of a row, the scribe's; whether it is a row, the reference's ===== -/
/-- the tray's first n numbers are the slices D -/
noncomputable def clD (J : Jm) (o n : Nat) (D : Nat → Nat) : Prop := ∀ i, i < n → Int64.toInt32 (J o i) = nI (D i) ∧ 1 ≤ D i ∧ D i ≤ 30
section FXA
variable {I : Im} {J : Jm} {R : Rm} {Q : Qt}
theorem px_fixAt9 {dd o n p : Nat} {K : Int32} {v : Int64} {l : Int} {D : Nat → Nat} (hO : isO 112 o 10 = true) (hn : n ≤ 8) (hp : p < n) (hK : 0 ≤ K.toInt) (hv : v.toInt = l) (hl : -1000000000000000 ≤ l ∧ l ≤ 1000000000000000) (hD : clD J (o + 1) n D) (hY : ∀ d, 1 ≤ d → d ≤ 30 → RowP K (upD D p d) n l → Q (nI d) 0 I J R) (hN : (∀ d, 1 ≤ d → d ≤ 30 → ¬ RowP K (upD D p d) n l) → Q (-1) 0 I J R) : AM (dd + 2) 87 112 [.ref o, .int (nI n), .int (nI p), .int K, .long v] I J R Q := by
  obtain ⟨a1, l1, -⟩ := fa_10_2 hO
  refine am_X8_fixAt (fun P hc => sg_X8_fixAt_0 hc _ _ _ _ _ _ _ _ ?_)
  have hDb : ∀ m, m ≤ n → ∀ i, i < m → 1 ≤ D i ∧ D i ≤ 30 := fun m hm i hi => (hD i (by omega)).2
  have L80 : ∀ (u : Int32) (r : Int64), 0 ≤ u.toInt → (∀ d, 1 ≤ d → d ≤ 30 → (inS u (nI d) = true ↔ inS K (nI d) = true ∧ ∀ j, j < n → ¬ j = p → ¬ D j = d)) → r.toInt = l - smX D p n → (∀ j, j < n → ¬ j = p → inS K (nI (D j)) = true) → (∀ i j, i < j → j < n → ¬ i = p → ¬ j = p → ¬ D i = D j) → P 80 112 [(6, .int u), (7, .long r)] [] I J R := by
    intro u r hu hm hr h3 h4
    have row : ∀ d, 1 ≤ d → d ≤ 30 → (RowP K (upD D p d) n l ↔ inS u (nI d) = true ∧ r.toInt = pt d) := fun d d1 d2 => by
      rw [RowP_up hp, hm d d1 d2]
      constructor
      · intro ⟨z1, _, z3⟩; exact ⟨z1, by omega⟩
      · intro ⟨z1, z2⟩; exact ⟨z1, ⟨h3, h4⟩, by omega⟩
    have one : (1 : Int64).toInt = 1 := rfl
    by_cases q : ∃ d : Nat, 1 ≤ d ∧ d ≤ 30 ∧ r.toInt = pt d
    · obtain ⟨d, d1, d2, e⟩ := q
      have er : r = fxL d := Int64.toInt_inj.mp (by rw [e]; exact (ptL d (by omega) d1).2.1.symm)
      have t := fxL_t d (by omega)
      rw [decide_eq_false (show ¬ d = 0 by omega), Bool.false_or, Bool.and_eq_true, Bool.and_eq_true, Bool.and_eq_true, Bool.and_eq_true] at t
      obtain ⟨t1, t2, t3, t4, t5⟩ := t
      have t1 := of_decide_eq_true t1
      have t2 := of_decide_eq_true t2
      have t3 := of_decide_eq_true t3
      have t4 := of_decide_eq_true t4
      have t5 := of_decide_eq_true t5
      rw [← er] at t1 t2 t3 t4 t5
      refine sg_X8_fixAt_80 hc _ _ _ _ _ ⟨fun c => absurd c t1, fun _ => ⟨t2, fun c => absurd t3 c, fun _ => ⟨t2, fun _ => ⟨t2, ?_⟩, fun c => absurd t4 c⟩⟩⟩
      rw [t5]
      have un : ∀ d2', 1 ≤ d2' → d2' ≤ 30 → r.toInt = pt d2' → d2' = d := fun x x1 x2 ex => pt_in x1 x2 d1 d2 (ex.symm.trans e)
      refine px_isIn (fun hi _ => ⟨fun z => absurd z (by decide), fun _ => hY d d1 d2 ((row d d1 d2).mpr ⟨hi, e⟩)⟩) (fun hi _ => ⟨fun _ => hN (fun x x1 x2 z => ?_), fun z => absurd rfl z⟩)
      obtain ⟨z1, z2⟩ := (row x x1 x2).mp z
      rw [un x x1 x2 z2, hi] at z1
      cases z1
    · have fin := hN (fun d d1 d2 z => q ⟨d, d1, d2, ((row d d1 d2).mp z).2⟩)
      refine sg_X8_fixAt_80 hc _ _ _ _ _ ⟨fun _ => fin, fun c1 => ?_⟩
      rw [lg_cmp_lt] at c1
      have r1 : 1 ≤ r.toInt := cl_nlt rfl one c1
      have r0 : ¬ r = 0 := fun z => by
        rw [z] at r1
        exact absurd r1 (by decide)
      exact ⟨r0, fun _ => fin, fun c2 => ⟨r0, fun c3 => absurd (fxL_q r1 c2 c3) q, fun _ => fin⟩⟩
  have L10 : ∀ (f : Nat) (u : Int32) (r : Int64), f ≤ n → 0 ≤ u.toInt → (∀ d, 1 ≤ d → d ≤ 30 → (inS u (nI d) = true ↔ inS K (nI d) = true ∧ ∀ j, j < n - f → ¬ j = p → ¬ D j = d)) → r.toInt = l - smX D p (n - f) → (∀ j, j < n - f → ¬ j = p → inS K (nI (D j)) = true) → (∀ i j, i < j → j < n - f → ¬ i = p → ¬ j = p → ¬ D i = D j) → P 10 112 [(0, .ref o), (1, .int (nI n)), (2, .int (nI p)), (6, .int u), (7, .long r), (9, .int (nI (n - f)))] [] I J R := by
    intro f
    induction f with
    | zero =>
      intro u r _ hu hm hr h3 h4
      exact sg_X8_fixAt_10 hc _ _ _ _ _ _ _ _ _ ⟨fun _ => L80 u r hu hm hr h3 h4, fun c => absurd ((nle_nI (b := n - 0) (by omega) (by omega)).mpr (by omega)) c⟩
    | succ f ih =>
      intro u r hf hu hm hr h3 h4
      have en : nI (n - (f + 1)) + 1 = nI (n - f) := by rw [nI_k1]; exact congrArg nI (by omega)
      have es : smX D p (n - f) = smX D p (n - (f + 1)) + (if n - (f + 1) = p then 0 else pt (D (n - (f + 1)))) := by
        rw [show n - f = n - (f + 1) + 1 by omega]; rfl
      have hb := smX_b (D := D) (p := p) (n - (f + 1)) (hDb _ (by omega))
      refine sg_X8_fixAt_10 hc _ _ _ _ _ _ _ _ _ ⟨fun c => absurd ((nle_nI (by omega) (by omega)).mp c) (by omega), fun _ => ⟨fun c => absurd ((nle_nI (a := 60) (by omega) (by omega)).mp c) (by omega), fun _ => ⟨fun c => ?_, fun c => ?_⟩⟩⟩
      · have ep : n - (f + 1) = p := nI_inj (by omega) (by omega) c
        rw [en]
        refine ih u r (by omega) hu (fun d d1 d2 => ?_) ?_ (fun j hj hjp => h3 j (by omega) hjp) (fun i j hij hj hi hjp => h4 i j hij (by omega) hi hjp)
        · rw [hm d d1 d2]
          constructor
          · intro ⟨z1, z2⟩; exact ⟨z1, fun j hj hjp => z2 j (by omega) hjp⟩
          · intro ⟨z1, z2⟩; exact ⟨z1, fun j hj hjp => z2 j (by omega) hjp⟩
        · rw [es, if_pos ep, hr]; omega
      · have ep : ¬ n - (f + 1) = p := fun z => c (congrArg nI z)
        obtain ⟨dv, d1, d2⟩ := hD (n - (f + 1)) (by omega)
        refine bif_t hO (bif_t a1 ⟨by rw [l1]; exact vp_nI (by omega) (by omega), ?_⟩)
        rw [tn_nI (by omega), dv]
        generalize hd : D (n - (f + 1)) = d at dv d1 d2 ⊢
        obtain ⟨p1, p2, -⟩ := pt_b d1 d2
        refine px_isIn (fun hi _ => ⟨fun _ => w_X11_bit (px_cr1 d1 d2 (fun y hy => ?_)), fun z => absurd z (by decide)⟩) (fun hi _ => ⟨fun z => absurd rfl z, fun _ => hN (fun x x1 x2 z => ?_)⟩)
        · rw [en]
          obtain ⟨k1, k2⟩ := (hm d d1 d2).mp hi
          have eu : u &&& ((1 <<< ((nI d - 1) &&& 31)) ^^^ (-1)) = u &&& (biS (nI d) ^^^ (-1)) := rfl
          rw [eu]
          refine ih _ (r - y) (by omega) (an_ge hu) (fun x x1 x2 => ?_) ?_ (fun j hj hjp => ?_) (fun i j hij hj hi2 hjp => ?_)
          · rw [inS_not9 d1 d2 x1 x2, Bool.and_eq_true, decide_eq_true_eq, hm x x1 x2]
            constructor
            · intro ⟨⟨z1, z2⟩, z3⟩
              refine ⟨z1, fun j hj hjp => ?_⟩
              by_cases y : j = n - (f + 1)
              · subst y; rw [hd]; exact z3
              · exact z2 j (by omega) hjp
            · intro ⟨z1, z2⟩
              refine ⟨⟨z1, fun j hj hjp => z2 j (by omega) hjp⟩, fun z3 => ?_⟩
              exact z2 (n - (f + 1)) (by omega) ep (by rw [hd]; exact z3)
          · rw [es, if_neg ep, hd]
            exact (tl_sub hr hy (by omega)).trans (by omega)
          · by_cases y : j = n - (f + 1)
            · subst y; rw [hd]; exact k1
            · exact h3 j (by omega) hjp
          · by_cases y : j = n - (f + 1)
            · subst y; rw [hd]; exact k2 i (by omega) hi2
            · exact h4 i j hij (by omega) hi2 hjp
        · obtain ⟨-, ⟨z3, z4⟩, -⟩ := (RowP_up hp).mp z
          have kd := z3 (n - (f + 1)) (by omega) ep
          rw [hd] at kd
          have hh : inS u (nI d) = true := (hm d d1 d2).mpr ⟨kd, fun j hj hjp y => z4 j (n - (f + 1)) hj (by omega) hjp ep (by rw [hd]; exact y)⟩
          rw [hi] at hh
          cases hh
  have k := L10 n K v (Nat.le_refl _) hK (fun d d1 d2 => ⟨fun z => ⟨z, fun j hj => absurd hj (by omega)⟩, fun z => z.1⟩) (by rw [Nat.sub_self]; show v.toInt = l - 0; omega) (fun j hj => absurd hj (by omega)) (fun i j hij hj => absurd hj (by omega))
  rw [Nat.sub_self] at k
  exact k
end FXA
end PT16x14
section PT16x15
/-! ===== whether what is told is a row, one slice put in another's place: the reference's ===== -/
section IRA
variable {I : Im} {J : Jm} {R : Rm} {Q : Qt}
/-- the tray's numbers with one of them put in place -/
noncomputable def ovD (D : Nat → Nat) (pl sl : Int32) (i : Nat) : Int32 := if nI i = pl then sl else nI (D i)
theorem px_isRow9 {dd n : Nat} {a pl sl : Int32} {v : Int64} {l : Int} {D E : Nat → Nat} (ht : tr9 a) (hn : n ≤ 8) (hK : 0 ≤ (I 102 3).toInt) (hv : v.toInt = l) (hl : -1000000000000000 ≤ l ∧ l ≤ 1000000000000000) (hD : ∀ i, i < n → Int64.toInt32 (J 100 (60 * nn9 a + i)) = nI (D i)) (hE : ∀ i, i < n → ovD D pl sl i = nI (E i) ∧ 1 ≤ E i ∧ E i ≤ 30) (hY : RowP (I 102 3) E n l → Q 1 0 I J R) (hN : ¬ RowP (I 102 3) E n l → Q 0 0 I J R) : AM (dd + 2) 284 112 [.ref 97, .int a, .int (nI n), .int pl, .int sl, .long v] I J R Q := by
  have t3 : Int32.toNatClampNeg 3 = 3 := rfl
  have v3 : vp_in 3 1620 := vp_of (a := 3) rfl (by decide) (by decide)
  have z0 : (0 : Int64).toInt = 0 := rfl
  refine am_X12_isRow (fun P hc => sg_X12_isRow_0 hc _ _ _ _ _ _ _ _ ?_)
  have L : ∀ (f : Nat) (s : Int32) (r : Int64), f ≤ n → (0 ≤ s.toInt ∧ s.toInt < 1073741824) → (∀ d, 1 ≤ d → d ≤ 30 → (inS s (nI d) = true ↔ ∃ j, j < n - f ∧ E j = d)) → r.toInt = l - smD E (n - f) → (∀ j, j < n - f → inS (I 102 3) (nI (E j)) = true) → (∀ i j, i < j → j < n - f → ¬ E i = E j) → P 10 112 [(0, .ref 97), (1, .int a), (2, .int (nI n)), (3, .int pl), (4, .int sl), (7, .int s), (8, .long r), (10, .int (nI (n - f)))] [] I J R := by
    intro f
    induction f with
    | zero =>
      intro s r _ hs hm hr h3 h4
      refine sg_X12_isRow_10 hc _ _ _ _ _ _ _ _ _ _ ⟨fun _ => ⟨fun c => ⟨Or.inl rfl, hN (fun z => ?_)⟩, fun c => ⟨Or.inr rfl, hY ⟨h3, h4, ?_⟩⟩⟩, fun c => absurd ((nle_nI (b := n - 0) (by omega) (by omega)).mpr (by omega)) c⟩
      · rw [lg_cmp_eq] at c
        have := cl_ne hr z0 c
        have z2 : smD E n = l := z.2.2
        have e0 : smD E (n - 0) = smD E n := rfl
        omega
      · rw [lg_cmp_eq] at c
        have := cl_eq hr z0 c
        have e0 : smD E (n - 0) = smD E n := rfl
        omega
    | succ f ih =>
      intro s r hf hs hm hr h3 h4
      have en : nI (n - (f + 1)) + 1 = nI (n - f) := by rw [nI_k1]; exact congrArg nI (by omega)
      have es : smD E (n - f) = smD E (n - (f + 1)) + pt (E (n - (f + 1))) := by
        rw [show n - f = n - (f + 1) + 1 by omega]; rfl
      have hb := smD_b (D := E) (n - (f + 1)) (fun i hi => (hE i (by omega)).2)
      obtain ⟨ev, d1, d2⟩ := hE (n - (f + 1)) (by omega)
      obtain ⟨p1, p2, -⟩ := pt_b d1 d2
      have l1 : (1 : Int32) ≤ nI (E (n - (f + 1))) := (nle_nI (a := 1) (by omega) (by omega)).mpr d1
      have l2 : nI (E (n - (f + 1))) ≤ (30 : Int32) := (nle_nI (b := 30) (by omega) (by omega)).mpr d2
      -- one number: by its slice
      have step : AM (dd + 1) 189 112 [.int s, .int (nI (E (n - (f + 1))) - 1)] I J R (fun x2 y2 I2 J2 R2 => (x2 = 0 ∨ x2 = 1) → ((¬ x2 = (0 : Int32) → (((0 : Int32) = 0 ∨ (0 : Int32) = 1) ∧ Q 0 0 I2 J2 R)) ∧ (x2 = (0 : Int32) → (vp_in 3 1620 ∧ (AM (dd + 1) 189 112 [.int (I2 102 (Int32.toNatClampNeg 3)), .int (nI (E (n - (f + 1))) - 1)] I2 J2 R (fun x3 y3 I3 J3 R3 => (x3 = 0 ∨ x3 = 1) → ((¬ x3 = (0 : Int32) → (AM (dd + 1) 240 112 [.int (nI (E (n - (f + 1))))] I3 J3 R (fun x4 y4 I4 J4 R4 => P 10 112 [(0, .ref 97), (1, .int a), (2, .int (nI n)), (3, .int pl), (4, .int sl), (7, .int (s ||| (1 <<< ((nI (E (n - (f + 1))) - 1) &&& 31)))), (8, .long (r - y4)), (10, .int (nI (n - (f + 1)) + 1))] [] I4 J4 R))) ∧ (x3 = (0 : Int32) → (((0 : Int32) = 0 ∨ (0 : Int32) = 1) ∧ Q 0 0 I3 J3 R))))))))) := by
        refine px_isOf hs.1 l1 l2 (fun hi _ => ⟨fun _ => ⟨Or.inl rfl, hN (fun z => ?_)⟩, fun z => absurd z (by decide)⟩) (fun hi _ => ⟨fun z => absurd rfl z, fun _ => ⟨v3, ?_⟩⟩)
        · obtain ⟨j, hj, ej⟩ := (hm _ d1 d2).mp hi
          exact z.2.1 j (n - (f + 1)) hj (by omega) ej
        · rw [t3]
          refine px_isOf hK l1 l2 (fun hk _ => ⟨fun _ => px_parts d1 d2 (fun y hy => ?_), fun z => absurd z (by decide)⟩) (fun hk _ => ⟨fun z => absurd rfl z, fun _ => ⟨Or.inl rfl, hN (fun z => ?_)⟩⟩)
          · rw [en]
            refine ih _ (r - y) (by omega) (bi_in hs l1 l2) (fun x x1 x2 => ?_) ((tl_sub hr hy (by omega)).trans (by rw [es]; omega)) (fun j hj => ?_) (fun i j hij hj => ?_)
            · have e2 : inS (s ||| (1 <<< ((nI (E (n - (f + 1))) - 1) &&& 31))) (nI x) = (inS s (nI x) || decide (x = E (n - (f + 1)))) := inS_or9 hs d1 d2 x1 x2
              rw [e2, Bool.or_eq_true, decide_eq_true_eq, hm x x1 x2]
              constructor
              · intro z
                rcases z with ⟨j, hj, ej⟩ | z
                · exact ⟨j, by omega, ej⟩
                · exact ⟨n - (f + 1), by omega, z.symm⟩
              · intro ⟨j, hj, ej⟩
                by_cases y2 : j = n - (f + 1)
                · subst y2; exact Or.inr ej.symm
                · exact Or.inl ⟨j, by omega, ej⟩
            · by_cases y2 : j = n - (f + 1)
              · subst y2; exact hk
              · exact h3 j (by omega)
            · by_cases y2 : j = n - (f + 1)
              · subst y2
                intro z
                have hh := (hm _ d1 d2).mpr ⟨i, hij, z⟩
                rw [hi] at hh
                cases hh
              · exact h4 i j hij (by omega)
          · have kd := z.1 (n - (f + 1)) (by omega)
            rw [hk] at kd
            cases kd
      refine sg_X12_isRow_10 hc _ _ _ _ _ _ _ _ _ _ ⟨fun c => absurd ((nle_nI (by omega) (by omega)).mp c) (by omega), fun _ => ⟨fun c => ?_, fun c => ?_⟩⟩
      · have hd := hD (n - (f + 1)) (by omega)
        have eo : ovD D pl sl (n - (f + 1)) = nI (D (n - (f + 1))) := if_neg c
        rw [eo] at ev
        obtain ⟨ix, vx⟩ := ix60 (b := nI (n - (f + 1))) ht (by rw [nI_toInt (by omega)]; omega) (by rw [nI_toInt (by omega)]; omega)
        refine w_X12_numberOf ⟨vx, ?_⟩
        rw [ix, show nn9 (nI (n - (f + 1))) = n - (f + 1) from tn_nI (by omega), hd, ev]
        exact step
      · have eo : ovD D pl sl (n - (f + 1)) = sl := if_pos c
        rw [eo] at ev
        rw [ev] at step ⊢
        exact step
  have k := L n 0 v (Nat.le_refl _) (by decide) (fun d d1 d2 => ?_) (by rw [Nat.sub_self]; show v.toInt = l - 0; omega) (fun j hj => absurd hj (by omega)) (fun i j hij hj => absurd hj (by omega))
  · rw [Nat.sub_self] at k
    exact k
  · have e : inS 0 (nI d) = false := by
      unfold inS
      rw [Int32.zero_and]; rfl
    rw [e]
    exact ⟨(fun z => absurd z Bool.false_ne_true), (fun ⟨j, hj, _⟩ => absurd hj (by omega))⟩
end IRA
end PT16x15
