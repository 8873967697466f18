section PT16x0
/-! ===== mean() for the relation of stores ===== -/
section W9N
variable {I I1 I2 : Im} {J J1 J2 : Jm} {R : Rm} {v1 v2 x : Int32} {Q : Qt}
/-- all but what is at e -/
noncomputable def KS99 (e : Nat) (I I2 : Im) : Prop := (∀ a, badW9 a = true → ¬ (e ≤ a ∧ a ≤ e + 5) → I2 a = I a) ∧ (∀ c, c ∈ BKL → ¬ c = e → I2 c 1 = I c 1 ∧ I2 c 3 = I c 3) ∧ ∀ c, c ∈ BP9 → I2 c = I c
theorem KS99.of {e : Nat} (h : ∀ c, ¬ c = 1 → ¬ (e ≤ c ∧ c ≤ e + 5) → ¬ c = 51 → ¬ c = 52 → I2 c = I c) (he : e = 9 ∨ e = 15) : KS99 e I I2 := by
  refine ⟨fun a ha hn => ?_, fun c hc hn => ?_, fun c hc => ?_⟩
  · have hm := arW9_sh a (badW9_mem ha)
    refine h a (fun q => ?_) hn (fun q => ?_) (fun q => ?_)
    · subst q; exact absurd hm (by decide)
    · subst q; exact absurd hm (by decide)
    · subst q; exact absurd ha (by decide)
  · have h6 := bk_six hc
    rw [h c (by omega) (by omega) (by omega) (by omega)]; exact ⟨rfl, rfl⟩
  · have h5 := bp_five hc
    exact h c (by omega) (by omega) (by omega) (by omega)
theorem KS99.tr {e : Nat} {I3 : Im} (h : KS99 e I I2) (k : KW99 I2 I3) : KS99 e I I3 :=
  ⟨fun a ha hn => (k.1 a ha).trans (h.1 a ha hn), fun c hc hn => ⟨(k.2.1 c hc).1.trans (h.2.1 c hc hn).1, (k.2.1 c hc).2.trans (h.2.1 c hc hn).2⟩, fun c hc => (k.2.2 c hc).trans (h.2.2 c hc)⟩
theorem KS99.bh {e o : Nat} {C : Nat → Int32} (k : KS99 e I I2) (he : e = 9 ∨ e = 15) (ho : o ∈ BKL) (hn : ¬ o = e) (h : BA99 o C I) : BA99 o C I2 := by
  have q := k.2.1 o ho hn
  have h6 := bk_six ho
  refine h.cp q.1 q.2 (fun c hc => k.1 c ?_ (by omega))
  rcases h6 with q | q | q | q | q <;> subst q <;> rcases hc with y | y | y | y <;> subst y <;> decide
theorem KS99.dh {e p : Nat} {C : Nat → Int32} (k : KS99 e I I2) (he : e = 9 ∨ e = 15) (hp : p ∈ BP9) (h : DH9 p C I) : DH9 p C I2 := by
  refine h.cp (fun c h1 h2 => ?_)
  have h5 := bp_five hp
  by_cases q : c = p
  · subst q; exact k.2.2 c hp
  · refine k.1 c ?_ (by omega)
    rcases h5 with y | y | y | y | y <;> subst y
    · rcases (show c = 22 ∨ c = 23 ∨ c = 24 ∨ c = 25 ∨ c = 26 by omega) with y | y | y | y | y <;> subst y <;> decide
    · rcases (show c = 28 ∨ c = 29 ∨ c = 30 ∨ c = 31 ∨ c = 32 by omega) with y | y | y | y | y <;> subst y <;> decide
    · rcases (show c = 68 ∨ c = 69 ∨ c = 70 ∨ c = 71 ∨ c = 72 by omega) with y | y | y | y | y <;> subst y <;> decide
    · rcases (show c = 80 ∨ c = 81 ∨ c = 82 ∨ c = 83 ∨ c = 84 by omega) with y | y | y | y | y <;> subst y <;> decide
    · rcases (show c = 92 ∨ c = 93 ∨ c = 94 ∨ c = 95 ∨ c = 96 by omega) with y | y | y | y | y <;> subst y <;> decide
theorem sp_e {R : Rm} (hR : RI R) : (R 1 8 = 9 ∨ R 1 8 = 15) ∧ ¬ R 1 7 = R 1 8 := by
  have := hR.rp.1
  omega
theorem W9.kS (hR : RI R) (h : W9 I R) (k : KS99 (R 1 8) I I2) (e : I2 102 = I 102) (e23 : I2 97 23 = I 97 23) : W9 I2 R := by
  obtain ⟨he, hne⟩ := sp_e hR
  refine ⟨?_, fun j hj hm => ?_⟩
  · obtain ⟨h1, h2, h3⟩ := h.1
    rw [e]
    exact ⟨h1, k.bh he (now_bk hR) hne h2, k.dh he (pl_bp hR) h3⟩
  · rw [e23] at hm
    have eb : blk9 (324 * (j + 1)) I2 = blk9 (324 * (j + 1)) I := funext fun i => congrFun e _
    obtain ⟨h1, h2, h3⟩ := h.2 j hj hm
    rw [eb]
    exact ⟨h1, k.bh he (kb_bk hj) (by omega) h2, k.dh he (kd_bp hj) h3⟩
noncomputable def okM9 (v1 v2 : Int32) (I : Im) : Prop := ((0 : Int32) ≤ v1 ∧ v1 ≤ 9999) ∧ ((1 : Int32) ≤ v2 ∧ v2 ≤ 20) ∧ v1.toInt + v2.toInt ≤ 10000 ∧ ¬ I 102 52 = 0
noncomputable def MnX9 (v1 v2 : Int32) (I : Im) (x : Int32) : Prop := (x = 1 ∧ okM9 v1 v2 I) ∨ (x = 0 ∧ ¬ okM9 v1 v2 I)
noncomputable def HMe9 (R : Rm) (v1 v2 : Int32) (I : Im) (x : Int32) (I1 : Im) : Prop := MnX9 v1 v2 I x ∧ KS99 (R 1 8) I I1 ∧ I1 102 = I 102 ∧ I1 97 23 = I 97 23 ∧ KL9 I I1
set_option maxHeartbeats 1000000 in
theorem cx_mean9 {d : Nat} (hB0 : Bd I) (hR : RI R) (em : I (R 1 7) 4 = I 102 0) (h : W9 I R) : AM (d + 7) 146 112 [.ref 1, .int v1, .int v2] I J R (fun x _ I1 _ _ => HMe9 R v1 v2 I x I1) := by
  have hO := hR.now.1
  have hS := hR.spare.1
  have hP := hR.plan.1
  obtain ⟨he, hne⟩ := sp_e hR
  have n7 := now_9 hR
  have n9 := n9_p hR
  obtain ⟨q1, q2, q3⟩ := h.1
  have hm := q1.m
  have i0 : (0 : Int32).toInt = 0 := rfl
  have i1 : (1 : Int32).toInt = 1 := rfl
  have i20 : (20 : Int32).toInt = 20 := rfl
  have i9 : (9999 : Int32).toInt = 9999 := rfl
  refine am_X11_mean (fun P hc => ?_)
  have no : ∀ z : Int32, ¬ okM9 v1 v2 I → HMe9 R v1 v2 I 0 (uI I 1 0 z) := fun z hz => ⟨Or.inr ⟨rfl, hz⟩, KS99.of (fun c a _ _ _ => uI_ne a) he, uI_ne (by decide), rd_ne (by decide), uI_ne (by decide), uI_ne (by decide), rd_ne (by decide)⟩
  have ny : ∀ z : Int32, ¬ okM9 v1 v2 I → AM (d + 6) 150 112 [.ref 1, .int z] I J R (fun x1 _ I1 _ _ => (x1 = 0 ∨ x1 = 1) → (((x1 : Int32) = 0 ∨ (x1 : Int32) = 1) ∧ HMe9 R v1 v2 I x1 I1)) := fun z hz => w_X11_deny ⟨Or.inl rfl, fun _ => ⟨Or.inl rfl, no _ hz⟩⟩
  have L : okM9 v1 v2 I → ∀ n : Nat, (∀ (v3 : Int64) (v5 : Int32) (M : Im) (JM : Jm), Bd M → (∀ c, ¬ (R 1 8 ≤ c ∧ c ≤ R 1 8 + 5) → ¬ c = 51 → ¬ c = 52 → M c = I c) → (0 ≤ v5.toInt ∧ v5.toInt ≤ 20) → 30 - v5.toInt < (n : Int) → P 61 112 [(0, .ref 1), (1, .int v1), (2, .int v2), (3, .long v3), (5, .int v5)] [] M JM R) := by
    intro hok n
    obtain ⟨⟨o1, o2⟩, ⟨o3, o4⟩, o5, h52⟩ := id hok
    rw [le_i] at o1 o2 o3 o4
    obtain ⟨s, hg⟩ := q3.2 h52
    have hE := h.ev hB0 h52 hg
    have hs := h.hs
    obtain ⟨g1, g2, g3, g4, g5, g6, g7⟩ := id hg
    have hV : ∀ a, a < dL s → VC9 (I 102 0) (dC s a) := fun a ha => by
      rcases (g2.2.2.2 a ha).2.2 with q | ⟨t, ht, q⟩
      · exact ⟨fun z => by rw [q] at z; exact absurd z (by decide), fun z => by rw [q] at z; exact absurd z (by decide)⟩
      · have := (hE.2.2.2.2 t ht).2.2
        rw [q] at this; exact this
    induction n with
    | zero => exact fun v3 v5 M J _ _ hi hm => absurd hm (by omega)
    | succ n ih =>
      intro v3 v5 M JM hB hM hi hmm
      refine sg_X11_mean_61 hc _ _ _ _ _ _ _ ⟨fun c1 => ?_, fun c1 => ?_⟩
      · refine kpW9 rfl hR rfl (kpL9 rfl hR rfl (k3w rfl rfl rfl hR rfl rfl (sp_X11_tell hB hR (fun x3 y8 I4 J5 hB6 p7 kc kn ka kl kw o9 => ⟨o9, Or.inl ⟨x_one p7, hok⟩, (KS99.of (fun c _ a2 a3 a4 => hM c a2 a3 a4) he).tr kw, kc.1.trans (hM 102 (by omega) (by decide) (by decide)), ka.2.trans (congrFun (hM 97 (by omega) (by decide) (by decide)) 23), KL9.tr ⟨hM 49 (by omega) (by decide) (by decide), hM 112 (by omega) (by decide) (by decide), congrFun (hM 97 (by omega) (by decide) (by decide)) 40⟩ kl⟩))))
      · have d11 : (v5.toInt : Int) < v2.toInt := ci_nle rfl rfl c1
        refine ⟨hR.spare.2, hR.now.2, bif_t hS (kx (px_cpB (Q := fun _ _ I2 J2 _ => (∀ c, ¬ (R 1 8 ≤ c ∧ c ≤ R 1 8 + 5) → I2 c = M c) ∧ I2 (R 1 8) 4 = M (R 1 7) 4 ∧ CpB9 (R 1 8) (R 1 7) M I2) hS hO (by omega) (fun I2 J2 f1 _ y4 _ y1 y3 yst yn => ⟨f1, y4, y1, y3, yst, fun k hk => (yn k hk).2⟩)) (sp_X0_copyFrom hB hR hS hO (fun x12 y17 I13 J14 hB15 p16 fg => ?_)))⟩
        obtain ⟨f1, y4, ycp⟩ := fg
        have c0 : ∀ c, ¬ (R 1 8 ≤ c ∧ c ≤ R 1 8 + 5) → ¬ c = 51 → ¬ c = 52 → I13 c = I c := fun c a1 a2 a3 => (f1 c a1).trans (hM c a1 a2 a3)
        have hb13 : BA99 (R 1 8) (I 102) I13 := (q2.cp (I2 := M) (congrFun (hM (R 1 7) (by omega) (by omega) (by omega)) 1) (congrFun (hM (R 1 7) (by omega) (by omega) (by omega)) 3) (fun c hc => hM c (by omega) (by omega) (by omega))).cy hm.1 ycp
        have m13 : I13 (R 1 8) 4 = I 102 0 := y4.trans ((congrFun (hM (R 1 7) (by omega) (by omega) (by omega)) 4).trans em)
        have s13 : SDc s (R 1 9) I13 := g5.cp (fun c a1 a2 => c0 c (by omega) (by omega) (by omega))
        refine ⟨hR.spare.2, hR.plan.2, ?_⟩
        have run : AM (d + 6) 41 112 [.ref 51, .ref (R 1 8), .ref (R 1 9), .int (v1 + v5)] I13 J14 R (fun _ _ I2 J2 _ => FrLf 51 (R 1 8) I13 J14 I2 J2) :=
          px_run4 (du := du9 I) (od := I 102 1) (m := I 102 0) (M := mnN (I 102)) (st := s9 I) (s := s) rfl hS hP (by omega) (by omega) g1 g2 s13 hV m13 hE.2.1 hb13.1 (fun k hk => ⟨(hb13.2.2.2 k hk).1, (hb13.2.2.2 k hk).2.1⟩) hE.2.2.1 ⟨hb13.2.2.1, fun k hk => (hb13.2.2.2 k hk).2.2, hb13.2.1⟩ (fun I2 _ _ _ _ hF => hF)
        refine kx run (sp_X4_run hB15 hR io9_112_51_4 hS hP (fun x18 y23 I19 J20 hB21 p22 hF => ?_))
        refine ⟨hR.spare.2, bif_t hS ?_⟩
        refine kpp rfl (sp_X0_allHoldings hB21 hR hS (fun x24 y29 I25 J26 hB27 p28 eI eJ _ => ?_))
        subst eI
        have e30 : (v5 + 1 : Int32).toInt = v5.toInt + 1 := ti_add rfl rfl (by omega)
        exact ih _ _ _ _ hB27 (fun c a1 a2 a3 => (hF.c (fun k q => by rcases q with (q | q | q) | q | q <;> omega)).trans (c0 c a1 a2 a3)) (by omega) (by omega)
  refine sg_X11_mean_0 hc _ _ _ _ _ ⟨fun c => ny 5 (fun z => ile.mpr z.1.1 c), fun c1 => ⟨fun c => ny 5 (fun z => ile.mpr z.1.2 c), fun c2 => ⟨fun c => ny 5 (fun z => ile.mpr z.2.1.1 c), fun c3 => ⟨fun c => ny 5 (fun z => ile.mpr z.2.1.2 c), fun c4 => ?_⟩⟩⟩⟩
  have l1 := ile.mp c1
  have l2 := ile.mp c2
  have l3 := ile.mp c3
  have l4 := ile.mp c4
  have l1' := l1
  have l2' := l2
  have l3' := l3
  have l4' := l4
  rw [le_i] at l1' l2' l3' l4'
  have ea : ((v1 + v2) - 1 : Int32).toInt = v1.toInt + v2.toInt - 1 := ti_sub (ti_add rfl rfl (by omega)) i1 (by omega)
  refine ⟨fun c5 => ⟨hR.plan.2, bif_t hP ⟨fun c6 => ?_, fun c6 => ny 8 (fun z => z.2.2.2 (by rw [← q3.1]; exact c6))⟩⟩, fun c5 => ny 5 (fun z => c5 (by rw [le_i, ea, i9]; have := z.2.2.1; omega))⟩
  rw [le_i, ea, i9] at c5
  exact L ⟨⟨l1, l2⟩, ⟨l3, l4⟩, by omega, fun z => c6 (q3.1.trans z)⟩ 40 0 0 I J hB0 (fun _ _ _ _ => rfl) (by decide) (by decide)
theorem px_frac9 {d : Nat} {w1 w3 : Int64} (hb : ¬ w3 = 0) (hQ : ∀ J2, Q 1 0 I J2 R) : AM (d + 1) 179 112 [.ref 97, .long w1, .long w3] I J R Q := by
  refine am_X12_fraction (fun P hc => ?_)
  have L : ∀ n : Nat, ∀ v5 v7 : Int64, v7.toInt.natAbs < n → (¬ v5 = 0 ∨ ¬ v7 = 0) → P 9 112 [(0, .ref 97), (1, .long w1), (3, .long w3), (5, .long v5), (7, .long v7)] [] I J R := by
    intro n
    induction n with
    | zero => intro _ _ h; omega
    | succ n ih =>
      intro v5 v7 hm h5
      refine sg_X12_fraction_9 hc w1 w3 v5 v7 I J R ⟨fun c => ?_, fun c => ?_⟩
      · rw [lg_cmp_eq] at c
        have h5' : ¬ v5 = 0 := h5.resolve_right (fun q => q c)
        exact ⟨h5', h5', Or.inr rfl, hQ _⟩
      · rw [lg_cmp_eq] at c
        exact ⟨c, ih v7 _ (by have := tl_rem_abs (x := v5) c; omega) (Or.inl c)⟩
  exact sg_X12_fraction_0 hc w1 w3 I J R (L (w3.toInt.natAbs + 1) _ _ (Nat.lt_succ_self _) (Or.inr hb))
theorem loaf_n9 : ∀ V, V < 21 → 1 ≤ V → ¬ (Int32.toInt64 (nI V)) * 2329089562800 = 0 := by decide +kernel
set_option maxHeartbeats 1000000 in
theorem mx_mean9 {e : Nat} (hB : Bd I) (hR : RI R) (h : W9 I R) (H1 : HMe9 R v1 v2 I x I1) : AM (e + 84) 315 112 [.ref 97, .int v1, .int v2] I1 J1 R (fun x2 _ I2 _ _ => x2 = x ∧ I2 102 = I 102) := by
  obtain ⟨hX, hK, e102, e23, -⟩ := H1
  obtain ⟨q1, q2, q3⟩ := h.1
  have hm := q1.m
  have i0 : (0 : Int32).toInt = 0 := rfl
  have i1 : (1 : Int32).toInt = 1 := rfl
  have i20 : (20 : Int32).toInt = 20 := rfl
  have i9 : (9999 : Int32).toInt = 9999 := rfl
  have it : (10000 : Int32).toInt = 10000 := rfl
  have t52 : Int32.toNatClampNeg 52 = 52 := rfl
  have t0 : Int32.toNatClampNeg 0 = 0 := rfl
  have v52 : vp_in 52 1620 := vp_of (a := 52) rfl (by decide) (by decide)
  have c102 : uI (uI I1 97 1 0) 97 0 0 102 = I 102 := by rw [uI_ne (by decide), uI_ne (by decide)]; exact e102
  have fail : ¬ okM9 v1 v2 I → ∀ z : Int32, AM (e + 83) 177 112 [.ref 97, .int z] (uI (uI I1 97 1 0) 97 0 0) J1 R (fun x1 _ I2 _ _ => (x1 = 0 ∨ x1 = 1) → (((x1 : Int32) = 0 ∨ (x1 : Int32) = 1) ∧ (x1 = x ∧ I2 102 = I 102))) := fun hn z => by
    have x0 : x = 0 := hX.elim (fun y => absurd y.2 hn) (fun y => y.1)
    exact w_X12_no ⟨Or.inl rfl, fun _ => ⟨Or.inl rfl, x0.symm, (uI_ne (by decide)).trans c102⟩⟩
  refine am_X12_mean (fun P hc => sg_X12_mean_0 hc _ _ _ _ _ (px_isInI (lo := 1) (hi := 20) (fun l3 l4 _ => ⟨fun z => absurd z (by decide), fun _ => ?_⟩) (fun m1 _ => ⟨fun _ => fail (fun z => m1.elim (fun y => ile.mpr z.2.1.1 y) (fun y => y z.2.1.2)) 5, fun z => absurd rfl z⟩)))
  have l3' := l3
  have l4' := l4
  rw [le_i] at l3' l4'
  have e10 : (10000 - v2 : Int32).toInt = 10000 - v2.toInt := ti_sub it rfl (by omega)
  refine px_isInI (lo := 0) (hi := 10000 - v2) (fun l1 l2 _ => ⟨fun _ => ⟨v52, ?_⟩, fun z => absurd z (by decide)⟩) (fun m1 _ => ⟨fun z => absurd rfl z, fun _ => fail (fun z => m1.elim (fun y => ile.mpr z.1.1 y) (fun y => y (by rw [le_i, e10]; have := z.2.2.1; omega))) 5⟩)
  have l1' := l1
  have l2' := l2
  rw [le_i] at l1'
  rw [le_i, e10] at l2'
  rw [t52, c102]
  refine ⟨fun h52 => ?_, fun c52 => fail (fun z => z.2.2.2 c52) 8⟩
  have hok : okM9 v1 v2 I := ⟨⟨l1, by rw [le_i, i9]; omega⟩, ⟨l3, l4⟩, by omega, h52⟩
  have x1 : x = 1 := hX.elim (fun y => y.1) (fun y => absurd hok y.2)
  obtain ⟨s, hg⟩ := q3.2 h52
  have hE := h.ev hB h52 hg
  have hs := h.hs
  obtain ⟨g1, g2, g3, g4, g5, g6, g7⟩ := id hg
  obtain ⟨V, hV, eV⟩ : ∃ V : Nat, (1 ≤ V ∧ V ≤ 20) ∧ v2 = nI V := ⟨v2.toInt.toNat, by omega, Int32.toInt_inj.mp (by rw [nI_toInt (by omega)]; omega)⟩
  have L : ∀ (g k : Nat) (v3 : Int64) (A : Im) (JA : Jm), k + g = V → A 102 = I 102 → (∀ j, j < 52 → A 103 j = I 102 j) → P 91 112 [(0, .ref 97), (1, .int v1), (2, .int v2), (3, .long v3), (5, .int (nI k))] [] A JA R := by
    intro g
    induction g with
    | zero =>
      intro k v3 A JA hk hA _
      refine sg_X12_mean_91 hc _ _ _ _ _ _ _ ⟨fun _ => ?_, fun c => absurd (by rw [eV]; exact (nle_nI (by omega) (by omega)).mpr (by omega)) c⟩
      exact px_frac9 (by rw [eV]; exact loaf_n9 V (by omega) (by omega)) (fun J2 _ => ⟨Or.inr rfl, x1.symm, hA⟩)
    | succ g ih =>
      intro k v3 A JA hk hA h103
      refine sg_X12_mean_91 hc _ _ _ _ _ _ _ ⟨fun c => absurd ((nle_nI (a := V) (b := k) (by omega) (by omega)).mp (by rw [eV] at c; exact c)) (by omega), fun _ => ?_⟩
      have hsd : (v1 + nI k : Int32).toInt = v1.toInt + (k : Int) := ti_add rfl (nI_toInt (by omega)) (by omega)
      have hrA : BkR (mnN (I 102)) (s9 I) A := by
        unfold BkR
        rw [hA]
        exact hs.2.1
      refine px_runs9 (e := e + 3) (q := I 50) (hE.o hA) g1 g2 g3 (by rw [hA]; exact g6) (by omega) hs.2.2.1 hrA (fun B hF hM hRB _ _ => ?_)
      have b103 : ∀ j, j < 52 → B 103 j = I 102 j := fun j hj => (hF.i (fun z => by rcases z with z | z <;> omega)).trans (h103 j hj)
      have bhi : ∀ j, 52 ≤ j → B 102 j = I 102 j := fun j hj => (hF.i (fun z => by rcases z with z | z <;> omega)).trans (congrFun hA j)
      have b0 : B 102 0 = I 102 0 := (hF.i (fun z => by rcases z with z | z <;> omega)).trans (congrFun hA 0)
      have L108 : ∀ (f i : Nat) (w3 : Int64), i + f = mnN (I 102) → P 108 112 [(0, .ref 97), (1, .int v1), (2, .int v2), (3, .long w3), (5, .int (nI k)), (6, .int (nI i))] [] B JA R := by
        intro f
        induction f with
        | zero =>
          intro i w3 hi
          refine sg_X12_mean_108 hc _ _ _ _ _ _ _ _ ⟨vp_of (a := 0) rfl (by decide) (by decide), fun _ => ?_, fun c => absurd (by rw [t0, b0, hm.2.1]; exact (nle_nI (by omega) (by omega)).mpr (by omega)) c⟩
          have L2 : ∀ (f j : Nat) (D : Im), j + f = 52 → (∀ i, i < j → D 102 i = I 102 i) → (∀ i, 52 ≤ i → D 102 i = I 102 i) → (∀ i, i < 52 → D 103 i = I 102 i) → P 144 112 [(0, .ref 97), (1, .int v1), (2, .int v2), (3, .long w3), (5, .int (nI k)), (6, .int (nI j))] [] D JA R := by
            intro f
            induction f with
            | zero =>
              intro j D hj d1 d2 d3
              refine sg_X12_mean_144 hc _ _ _ _ _ _ _ _ ⟨fun _ => ?_, fun c => absurd ((nle_nI (a := 52) (by omega) (by omega)).mpr (by omega)) c⟩
              rw [nI_s1]
              refine ih (k + 1) w3 D JA (by omega) (funext fun i => ?_) d3
              rcases Nat.lt_or_ge i 52 with z | z
              · exact d1 i (by omega)
              · exact d2 i z
            | succ f ih2 =>
              intro j D hj d1 d2 d3
              refine sg_X12_mean_144 hc _ _ _ _ _ _ _ _ ⟨fun c => absurd ((nle_nI (a := 52) (by omega) (by omega)).mp c) (by omega), fun _ => ⟨vp_nI (by omega) (by omega), vp_nI (by omega) (by omega), ?_⟩⟩
              rw [tn_nI (by omega), nI_s1]
              refine ih2 (j + 1) _ (by omega) (fun i hi => ?_) (fun i hi => (rd_k (by omega)).trans (d2 i hi)) (fun i hi => (rd_ne (by decide)).trans (d3 i hi))
              by_cases z : i = j
              · subst z; rw [rd_eq]; exact d3 i (by omega)
              · rw [rd_k z]; exact d1 i (by omega)
          exact L2 52 0 B (by omega) (fun i hi => absurd hi (by omega)) bhi b103
        | succ f ih3 =>
          intro i w3 hi
          have k46 : (46 : Int32) + nI i = nI (46 + i) := by rw [show (46 : Int32) = nI 46 from rfl]; exact nI_add 46 i
          refine sg_X12_mean_108 hc _ _ _ _ _ _ _ _ ⟨vp_of (a := 0) rfl (by decide) (by decide), fun c => absurd ((nle_nI (a := mnN (I 102)) (b := i) (by omega) (by omega)).mp (by rw [t0, b0, hm.2.1] at c; exact c)) (by omega), fun _ => ?_⟩
          rw [k46, tn_nI (by omega), nI_s1]
          refine ⟨vp_nI (by omega) (by omega), px_sumOf ?_ (fun y _ => ih3 (i + 1) _ (by omega))⟩
          rw [hM.1.2.1 i (by omega)]
          exact hRB.1.hv0 i (by omega)
      exact L108 (mnN (I 102)) 0 v3 (by omega)
  have L62 : ∀ (f j : Nat) (A : Im), j + f = 52 → A 102 = I 102 → (∀ i, i < j → A 103 i = I 102 i) → P 62 112 [(0, .ref 97), (1, .int v1), (2, .int v2), (3, .int (nI j))] [] A J1 R := by
    intro f
    induction f with
    | zero =>
      intro j A hj hA d3
      exact sg_X12_mean_62 hc _ _ _ _ _ _ ⟨fun _ => L V 0 0 A J1 (by omega) hA (fun i hi => d3 i (by omega)), fun c => absurd ((nle_nI (a := 52) (by omega) (by omega)).mpr (by omega)) c⟩
    | succ f ih4 =>
      intro j A hj hA d3
      refine sg_X12_mean_62 hc _ _ _ _ _ _ ⟨fun c => absurd ((nle_nI (a := 52) (by omega) (by omega)).mp c) (by omega), fun _ => ⟨vp_nI (by omega) (by omega), vp_nI (by omega) (by omega), ?_⟩⟩
      rw [tn_nI (by omega), nI_s1]
      refine ih4 (j + 1) _ (by omega) ((uI_ne (by decide)).trans hA) (fun i hi => ?_)
      by_cases z : i = j
      · subst z; rw [rd_eq, hA]
      · rw [rd_k z]; exact d3 i (by omega)
  exact L62 52 0 _ (by omega) c102 (fun i hi => absurd hi (by omega))
end W9N
end PT16x0
section PT16x1
/-! ===== the relation of stores: small pieces, its start ===== -/
section W9T
variable {I I1 : Im} {J J1 : Jm} {R : Rm}
theorem W9.mm (h : W9 I R) : (I 102 0).toInt = (mnN (I 102) : Int) ∧ mnN (I 102) ≤ 6 := ⟨h.1.1.m.2.2, h.1.1.m.1⟩
theorem FrCk.z102 {o : Nat} (ho : o = 9 ∨ o = 15) (hF : FrCk o I J I1 J1) : I1 102 0 = I 102 0 := hF.1 102 0 (fun q => by rcases q with (q | q | q) | q <;> omega)
theorem W9.start (e7 : R 1 7 = 9) (e9 : R 1 9 = 21) (h : I 9 1 = 4 ∧ I 9 3 = 0 ∧ (∀ k, I 10 k = 0) ∧ I 21 0 = 0 ∧ ∀ k, k < 324 → I 102 k = emC k) (hm : I 97 23 = 0) : W9 I R := by
  obtain ⟨h1, h2, h3, h4, h5⟩ := h
  have em : mnN (I 102) = 0 := by
    unfold mnN
    rw [h5 0 (by omega)]; rfl
  have ed : ∀ d, 1 ≤ d → d ≤ 30 → I 102 (3 + d) = 0 := fun d a b => by
    rw [h5 (3 + d) (by omega)]
    unfold emC
    rw [if_neg (by omega), if_neg (by omega)]
  refine ⟨?_, fun j hj hk => ?_⟩
  · rw [e7, e9]
    refine ⟨⟨⟨0, by omega, h5 0 (by omega)⟩, fun d a b => ?_, fun k hk => ?_⟩, ⟨?_, ?_, fun d a b => ?_, fun k hk => ?_⟩, ?_, fun h0 => ?_⟩
    · rw [ed d a b]; decide
    · rw [em] at hk; omega
    · rw [h1, h5 1 (by omega)]; rfl
    · rw [h2, h5 2 (by omega)]; rfl
    · rw [ed d a b]; exact h3 d
    · rw [em] at hk; omega
    · rw [h4, h5 52 (by omega)]; rfl
    · exact absurd (h5 52 (by omega)) h0
  · rw [hm, show (0 : Int32).toInt = 0 from rfl] at hk
    omega
end W9T
end PT16x1
section PT16x2
/-! ===== fill(), fillAt(): what they answer ===== -/
/-- what the store holds and a man has not -/
noncomputable def gf9 (s : StS9) (k : Int32) : Int32 := stR s.1 30 0 &&& (s.2.1 (nn9 k) ^^^ (-1))
noncomputable def fl9 (I : Im) (k : Int32) : Option (List Nat) := fwC (SA (gf9 (s9 I) k)) (lk9 (du9 I) (s9 I).2.1 (nn9 k))
section W9F
variable {I I1 : Im} {J J1 : Jm} {R : Rm} {Q : Qt} {v w : Int32}
/-! the reference -/
end W9F
end PT16x2
section PT16x3
/-! ===== the latest life, carried ===== -/
section LVC
variable {I I2 : Im}
theorem LV9.kp (h : LV9 I) (k : KL9 I I2) : LV9 I2 := by
  unfold LV9 at h ⊢
  rw [k.1, k.2.1, k.2.2]
  exact h
theorem LV9.start (h : I 97 40 = 0) (h2 : I 49 0 = 0) : LV9 I := ⟨h.trans h2.symm, fun z => absurd h2 z⟩
end LVC
end PT16x3
section PT16x4
/-! ===== how many cuts and splits till there is a slice: the numbers ===== -/
noncomputable def tb9 : List (List Nat) := [[1000, 1000, 1000, 1000, 1000, 1000, 1000, 1000, 1000, 1000, 1000, 1000, 1000, 1000, 1000, 1000, 1000, 1000, 1000, 1000, 1000, 1000, 1000, 1000, 1000, 1000, 1000, 1000, 1000, 1000, 1000],
  [1000, 0, 1000, 1000, 1000, 1000, 1000, 1000, 1000, 1000, 1000, 1000, 1000, 1000, 1000, 1000, 1000, 1000, 1000, 1000, 1000, 1000, 1000, 1000, 1000, 1000, 1000, 1000, 1000, 1000, 1000],
  [1000, 1, 0, 1000, 1000, 1000, 1000, 1000, 1000, 1000, 1000, 1000, 1000, 1000, 1000, 1000, 1000, 1000, 1000, 1000, 1000, 1000, 1000, 1000, 1000, 1000, 1000, 1000, 1000, 1000, 1000],
  [1000, 1, 1, 0, 1000, 1000, 1000, 1000, 1000, 1000, 1000, 1000, 1000, 1000, 1000, 1000, 1000, 1000, 1000, 1000, 1000, 1000, 1000, 1000, 1000, 1000, 1000, 1000, 1000, 1000, 1000],
  [1000, 1, 1, 1, 0, 1000, 1000, 1000, 1000, 1000, 1000, 1000, 1000, 1000, 1000, 1000, 1000, 1000, 1000, 1000, 1000, 1000, 1000, 1000, 1000, 1000, 1000, 1000, 1000, 1000, 1000],
  [1000, 1, 2, 2, 1, 0, 1000, 1000, 1000, 1000, 1000, 1000, 1000, 1000, 1000, 1000, 1000, 1000, 1000, 1000, 1000, 1000, 1000, 1000, 1000, 1000, 1000, 1000, 1000, 1000, 1000],
  [1000, 1, 1, 1, 1, 1, 0, 1000, 1000, 1000, 1000, 1000, 1000, 1000, 1000, 1000, 1000, 1000, 1000, 1000, 1000, 1000, 1000, 1000, 1000, 1000, 1000, 1000, 1000, 1000, 1000],
  [1000, 1, 1000, 1000, 1000, 1000, 1000, 0, 1000, 1000, 1000, 1000, 1000, 1000, 1000, 1000, 1000, 1000, 1000, 1000, 1000, 1000, 1000, 1000, 1000, 1000, 1000, 1000, 1000, 1000, 1000],
  [1000, 1, 1, 2, 1, 2, 1, 1000, 0, 1000, 1000, 1000, 1000, 1000, 1000, 1000, 1000, 1000, 1000, 1000, 1000, 1000, 1000, 1000, 1000, 1000, 1000, 1000, 1000, 1000, 1000],
  [1000, 1, 2, 1, 2, 2, 1, 1000, 1000, 0, 1000, 1000, 1000, 1000, 1000, 1000, 1000, 1000, 1000, 1000, 1000, 1000, 1000, 1000, 1000, 1000, 1000, 1000, 1000, 1000, 1000],
  [1000, 1, 1, 2, 2, 1, 1, 1000, 1000, 1000, 0, 1000, 1000, 1000, 1000, 1000, 1000, 1000, 1000, 1000, 1000, 1000, 1000, 1000, 1000, 1000, 1000, 1000, 1000, 1000, 1000],
  [1000, 1, 1000, 1000, 1000, 1000, 1000, 1000, 1000, 1000, 1000, 0, 1000, 1000, 1000, 1000, 1000, 1000, 1000, 1000, 1000, 1000, 1000, 1000, 1000, 1000, 1000, 1000, 1000, 1000, 1000],
  [1000, 1, 1, 1, 1, 2, 1, 1000, 1, 1000, 1000, 1000, 0, 1000, 1000, 1000, 1000, 1000, 1000, 1000, 1000, 1000, 1000, 1000, 1000, 1000, 1000, 1000, 1000, 1000, 1000],
  [1000, 1, 1000, 1000, 1000, 1000, 1000, 1000, 1000, 1000, 1000, 1000, 1000, 0, 1000, 1000, 1000, 1000, 1000, 1000, 1000, 1000, 1000, 1000, 1000, 1000, 1000, 1000, 1000, 1000, 1000],
  [1000, 1, 1, 1000, 1000, 1000, 1000, 1, 1000, 1000, 1000, 1000, 1000, 1000, 0, 1000, 1000, 1000, 1000, 1000, 1000, 1000, 1000, 1000, 1000, 1000, 1000, 1000, 1000, 1000, 1000],
  [1000, 1, 2, 1, 2, 1, 1, 1000, 1000, 1000, 1, 1000, 1000, 1000, 1000, 0, 1000, 1000, 1000, 1000, 1000, 1000, 1000, 1000, 1000, 1000, 1000, 1000, 1000, 1000, 1000],
  [1000, 1, 1, 2, 1, 3, 2, 1000, 1, 1000, 1000, 1000, 1000, 1000, 1000, 1000, 0, 1000, 1000, 1000, 1000, 1000, 1000, 1000, 1000, 1000, 1000, 1000, 1000, 1000, 1000],
  [1000, 1, 1000, 1000, 1000, 1000, 1000, 1000, 1000, 1000, 1000, 1000, 1000, 1000, 1000, 1000, 1000, 0, 1000, 1000, 1000, 1000, 1000, 1000, 1000, 1000, 1000, 1000, 1000, 1000, 1000],
  [1000, 1, 1, 1, 2, 2, 1, 1000, 1000, 1, 1000, 1000, 1000, 1000, 1000, 1000, 1000, 1000, 0, 1000, 1000, 1000, 1000, 1000, 1000, 1000, 1000, 1000, 1000, 1000, 1000],
  [1000, 1, 1000, 1000, 1000, 1000, 1000, 1000, 1000, 1000, 1000, 1000, 1000, 1000, 1000, 1000, 1000, 1000, 1000, 0, 1000, 1000, 1000, 1000, 1000, 1000, 1000, 1000, 1000, 1000, 1000],
  [1000, 1, 1, 2, 1, 1, 2, 1000, 2, 1000, 1, 1000, 1, 1000, 1000, 1000, 1000, 1000, 1000, 1000, 0, 1000, 1000, 1000, 1000, 1000, 1000, 1000, 1000, 1000, 1000],
  [1000, 1, 2, 1, 2, 3, 2, 1, 2, 1000, 1000, 1000, 1, 1000, 1000, 1000, 1000, 1000, 1000, 1000, 1000, 0, 1000, 1000, 1000, 1000, 1000, 1000, 1000, 1000, 1000],
  [1000, 1, 1, 1000, 1000, 1000, 1000, 1000, 1000, 1000, 1000, 1, 1000, 1000, 1000, 1000, 1000, 1000, 1000, 1000, 1000, 1000, 0, 1000, 1000, 1000, 1000, 1000, 1000, 1000, 1000],
  [1000, 1, 1000, 1000, 1000, 1000, 1000, 1000, 1000, 1000, 1000, 1000, 1000, 1000, 1000, 1000, 1000, 1000, 1000, 1000, 1000, 1000, 1000, 0, 1000, 1000, 1000, 1000, 1000, 1000, 1000],
  [1000, 1, 1, 1, 1, 2, 1, 1000, 1, 1000, 1000, 1000, 1, 1000, 1000, 1000, 1000, 1000, 1000, 1000, 1000, 1000, 1000, 1000, 0, 1000, 1000, 1000, 1000, 1000, 1000],
  [1000, 1, 3, 3, 2, 1, 1000, 1000, 1000, 1000, 1000, 1000, 1000, 1000, 1000, 1000, 1000, 1000, 1000, 1000, 1000, 1000, 1000, 1000, 1000, 0, 1000, 1000, 1000, 1000, 1000],
  [1000, 1, 1, 1000, 1000, 1000, 1000, 1000, 1000, 1000, 1000, 1000, 1000, 1, 1000, 1000, 1000, 1000, 1000, 1000, 1000, 1000, 1000, 1000, 1000, 1000, 0, 1000, 1000, 1000, 1000],
  [1000, 1, 2, 1, 3, 3, 2, 1000, 1000, 1, 1000, 1000, 1000, 1000, 1000, 1000, 1000, 1000, 1000, 1000, 1000, 1000, 1000, 1000, 1000, 1000, 1000, 0, 1000, 1000, 1000],
  [1000, 1, 1, 2, 1, 3, 2, 1, 2, 1000, 1000, 1000, 1, 1000, 1, 1000, 1000, 1000, 1000, 1000, 1000, 1000, 1000, 1000, 1000, 1000, 1000, 1000, 0, 1000, 1000],
  [1000, 1, 1000, 1000, 1000, 1000, 1000, 1000, 1000, 1000, 1000, 1000, 1000, 1000, 1000, 1000, 1000, 1000, 1000, 1000, 1000, 1000, 1000, 1000, 1000, 1000, 1000, 1000, 1000, 0, 1000],
  [1000, 1, 1, 1, 2, 1, 1, 1000, 2, 1000, 1, 1000, 1, 1000, 1000, 1, 1000, 1000, 1000, 1000, 1000, 1000, 1000, 1000, 1000, 1000, 1000, 1000, 1000, 1000, 0]]
noncomputable def nt9 : List (List Nat) := [[0, 0, 0, 0, 0, 0, 0, 0, 0, 0, 0, 0, 0, 0, 0, 0, 0, 0, 0, 0, 0, 0, 0, 0, 0, 0, 0, 0, 0, 0, 0],
  [0, 0, 0, 0, 0, 0, 0, 0, 0, 0, 0, 0, 0, 0, 0, 0, 0, 0, 0, 0, 0, 0, 0, 0, 0, 0, 0, 0, 0, 0, 0],
  [0, 2, 0, 0, 0, 0, 0, 0, 0, 0, 0, 0, 0, 0, 0, 0, 0, 0, 0, 0, 0, 0, 0, 0, 0, 0, 0, 0, 0, 0, 0],
  [0, 3, 3, 0, 0, 0, 0, 0, 0, 0, 0, 0, 0, 0, 0, 0, 0, 0, 0, 0, 0, 0, 0, 0, 0, 0, 0, 0, 0, 0, 0],
  [0, 4, 4, 4, 0, 0, 0, 0, 0, 0, 0, 0, 0, 0, 0, 0, 0, 0, 0, 0, 0, 0, 0, 0, 0, 0, 0, 0, 0, 0, 0],
  [0, 5, 4, 4, 5, 0, 0, 0, 0, 0, 0, 0, 0, 0, 0, 0, 0, 0, 0, 0, 0, 0, 0, 0, 0, 0, 0, 0, 0, 0, 0],
  [0, 6, 6, 6, 6, 6, 0, 0, 0, 0, 0, 0, 0, 0, 0, 0, 0, 0, 0, 0, 0, 0, 0, 0, 0, 0, 0, 0, 0, 0, 0],
  [0, 7, 0, 0, 0, 0, 0, 0, 0, 0, 0, 0, 0, 0, 0, 0, 0, 0, 0, 0, 0, 0, 0, 0, 0, 0, 0, 0, 0, 0, 0],
  [0, 8, 8, 4, 8, 6, 8, 0, 0, 0, 0, 0, 0, 0, 0, 0, 0, 0, 0, 0, 0, 0, 0, 0, 0, 0, 0, 0, 0, 0, 0],
  [0, 9, 3, 9, 6, 6, 9, 0, 0, 0, 0, 0, 0, 0, 0, 0, 0, 0, 0, 0, 0, 0, 0, 0, 0, 0, 0, 0, 0, 0, 0],
  [0, 10, 10, 6, 5, 10, 10, 0, 0, 0, 0, 0, 0, 0, 0, 0, 0, 0, 0, 0, 0, 0, 0, 0, 0, 0, 0, 0, 0, 0, 0],
  [0, 11, 0, 0, 0, 0, 0, 0, 0, 0, 0, 0, 0, 0, 0, 0, 0, 0, 0, 0, 0, 0, 0, 0, 0, 0, 0, 0, 0, 0, 0],
  [0, 12, 12, 12, 12, 6, 12, 0, 12, 0, 0, 0, 0, 0, 0, 0, 0, 0, 0, 0, 0, 0, 0, 0, 0, 0, 0, 0, 0, 0, 0],
  [0, 13, 0, 0, 0, 0, 0, 0, 0, 0, 0, 0, 0, 0, 0, 0, 0, 0, 0, 0, 0, 0, 0, 0, 0, 0, 0, 0, 0, 0, 0],
  [0, 14, 14, 0, 0, 0, 0, 14, 0, 0, 0, 0, 0, 0, 0, 0, 0, 0, 0, 0, 0, 0, 0, 0, 0, 0, 0, 0, 0, 0, 0],
  [0, 15, 3, 15, 5, 15, 15, 0, 0, 0, 15, 0, 0, 0, 0, 0, 0, 0, 0, 0, 0, 0, 0, 0, 0, 0, 0, 0, 0, 0, 0],
  [0, 16, 16, 4, 16, 6, 8, 0, 16, 0, 0, 0, 0, 0, 0, 0, 0, 0, 0, 0, 0, 0, 0, 0, 0, 0, 0, 0, 0, 0, 0],
  [0, 17, 0, 0, 0, 0, 0, 0, 0, 0, 0, 0, 0, 0, 0, 0, 0, 0, 0, 0, 0, 0, 0, 0, 0, 0, 0, 0, 0, 0, 0],
  [0, 18, 18, 18, 6, 6, 18, 0, 0, 18, 0, 0, 0, 0, 0, 0, 0, 0, 0, 0, 0, 0, 0, 0, 0, 0, 0, 0, 0, 0, 0],
  [0, 19, 0, 0, 0, 0, 0, 0, 0, 0, 0, 0, 0, 0, 0, 0, 0, 0, 0, 0, 0, 0, 0, 0, 0, 0, 0, 0, 0, 0, 0],
  [0, 20, 20, 4, 20, 20, 10, 0, 12, 0, 20, 0, 20, 0, 0, 0, 0, 0, 0, 0, 0, 0, 0, 0, 0, 0, 0, 0, 0, 0, 0],
  [0, 21, 3, 21, 12, 6, 12, 21, 12, 0, 0, 0, 21, 0, 0, 0, 0, 0, 0, 0, 0, 0, 0, 0, 0, 0, 0, 0, 0, 0, 0],
  [0, 22, 22, 0, 0, 0, 0, 0, 0, 0, 0, 22, 0, 0, 0, 0, 0, 0, 0, 0, 0, 0, 0, 0, 0, 0, 0, 0, 0, 0, 0],
  [0, 23, 0, 0, 0, 0, 0, 0, 0, 0, 0, 0, 0, 0, 0, 0, 0, 0, 0, 0, 0, 0, 0, 0, 0, 0, 0, 0, 0, 0, 0],
  [0, 24, 24, 24, 24, 6, 24, 0, 24, 0, 0, 0, 24, 0, 0, 0, 0, 0, 0, 0, 0, 0, 0, 0, 0, 0, 0, 0, 0, 0, 0],
  [0, 25, 4, 4, 5, 25, 0, 0, 0, 0, 0, 0, 0, 0, 0, 0, 0, 0, 0, 0, 0, 0, 0, 0, 0, 0, 0, 0, 0, 0, 0],
  [0, 26, 26, 0, 0, 0, 0, 0, 0, 0, 0, 0, 0, 26, 0, 0, 0, 0, 0, 0, 0, 0, 0, 0, 0, 0, 0, 0, 0, 0, 0],
  [0, 27, 3, 27, 6, 6, 9, 0, 0, 27, 0, 0, 0, 0, 0, 0, 0, 0, 0, 0, 0, 0, 0, 0, 0, 0, 0, 0, 0, 0, 0],
  [0, 28, 28, 4, 28, 6, 12, 28, 12, 0, 0, 0, 28, 0, 28, 0, 0, 0, 0, 0, 0, 0, 0, 0, 0, 0, 0, 0, 0, 0, 0],
  [0, 29, 0, 0, 0, 0, 0, 0, 0, 0, 0, 0, 0, 0, 0, 0, 0, 0, 0, 0, 0, 0, 0, 0, 0, 0, 0, 0, 0, 0, 0],
  [0, 30, 30, 30, 5, 30, 30, 0, 12, 0, 30, 0, 30, 0, 0, 30, 0, 0, 0, 0, 0, 0, 0, 0, 0, 0, 0, 0, 0, 0, 0]]
/-- the fewest till there is a t, from an s on (1000: never); the next slice then -/
noncomputable def e9 (t s : Nat) : Nat := (tb9.getD t []).getD s 1000
noncomputable def nx9 (t s : Nat) : Nat := (nt9.getD t []).getD s 0
noncomputable def lnk9 (t s : Nat) : Nat → Nat
  | 0 => s
  | i + 1 => nx9 t (lnk9 t s i)
/-- a b comes of an a -/
noncomputable def cm9 (a b : Nat) : Bool := decide (1 ≤ a) && (decide (a < b) && (decide (b % a = 0) || (decide (a * b % (b - a) = 0) && decide (a * b / (b - a) ≤ 30))))
noncomputable def exL9 (a b : Nat) : Nat → Bool
  | 0 => false
  | f + 1 => decide (pt b + pt (30 - f) = pt a) || exL9 a b f
noncomputable def ckC9 (a b : Nat) : Bool := (!decide (nI a < 1)) && ((decide (nI a < nI b) == decide (a < b)) && (!decide (a < b) || ((!decide (nI a = 0)) && ((decide (nI b - nI b / nI a * nI a = 0) == decide (b % a = 0)) && ((!decide (nI b - nI a = 0)) && ((decide (nI a * nI b - nI a * nI b / (nI b - nI a) * (nI b - nI a) = 0) == decide (a * b % (b - a) = 0)) && (decide (30 < nI a * nI b / (nI b - nI a)) == !decide (a * b / (b - a) ≤ 30))))))))
noncomputable def ckR9 (a b : Nat) : Bool := (decide (nI b ≤ nI a) == decide (b ≤ a)) && ((!decide (nI a = 0)) && ((decide (nI b - nI b / nI a * nI a = 0) == decide (b % a = 0)) && ((if a < b ∧ b % a = 0 then true else exL9 a b 30) == cm9 a b)))
set_option maxRecDepth 100000 in
theorem ckC9_all : ∀ a, a < 31 → ∀ b, b < 31 → (decide (a = 0) || (decide (b = 0) || ckC9 a b)) = true := by decide +kernel
set_option maxRecDepth 100000 in
theorem ckR9_all : ∀ a, a < 31 → ∀ b, b < 31 → (decide (a = 0) || (decide (b = 0) || ckR9 a b)) = true := by decide +kernel
/-- the scribe's way to them -/
noncomputable def inC9 (t s : Nat) : Nat → Nat → Nat
  | 0, v => v
  | g + 1, v => inC9 t s g (if cm9 s (t - g) = true then (if e9 t (t - g) + 1 < v then e9 t (t - g) + 1 else v) else v)
noncomputable def ckT9 (t s : Nat) : Bool := (decide (e9 t s = 1000) || decide (e9 t s ≤ 29)) && ((decide (e9 t s = 0) == (decide (s = t) && !decide (t = 0))) && ((!decide (t < s) || decide (e9 t s = 1000)) && ((!(decide (1 ≤ s) && decide (s < t)) || decide (inC9 t s (t - s) 1000 = e9 t s)) && (decide (s = 0) || (decide (e9 t s = 0) || (decide (e9 t s = 1000) || (decide (s < nx9 t s) && (decide (nx9 t s ≤ t) && (cm9 s (nx9 t s) && decide (e9 t (nx9 t s) + 1 = e9 t s))))))))))
set_option maxRecDepth 100000 in
theorem ckT9_all : ∀ t, t < 31 → ∀ s, s < 31 → ckT9 t s = true := by decide +kernel
set_option maxRecDepth 100000 in
theorem ckP9_all : ∀ t, t < 31 → ∀ s, s < 31 → ∀ p, p < 31 → (decide (p = 0) || (!cm9 s p || (decide (e9 t s ≤ e9 t p + 1) && (decide (nx9 t s ≤ p) || (!decide (e9 t p + 1 = e9 t s) || decide (e9 t s = 1000)))))) = true := by decide +kernel
set_option maxRecDepth 100000 in
theorem ckZ9 : ∀ t, t < 31 → e9 t 0 = 1000 := by decide +kernel
section RC9
variable {t s p a b : Nat}
theorem e9_b (ht : t ≤ 30) (hs : s ≤ 30) : e9 t s = 1000 ∨ e9 t s ≤ 29 := by
  have h := ckT9_all t (by omega) s (by omega)
  unfold ckT9 at h
  simp only [Bool.and_eq_true, Bool.or_eq_true, decide_eq_true_eq] at h
  exact h.1
theorem e9_0 (ht : t ≤ 30) (hs : s ≤ 30) : e9 t s = 0 ↔ s = t ∧ ¬ t = 0 := by
  have h := ckT9_all t (by omega) s (by omega)
  unfold ckT9 at h
  rw [Bool.and_eq_true, Bool.and_eq_true, beq_iff_eq] at h
  have h2 := h.2.1
  constructor
  · intro z
    rw [decide_eq_true z] at h2
    have h3 := h2.symm
    rw [Bool.and_eq_true, decide_eq_true_eq, Bool.not_eq_true', decide_eq_false_iff_not] at h3
    exact h3
  · intro z
    rw [decide_eq_true z.1, decide_eq_false z.2] at h2
    exact of_decide_eq_true h2
theorem e9_gt (ht : t ≤ 30) (hs : s ≤ 30) (h : t < s) : e9 t s = 1000 := by
  have k := ckT9_all t (by omega) s (by omega)
  unfold ckT9 at k
  rw [Bool.and_eq_true, Bool.and_eq_true, Bool.and_eq_true, decide_eq_true h, Bool.not_true, Bool.false_or] at k
  exact of_decide_eq_true k.2.2.1
theorem e9_in (ht : t ≤ 30) (h1 : 1 ≤ s) (h : s < t) : inC9 t s (t - s) 1000 = e9 t s := by
  have k := ckT9_all t (by omega) s (by omega)
  unfold ckT9 at k
  rw [Bool.and_eq_true, Bool.and_eq_true, Bool.and_eq_true, Bool.and_eq_true, decide_eq_true h, decide_eq_true h1, Bool.and_self, Bool.not_true, Bool.false_or] at k
  exact of_decide_eq_true k.2.2.2.1
theorem e9_nx (ht : t ≤ 30) (hs : s ≤ 30) (h1 : 1 ≤ s) (h0 : ¬ e9 t s = 0) (hn : ¬ e9 t s = 1000) : s < nx9 t s ∧ nx9 t s ≤ t ∧ cm9 s (nx9 t s) = true ∧ e9 t (nx9 t s) + 1 = e9 t s := by
  have k := ckT9_all t (by omega) s (by omega)
  unfold ckT9 at k
  rw [Bool.and_eq_true, Bool.and_eq_true, Bool.and_eq_true, Bool.and_eq_true] at k
  obtain ⟨-, -, -, -, k⟩ := k
  rw [decide_eq_false (show ¬ s = 0 by omega), decide_eq_false h0, decide_eq_false hn, Bool.false_or, Bool.false_or, Bool.false_or, Bool.and_eq_true, Bool.and_eq_true, Bool.and_eq_true] at k
  obtain ⟨k1, k2, k3, k4⟩ := k
  exact ⟨of_decide_eq_true k1, of_decide_eq_true k2, k3, of_decide_eq_true k4⟩
theorem e9_le (ht : t ≤ 30) (hs : s ≤ 30) (h1 : 1 ≤ p) (hp : p ≤ 30) (hc : cm9 s p = true) : e9 t s ≤ e9 t p + 1 := by
  have k := ckP9_all t (by omega) s (by omega) p (by omega)
  rw [decide_eq_false (show ¬ p = 0 by omega), hc, Bool.not_true, Bool.false_or, Bool.false_or, Bool.and_eq_true] at k
  exact of_decide_eq_true k.1
theorem e9_mn (ht : t ≤ 30) (hs : s ≤ 30) (h1 : 1 ≤ p) (hp : p ≤ 30) (hc : cm9 s p = true) (he : e9 t p + 1 = e9 t s) (hn : ¬ e9 t s = 1000) : nx9 t s ≤ p := by
  have k := ckP9_all t (by omega) s (by omega) p (by omega)
  rw [decide_eq_false (show ¬ p = 0 by omega), hc, Bool.not_true, Bool.false_or, Bool.false_or, Bool.and_eq_true, decide_eq_true he, decide_eq_false hn, Bool.not_true, Bool.or_false, Bool.or_false] at k
  exact of_decide_eq_true k.2
theorem nlt_b9 (ha : a < 2 ^ 31) (hb : b < 2 ^ 31) : nI a < nI b ↔ a < b := by
  rw [Int32.lt_iff_toInt_lt, nI_toInt ha, nI_toInt hb]; omega
end RC9
section RCX
variable {I : Im} {J : Jm} {R : Rm} {Q : Qt}
theorem px_comC {d a b : Nat} (h1 : 1 ≤ a) (h2 : a ≤ 30) (h3 : 1 ≤ b) (h4 : b ≤ 30) (hY : cm9 a b = true → Q 1 0 I J R) (hN : cm9 a b = false → Q 0 0 I J R) : AM (d + 1) 57 112 [.int (nI b), .int (nI a)] I J R Q := by
  have k := ckC9_all a (by omega) b (by omega)
  rw [decide_eq_false (show ¬ a = 0 by omega), decide_eq_false (show ¬ b = 0 by omega), Bool.false_or, Bool.false_or] at k
  unfold ckC9 at k
  rw [Bool.and_eq_true, Bool.and_eq_true, Bool.not_eq_true', decide_eq_false_iff_not, beq_iff_eq, decide_eq_decide] at k
  obtain ⟨k1, k2, k3⟩ := k
  have eC : cm9 a b = (decide (a < b) && (decide (b % a = 0) || (decide (a * b % (b - a) = 0) && decide (a * b / (b - a) ≤ 30)))) := by
    unfold cm9
    rw [decide_eq_true h1, Bool.true_and]
  refine w_X5_comesOf ⟨fun c => absurd c k1, fun _ => ⟨fun c => ?_, fun c => ⟨Or.inl rfl, hN ?_⟩⟩⟩
  · rw [k2] at c
    rw [decide_eq_true c, Bool.not_true, Bool.false_or, Bool.and_eq_true, Bool.and_eq_true, Bool.and_eq_true, Bool.and_eq_true, Bool.not_eq_true', decide_eq_false_iff_not, beq_iff_eq, decide_eq_decide, Bool.not_eq_true', decide_eq_false_iff_not, beq_iff_eq, decide_eq_decide, beq_iff_eq] at k3
    obtain ⟨j1, j2, j3, j4, j5⟩ := k3
    rw [decide_eq_true c, Bool.true_and] at eC
    refine ⟨j1, fun c2 => ⟨Or.inr rfl, hY ?_⟩, fun c2 => ⟨j3, fun c3 => ⟨Or.inl rfl, hN ?_⟩, fun c3 => ⟨j3, fun c4 => ⟨Or.inl rfl, hN ?_⟩, fun c4 => ⟨Or.inr rfl, hY ?_⟩⟩⟩⟩
    · rw [eC, decide_eq_true (j2.mp c2), Bool.true_or]
    · rw [eC, decide_eq_false (fun z => c2 (j2.mpr z)), decide_eq_false (fun z => c3 (j4.mpr z)), Bool.false_and, Bool.false_or]
    · rw [decide_eq_true c4] at j5
      have j6 : decide (a * b / (b - a) ≤ 30) = false := by rw [← Bool.not_eq_true']; exact j5.symm
      rw [eC, decide_eq_false (fun z => c2 (j2.mpr z)), j6, Bool.and_false, Bool.false_or]
    · rw [decide_eq_false c4] at j5
      have j6 : decide (a * b / (b - a) ≤ 30) = true := by rw [← Bool.not_eq_false']; exact j5.symm
      rw [eC, decide_eq_true (j4.mp c3), j6, Bool.and_true, Bool.or_true]
  · rw [k2] at c
    rw [eC, decide_eq_false c, Bool.false_and]
theorem px_comR {d a b : Nat} (h1 : 1 ≤ a) (h2 : a ≤ 30) (h3 : 1 ≤ b) (h4 : b ≤ 30) (hY : cm9 a b = true → Q 1 0 I J R) (hN : cm9 a b = false → Q 0 0 I J R) : AM (d + 2) 288 112 [.int (nI a), .int (nI b)] I J R Q := by
  have k := ckR9_all a (by omega) b (by omega)
  rw [decide_eq_false (show ¬ a = 0 by omega), decide_eq_false (show ¬ b = 0 by omega), Bool.false_or, Bool.false_or] at k
  unfold ckR9 at k
  rw [Bool.and_eq_true, Bool.and_eq_true, Bool.and_eq_true, Bool.not_eq_true', decide_eq_false_iff_not, beq_iff_eq, decide_eq_decide, beq_iff_eq, decide_eq_decide, beq_iff_eq] at k
  obtain ⟨k1, k2, k3, k4⟩ := k
  refine am_X12_comesOf (fun P hc => ?_)
  have L : ∀ (f : Nat), f ≤ 30 → (exL9 a b f = true → Q 1 0 I J R) → (exL9 a b f = false → Q 0 0 I J R) → P 15 112 [(0, .int (nI a)), (1, .int (nI b)), (2, .int (nI (31 - f)))] [] I J R := by
    intro f
    induction f with
    | zero => intro _ _ hn; exact sg_X12_comesOf_15 hc _ _ _ _ _ _ ⟨fun _ => ⟨Or.inl rfl, hn rfl⟩, fun c => absurd ((nlt_nI (a := 30) (b := 31 - 0) (by omega) (by omega)).mpr (by omega)) c⟩
    | succ f ih =>
      intro hf hy hn
      have ed : 31 - (f + 1) = 30 - f := by omega
      rw [ed]
      have eS : exL9 a b (f + 1) = (decide (pt b + pt (30 - f) = pt a) || exL9 a b f) := rfl
      obtain ⟨p1, p2, -⟩ := pt_b (d := 30 - f) (by omega) (by omega)
      obtain ⟨q1, q2, -⟩ := pt_b (d := b) h3 h4
      refine sg_X12_comesOf_15 hc _ _ _ _ _ _ ⟨fun c => absurd ((nlt_nI (a := 30) (by omega) (by omega)).mp c) (by omega), fun _ => px_parts h3 h4 (fun y1 e1 => px_parts (by omega) (by omega) (fun y2 e2 => px_parts h1 h2 (fun y3 e3 => ?_)))⟩
      have es : (y1 + y2).toInt = pt b + pt (30 - f) := tl_add e1 e2 (by omega)
      refine ⟨fun c => ?_, fun c => ⟨Or.inr rfl, hy ?_⟩⟩
      · rw [lg_cmp_eq] at c
        have c2 := cl_ne es e3 c
        rw [eS, decide_eq_false c2, Bool.false_or] at hy hn
        rw [nx30 hf]
        exact ih (by omega) hy hn
      · rw [lg_cmp_eq] at c
        rw [eS, decide_eq_true (cl_eq es e3 c), Bool.true_or]
  have go : ¬ (a < b ∧ b % a = 0) → P 13 112 [(0, .int (nI a)), (1, .int (nI b))] [] I J R := fun z => by
    rw [if_neg z] at k4
    exact sg_X12_comesOf_13 hc _ _ _ _ _ (L 30 (by decide) (fun q => hY (k4.symm.trans q)) (fun q => hN (k4.symm.trans q)))
  refine sg_X12_comesOf_0 hc _ _ _ _ _ ⟨fun c => go (fun z => ?_), fun c => ⟨k2, fun c2 => go (fun z => c2 (k3.mpr z.2)), fun c2 => ⟨Or.inr rfl, hY ?_⟩⟩⟩
  · have := k1.mp c
    omega
  · have l : ¬ b ≤ a := fun z => c (k1.mpr z)
    rw [if_pos ⟨by omega, k3.mp c2⟩] at k4
    exact k4.symm
end RCX
end PT16x4
section PT16x5
/-! ===== how many cuts and splits till there is a slice: the scribe's ===== -/
noncomputable abbrev FrE9 (I : Im) (J : Jm) (I2 : Im) (J2 : Jm) : Prop := FrW (fun c _ => c = 42 ∨ c = 43 ∨ c = 44) nV I J I2 J2
/-- the first slice of a set from which it takes the fewest -/
noncomputable def fb9 (st : Nat → Bool) (E : Nat → Nat) : Nat → Nat → Nat
  | 0, b => b
  | f + 1, b => fb9 st E f (if st (30 - f) = true ∧ E (30 - f) < E b then 30 - f else b)
noncomputable def mn9 (b : Nat) : Int32 := if b = 0 then -1 else nI b
theorem fb9_id {st : Nat → Bool} {E : Nat → Nat} : ∀ f b, f ≤ 30 → (∀ s, 31 - f ≤ s → s ≤ 30 → E s = 1000) → E b ≤ 1000 → fb9 st E f b = b := by
  intro f
  induction f with
  | zero => intro b _ _ _; rfl
  | succ f ih =>
    intro b hf h hb
    have e : E (30 - f) = 1000 := h _ (by omega) (by omega)
    show fb9 st E f (if st (30 - f) = true ∧ E (30 - f) < E b then 30 - f else b) = b
    rw [if_neg (fun z => by have := z.2; omega)]
    exact ih b (by omega) (fun s a c => h s (by omega) c) hb
/-- it is one of them -/
theorem fb9_in {st : Nat → Bool} {E : Nat → Nat} {t : Nat} (ht : t ≤ 30) (h0 : ∀ s, t < s → s ≤ 30 → E s = 1000) (h1 : ∀ s, s ≤ 30 → E s ≤ 1000) : ∀ f b, f ≤ 30 → (b = 0 ∨ (1 ≤ b ∧ b ≤ t ∧ E b < 1000)) → (fb9 st E f b = 0 ∨ (1 ≤ fb9 st E f b ∧ fb9 st E f b ≤ t ∧ E (fb9 st E f b) < 1000)) := by
  intro f
  induction f with
  | zero => intro b _ h; exact h
  | succ f ih =>
    intro b hf hb
    show fb9 st E f (if st (30 - f) = true ∧ E (30 - f) < E b then 30 - f else b) = 0 ∨ _
    have e : fb9 st E (f + 1) b = fb9 st E f (if st (30 - f) = true ∧ E (30 - f) < E b then 30 - f else b) := rfl
    rw [e]
    refine ih _ (by omega) ?_
    split
    · rename_i q
      have q2 := q.2
      have b1 : E b ≤ 1000 := h1 b (by omega)
      refine Or.inr ⟨by omega, ?_, by omega⟩
      rcases Nat.lt_or_ge t (30 - f) with z | z
      · have := h0 _ z (by omega); omega
      · exact z
    · exact hb
theorem e9_m {t s : Nat} (ht : t ≤ 30) (hs : s ≤ 30) : e9 t s ≤ 1000 := by
  rcases e9_b ht hs with z | z <;> omega
theorem e9_29 {t s : Nat} (ht : t ≤ 30) (hs : s ≤ 30) (h : e9 t s < 1000) : e9 t s ≤ 29 := by
  rcases e9_b ht hs with z | z <;> omega
section RCC
variable {I : Im} {J : Jm} {R : Rm} {Q : Qt}
theorem px_steps9 {d t : Nat} (h1 : 1 ≤ t) (ht : t ≤ 30) (hQ : ∀ I2, (∀ k, 1 ≤ k → k ≤ t → I2 43 k = nI (e9 t k)) → FrE9 I J I2 J → Q 0 0 I2 J R) : AM (d + 2) 55 112 [.ref 42, .int (nI t)] I J R Q := by
  refine am_X5_countSteps (fun P hc => ?_)
  have L11 : ∀ (f : Nat) (M : Im), f < t → (∀ k, f < k → k ≤ t → M 43 k = nI (e9 t k)) → FrE9 I J M J → P 11 112 [(0, .ref 42), (1, .int (nI t)), (2, .int (nI f))] [] M J R := by
    intro f
    induction f with
    | zero => intro M _ hM hF; exact sg_X5_countSteps_11 hc _ _ _ _ _ ⟨fun _ => hQ M (fun k a b => hM k (by omega) b) hF, fun c => absurd ((nlt_nI (a := 0) (b := 1) (by omega) (by omega)).mpr (by omega)) c⟩
    | succ f ih =>
      intro M hf hM hF
      have L29 : ∀ (g v : Nat) (M : Im), g + (f + 1) ≤ t → v ≤ 1000 → M 43 (f + 1) = nI v → (∀ k, f + 1 < k → k ≤ t → M 43 k = nI (e9 t k)) → FrE9 I J M J → inC9 t (f + 1) g v = e9 t (f + 1) → P 29 112 [(0, .ref 42), (1, .int (nI t)), (2, .int (nI (f + 1))), (3, .int (nI (t + 1 - g)))] [] M J R := by
        intro g
        induction g with
        | zero =>
          intro v M _ hv e1 hM hF hi
          have hi2 : v = e9 t (f + 1) := hi
          refine sg_X5_countSteps_29 hc _ _ _ _ _ _ ⟨fun _ => ?_, fun c => absurd ((nlt_nI (b := t + 1 - 0) (by omega) (by omega)).mpr (by omega)) c⟩
          have ef : nI (f + 1) + (-1) = nI f := by
            have k : (nI (f + 1) + (-1) : Int32).toInt = ((f + 1 : Nat) : Int) + (-1) := ti_add (nI_toInt (by omega)) (show (-1 : Int32).toInt = -1 from rfl) (by omega)
            exact Int32.toInt_inj.mp (by rw [k, nI_toInt (by omega)]; omega)
          rw [ef]
          refine ih M (by omega) (fun k a b => ?_) hF
          by_cases q : k = f + 1
          · subst q; rw [e1, hi2]
          · exact hM k (by omega) b
        | succ g ihg =>
          intro v M hg hv e1 hM hF hi
          have ed : t + 1 - (g + 1) = t - g := by omega
          have hi2 : inC9 t (f + 1) g (if cm9 (f + 1) (t - g) = true then (if e9 t (t - g) + 1 < v then e9 t (t - g) + 1 else v) else v) = e9 t (f + 1) := hi
          have en : nI (t - g) + 1 = nI (t + 1 - g) := by rw [nI_k1]; exact congrArg nI (by omega)
          have ep := hM (t - g) (by omega) (by omega)
          have eb : e9 t (t - g) ≤ 1000 := e9_m ht (by omega)
          rw [ed]
          refine sg_X5_countSteps_29 hc _ _ _ _ _ _ ⟨fun c => absurd ((nlt_nI (by omega) (by omega)).mp c) (by omega), fun _ => px_comC (a := f + 1) (b := t - g) (by omega) (by omega) (by omega) (by omega) (fun hc9 _ => ⟨fun z => absurd z (by decide), fun _ => ⟨vp_nI (by omega) (by omega), vp_nI (by omega) (by omega), vp_nI (by omega) (by omega), ?_⟩⟩) (fun hc9 _ => ⟨fun _ => ?_, fun z => absurd rfl z⟩)⟩
          · rw [if_pos hc9] at hi2
            rw [tn_nI (by omega), tn_nI (by omega), ep, e1, en, nI_k1]
            have ev : (if nI (e9 t (t - g) + 1) < nI v then nI (e9 t (t - g) + 1) else nI v) = nI (if e9 t (t - g) + 1 < v then e9 t (t - g) + 1 else v) := by
              by_cases q : e9 t (t - g) + 1 < v
              · rw [if_pos q, if_pos ((nlt_b9 (by omega) (by omega)).mpr q)]
              · rw [if_neg q, if_neg (fun z => q ((nlt_b9 (by omega) (by omega)).mp z))]
            rw [ev]
            refine ihg _ _ (by omega) ?_ rd_eq (fun k a b => (rd_k (by omega)).trans (hM k a b)) (hF.u (Or.inr (Or.inl rfl))) hi2
            split <;> omega
          · rw [if_neg (by rw [hc9]; decide)] at hi2
            rw [en]
            exact ihg v M (by omega) hv e1 hM hF hi2
      refine sg_X5_countSteps_11 hc _ _ _ _ _ ⟨fun c => absurd ((nlt_nI (b := 1) (by omega) (by omega)).mp c) (by omega), fun _ => ⟨vp_nI (by omega) (by omega), ?_⟩⟩
      have k := L29 (t - (f + 1)) 1000 (uI M 43 (f + 1) 1000) (by omega) (by decide) rd_eq (fun k a b => (rd_k (by omega)).trans (hM k (by omega) b)) (hF.u (Or.inr (Or.inl rfl))) (e9_in ht (by omega) hf)
      rw [show t + 1 - (t - (f + 1)) = f + 1 + 1 by omega, ← nI_k1 (f + 1)] at k
      rw [tn_nI (by omega)]
      exact k
  refine sg_X5_countSteps_0 hc _ _ _ _ ⟨vp_nI (by omega) (by omega), ?_⟩
  have e1 : nI t - 1 = nI (t - 1) := nI_sub (b := 1) (by omega) (by omega)
  rw [e1, tn_nI (by omega)]
  refine L11 (t - 1) _ (by omega) (fun k a b => ?_) (FrW.rf.u (Or.inr (Or.inl rfl)))
  have q : k = t := by omega
  subst q
  rw [rd_eq, (e9_0 ht ht).mpr ⟨rfl, by omega⟩]
  rfl
theorem lnk9_s {t s i : Nat} : lnk9 t s (i + 1) = nx9 t (lnk9 t s i) := rfl
theorem px_follow9 {d t s : Nat} (ht : t ≤ 30) (h1 : 1 ≤ s) (hs : s ≤ t) (he : e9 t s < 1000) (hI : ∀ k, 1 ≤ k → k ≤ t → I 43 k = nI (e9 t k)) (hQ : ∀ I2, I2 42 2 = nI (e9 t s + 1) → (∀ i, i ≤ e9 t s → I2 44 i = nI (lnk9 t s i)) → FrE9 I J I2 J → Q 0 0 I2 J R) : AM (d + 2) 56 112 [.ref 42, .int (nI s), .int (nI t)] I J R Q := by
  refine am_X5_follow (fun P hc => ?_)
  have hb : e9 t s ≤ 29 := e9_29 ht (by omega) he
  have L : ∀ (g sl j : Nat) (M : Im), g ≤ t → sl = lnk9 t s j → 1 ≤ sl → sl < t + 1 - g → e9 t sl + j = e9 t s → M 42 2 = nI (j + 1) → (∀ i, i ≤ j → M 44 i = nI (lnk9 t s i)) → (∀ k, 1 ≤ k → k ≤ t → M 43 k = nI (e9 t k)) → FrE9 I J M J → (∀ q, sl < q → q < t + 1 - g → ¬ (cm9 sl q = true ∧ e9 t q + 1 = e9 t sl)) → P 19 112 [(0, .ref 42), (2, .int (nI t)), (3, .int (nI sl)), (4, .int (nI (t + 1 - g)))] [] M J R := by
    intro g
    induction g with
    | zero =>
      intro sl j M _ hl l1 l2 hj m2 m4 m3 hF hn
      refine sg_X5_follow_19 hc _ _ _ _ _ _ ⟨fun _ => ?_, fun c => absurd ((nlt_nI (b := t + 1 - 0) (by omega) (by omega)).mpr (by omega)) c⟩
      have e0 : e9 t sl = 0 := Decidable.byContradiction (fun z => by
        obtain ⟨n1, n2, n3, n4⟩ := e9_nx ht (by omega) l1 z (by omega)
        exact hn _ n1 (by omega) ⟨n3, n4⟩)
      have ej : j = e9 t s := by omega
      subst ej
      exact hQ M m2 m4 hF
    | succ g ih =>
      intro sl j M hg hl l1 l2 hj m2 m4 m3 hF hn
      have ed : t + 1 - (g + 1) = t - g := by omega
      rw [ed] at hn l2 ⊢
      have en : nI (t - g) + 1 = nI (t + 1 - g) := by rw [nI_k1]; exact congrArg nI (by omega)
      have eb : e9 t (t - g) ≤ 1000 := e9_m ht (by omega)
      have ep := m3 (t - g) (by omega) (by omega)
      have es := m3 sl l1 (by omega)
      have tp : (nI (e9 t (t - g))).toInt = (e9 t (t - g) : Int) := nI_toInt (by omega)
      have ts : (nI (e9 t sl) - 1 : Int32).toInt = (e9 t sl : Int) - 1 := ti_sub (nI_toInt (by omega)) (show (1 : Int32).toInt = 1 from rfl) (by omega)
      have skip : ¬ (cm9 sl (t - g) = true ∧ e9 t (t - g) + 1 = e9 t sl) → P 19 112 [(0, .ref 42), (2, .int (nI t)), (3, .int (nI sl)), (4, .int (nI (t + 1 - g)))] [] M J R := fun z => by
        refine ih sl j M (by omega) hl l1 (by omega) hj m2 m4 m3 hF (fun q a b => ?_)
        by_cases y : q = t - g
        · subst y; exact z
        · exact hn q a (by omega)
      refine sg_X5_follow_19 hc _ _ _ _ _ _ ⟨fun c => absurd ((nlt_nI (by omega) (by omega)).mp c) (by omega), fun _ => ⟨vp_nI (by omega) (by omega), vp_nI (by omega) (by omega), ?_⟩⟩
      rw [tn_nI (by omega), tn_nI (by omega), ep, es, en]
      refine ⟨fun c => skip (fun z => c (Int32.toInt_inj.mp (by rw [tp, ts]; have := z.2; omega))), fun c => ?_⟩
      have c2 := congrArg Int32.toInt c
      rw [tp, ts] at c2
      refine px_comC (a := sl) (b := t - g) l1 (by omega) (by omega) (by omega) (fun hy _ => ⟨fun z => absurd z (by decide), fun _ => ?_⟩) (fun hy _ => ⟨fun _ => skip (fun z => by rw [hy] at z; exact absurd z.1 (by decide)), fun z => absurd rfl z⟩)
      rw [m2]
      refine ⟨vp_nI (by omega) (by omega), ?_⟩
      rw [tn_nI (by omega)]
      have l2' : ¬ e9 t sl = 0 := by omega
      have l3' : ¬ e9 t sl = 1000 := by omega
      have nx : nx9 t sl = t - g := by
        have a1 := e9_mn (s := sl) ht (by omega) (by omega) (by omega) hy (by omega) l3'
        obtain ⟨n1, n2, n3, n4⟩ := e9_nx ht (by omega) l1 l2' l3'
        rcases Nat.lt_or_ge (nx9 t sl) (t - g) with z | z
        · exact absurd ⟨n3, n4⟩ (hn _ n1 z)
        · omega
      have eL : lnk9 t s (j + 1) = t - g := by rw [lnk9_s, ← hl]; exact nx
      refine ih (t - g) (j + 1) _ (by omega) eL.symm (by omega) (by omega) (by omega) ?_ (fun i hi => ?_) (fun k a b => ?_) ((hF.u (Or.inr (Or.inr rfl))).u (Or.inl rfl)) (fun q a b => by omega)
      · rw [rd_eq, rd_ne (by decide), m2, nI_k1]
      · rw [rd_ne (by decide)]
        by_cases q : i = j + 1
        · subst q; rw [rd_eq, eL]
        · rw [rd_k q]; exact m4 i (by omega)
      · rw [rd_ne (by decide), rd_ne (by decide)]; exact m3 k a b
  have t0 : Int32.toNatClampNeg 0 = 0 := rfl
  refine sg_X5_follow_0 hc _ _ _ _ _ ⟨vp_of (a := 0) rfl (by decide) (by decide), ?_⟩
  rw [nI_k1, t0]
  have k := L (t - s) s 0 (uI (uI I 44 0 (nI s)) 42 2 1) (by omega) rfl h1 (by omega) (by omega) rd_eq (fun i hi => ?_) (fun k a b => ?_) ((FrW.rf.u (Or.inr (Or.inr rfl))).u (Or.inl rfl)) (fun q a b => by omega)
  · rw [show t + 1 - (t - s) = s + 1 by omega] at k
    exact k
  · have : i = 0 := by omega
    subst this
    rw [rd_ne (by decide), rd_eq]
    rfl
  · rw [rd_ne (by decide), rd_ne (by decide)]; exact hI k a b
/-- from where, and what lies between -/
noncomputable def st9 (A : Int32) (s : Nat) : Bool := inS A (nI s)
theorem px_find9 {d t : Nat} {A : Int32} (h1 : 1 ≤ t) (ht : t ≤ 30) (hQ0 : fb9 (st9 A) (e9 t) 30 0 = 0 → ∀ I2, FrE9 I J I2 J → Q 0 0 I2 J R) (hQ1 : ∀ b, fb9 (st9 A) (e9 t) 30 0 = b → 1 ≤ b → b ≤ t → e9 t b ≤ 29 → ∀ I2, I2 42 2 = nI (e9 t b + 1) → (∀ i, i ≤ e9 t b → I2 44 i = nI (lnk9 t b i)) → FrE9 I J I2 J → Q 1 0 I2 J R) : AM (d + 3) 54 112 [.ref 42, .int A, .int (nI t)] I J R Q := by
  refine am_X5_find (fun P hc => sg_X5_find_0 hc _ _ _ _ _ ?_)
  have hb0 : ∀ k, k ≤ 30 → e9 t k ≤ 1000 := fun k hk => e9_m ht hk
  have z0 : e9 t 0 = 1000 := ckZ9 t (by omega)
  refine px_steps9 h1 ht (fun M hM hF => ?_)
  have L : ∀ (g b : Nat), g ≤ t → (b = 0 ∨ (1 ≤ b ∧ b ≤ t ∧ e9 t b < 1000)) → fb9 (st9 A) (e9 t) (30 - t + g) b = fb9 (st9 A) (e9 t) 30 0 → P 15 112 [(0, .ref 42), (1, .int A), (2, .int (nI t)), (3, .int (mn9 b)), (4, .int (nI (e9 t b))), (5, .int (nI (t + 1 - g)))] [] M J R := by
    intro g
    induction g with
    | zero =>
      intro b _ hb he
      have hid : fb9 (st9 A) (e9 t) (30 - t + 0) b = b := fb9_id _ b (by omega) (fun s a c => e9_gt ht c (by omega)) (hb0 b (by omega))
      rw [hid] at he
      refine sg_X5_find_15 hc _ _ _ _ _ _ _ _ ⟨fun _ => ?_, fun c => absurd ((nlt_nI (b := t + 1 - 0) (by omega) (by omega)).mpr (by omega)) c⟩
      rcases hb with hb | ⟨b1, b2, b3⟩
      · subst hb
        exact ⟨fun c => absurd rfl c, fun _ => ⟨Or.inl rfl, hQ0 he.symm M hF⟩⟩
      · have em : mn9 b = nI b := if_neg (by omega)
        rw [em]
        have nm : ¬ nI b = -1 := fun z => by
          have := congrArg Int32.toInt z
          rw [nI_toInt (by omega), show (-1 : Int32).toInt = -1 from rfl] at this
          omega
        have b29 : e9 t b ≤ 29 := e9_29 ht (by omega) b3
        exact ⟨fun _ => px_follow9 ht b1 b2 b3 hM (fun I2 a1 a2 a3 => ⟨Or.inr rfl, hQ1 b he.symm b1 b2 b29 I2 a1 a2 (hF.tr a3)⟩), fun c => absurd c nm⟩
    | succ g ih =>
      intro b hg hb he
      have ed : t + 1 - (g + 1) = t - g := by omega
      have e30 : 30 - (30 - t + g) = t - g := by omega
      have he2 : fb9 (st9 A) (e9 t) (30 - t + g) (if st9 A (30 - (30 - t + g)) = true ∧ e9 t (30 - (30 - t + g)) < e9 t b then 30 - (30 - t + g) else b) = fb9 (st9 A) (e9 t) 30 0 := he
      rw [e30] at he2
      rw [ed]
      have en : nI (t - g) + 1 = nI (t + 1 - g) := by rw [nI_k1]; exact congrArg nI (by omega)
      have eb := hb0 b (by omega)
      have ep := hM (t - g) (by omega) (by omega)
      have eb2 := hb0 (t - g) (by omega)
      refine sg_X5_find_15 hc _ _ _ _ _ _ _ _ ⟨fun c => absurd ((nlt_nI (by omega) (by omega)).mp c) (by omega), fun _ => px_isIn (fun hi _ => ⟨fun z => absurd z (by decide), fun _ => ⟨vp_nI (by omega) (by omega), ?_⟩⟩) (fun hi _ => ⟨fun _ => ?_, fun z => absurd rfl z⟩)⟩
      · rw [tn_nI (by omega), ep, en]
        refine ⟨fun c => ?_, fun c => ⟨vp_nI (by omega) (by omega), ?_⟩⟩
        · rw [nle_nI eb eb2] at c
          rw [if_neg (fun z => by have := z.2; omega)] at he2
          exact ih b (by omega) hb he2
        · rw [nle_nI eb eb2] at c
          have hs : st9 A (t - g) = true := hi
          rw [if_pos ⟨hs, by omega⟩] at he2
          have k := ih (t - g) (by omega) (Or.inr ⟨by omega, by omega, by omega⟩) he2
          rw [show mn9 (t - g) = nI (t - g) from if_neg (by omega)] at k
          exact k
      · have hs : ¬ st9 A (t - g) = true := fun z => by
          have z2 : inS A (nI (t - g)) = true := z
          rw [hi] at z2; cases z2
        rw [if_neg (fun z => hs z.1)] at he2
        rw [en]
        exact ih b (by omega) hb he2
  have k := L t 0 (Nat.le_refl _) (Or.inl rfl) (by rw [show 30 - t + t = 30 by omega])
  rw [z0, show t + 1 - t = 1 by omega] at k
  exact k
end RCC
end PT16x5
section PT16x6
/-! ===== how many cuts and splits till there is a slice: the reference's, and what both answer ===== -/
noncomputable abbrev FrL9 (I : Im) (J : Jm) (I2 : Im) (J2 : Jm) : Prop := FrW (fun c _ => c = 108) nV I J I2 J2
/-- a number that is told below d -/
noncomputable def dv9 (e d : Nat) : Int32 := if e < d then nI e else -1
theorem dv9_y {e d : Nat} (h : e < d) : dv9 e d = nI e := if_pos h
theorem dv9_n {e d : Nat} (h : ¬ e < d) : dv9 e d = -1 := if_neg h
theorem n1_neg : (-1 : Int32).toInt = -1 := rfl
section RCR
variable {I : Im} {J : Jm} {R : Rm} {Q : Qt}
theorem px_lays9 {d t : Nat} (h1 : 1 ≤ t) (ht : t ≤ 30) (hQ : ∀ I2, (∀ k, k ≤ 30 → I2 108 k = dv9 (e9 t k) 30) → FrL9 I J I2 J → Q 0 0 I2 J R) : AM (d + 3) 289 112 [.ref 97, .int (nI t)] I J R Q := by
  refine am_X12_laysReach (fun P hc => sg_X12_laysReach_0 hc _ _ _ _ ?_)
  have hbn : ∀ k, k ≤ 30 → e9 t k ≤ 1000 := fun k hk => e9_m ht hk
  have L32 : ∀ (g : Nat) (M : Im), g ≤ 29 → (∀ k, k ≤ 30 → M 108 k = dv9 (e9 t k) (30 - g)) → FrL9 I J M J → P 32 112 [(0, .ref 97), (2, .int (nI (30 - g)))] [] M J R := by
    intro g
    induction g with
    | zero => intro M _ hM hF; exact sg_X12_laysReach_32 hc _ _ _ _ ⟨fun _ => hQ M hM hF, fun c => absurd ((nle_nI (a := 30) (b := 30 - 0) (by omega) (by omega)).mpr (by omega)) c⟩
    | succ g ih =>
      intro M hg hM hF
      have ed : 30 - (g + 1) = 29 - g := by omega
      rw [ed] at hM ⊢
      have L40 : ∀ (h : Nat) (M : Im), h ≤ 30 → (∀ k, k ≤ 30 → M 108 k = dv9 (e9 t k) (if k < 31 - h then 30 - g else 29 - g)) → FrL9 I J M J → P 40 112 [(0, .ref 97), (2, .int (nI (29 - g))), (3, .int (nI (31 - h)))] [] M J R := by
        intro h
        induction h with
        | zero =>
          intro M _ hM hF
          refine sg_X12_laysReach_40 hc _ _ _ _ _ ⟨fun _ => ?_, fun c => absurd ((nlt_nI (a := 30) (b := 31 - 0) (by omega) (by omega)).mpr (by omega)) c⟩
          rw [show nI (29 - g) + 1 = nI (30 - g) from by rw [nI_k1]; exact congrArg nI (by omega)]
          exact ih M (by omega) (fun k hk => (hM k hk).trans (by rw [if_pos (by omega)])) hF
        | succ h ihh =>
          intro M hh hM hF
          have eh : 31 - (h + 1) = 30 - h := by omega
          rw [eh] at hM ⊢
          have en : nI (30 - h) + 1 = nI (31 - h) := nx30 hh
          have hs := hbn (30 - h) (by omega)
          have own : M 108 (30 - h) = dv9 (e9 t (30 - h)) (29 - g) := (hM (30 - h) (by omega)).trans (by rw [if_neg (by omega)])
          refine sg_X12_laysReach_40 hc _ _ _ _ _ ⟨fun c => absurd ((nlt_nI (a := 30) (by omega) (by omega)).mp c) (by omega), fun _ => ?_⟩
          by_cases q : e9 t (30 - h) < 29 - g
          · -- it is told already
            have go := ihh M (by omega) (fun k hk => by
              rw [hM k hk]
              by_cases z : k = 30 - h
              · subst z
                rw [if_neg (by omega), if_pos (by omega), dv9_y q, dv9_y (by omega)]
              · by_cases z2 : k < 30 - h
                · rw [if_pos z2, if_pos (by omega)]
                · rw [if_neg z2, if_neg (by omega)]) hF
            refine sg_X12_laysReach_52 hc _ _ _ _ _ _ _ ⟨fun c => absurd ((nlt_nI (a := 30) (b := 1) (by omega) (by omega)).mp c) (by omega), fun _ => ⟨vp_nI (by omega) (by omega), fun _ => ⟨fun _ => ?_, fun z => absurd rfl z⟩, fun c => ?_⟩⟩
            · rw [en]; exact go
            · rw [tn_nI (by omega), own, dv9_y q] at c
              exact absurd ((nle_nI (a := 0) (by omega) (by omega)).mpr (by omega)) c
          · have ownn : M 108 (30 - h) = -1 := own.trans (dv9_n q)
            have keep : ∀ M2 : Im, (∀ k, k ≤ 30 → ¬ k = 30 - h → M2 108 k = M 108 k) → M2 108 (30 - h) = dv9 (e9 t (30 - h)) (30 - g) → ∀ k, k ≤ 30 → M2 108 k = dv9 (e9 t k) (if k < 31 - h then 30 - g else 29 - g) := fun M2 a b k hk => by
              by_cases z : k = 30 - h
              · subst z; rw [b, if_pos (by omega)]
              · rw [a k hk z, hM k hk]
                by_cases z2 : k < 30 - h
                · rw [if_pos z2, if_pos (by omega)]
                · rw [if_neg z2, if_neg (by omega)]
            have L52 : ∀ (w : Nat) (b : Bool), w ≤ 30 → (b = true → e9 t (30 - h) = 29 - g) → (b = false → ∀ p, 1 ≤ p → p < 31 - w → ¬ (cm9 (30 - h) p = true ∧ e9 t p + 1 = 29 - g)) → P 52 112 [(0, .ref 97), (2, .int (nI (29 - g))), (3, .int (nI (30 - h))), (4, .int (bl b)), (5, .int (nI (31 - w)))] [] M J R := by
              intro w
              induction w with
              | zero =>
                intro b _ hb1 hb0
                refine sg_X12_laysReach_52 hc _ _ _ _ _ _ _ ⟨fun _ => ?_, fun c => absurd ((nlt_nI (a := 30) (b := 31 - 0) (by omega) (by omega)).mpr (by omega)) c⟩
                rw [en]
                cases b with
                | false =>
                  refine ⟨fun _ => ihh M (by omega) (keep M (fun _ _ _ => rfl) ?_) hF, fun z => absurd rfl z⟩
                  rw [ownn, dv9_n]
                  intro z
                  have l0 : ¬ e9 t (30 - h) = 0 := by omega
                  obtain ⟨n1, n2, n3, n4⟩ := e9_nx ht (by omega) (by omega) l0 (by omega)
                  exact hb0 rfl _ (by omega) (by omega) ⟨n3, by omega⟩
                | true =>
                  refine ⟨fun z => absurd (show (1 : Int32) = 0 from z) (by decide), fun _ => ⟨vp_nI (by omega) (by omega), ?_⟩⟩
                  rw [tn_nI (by omega)]
                  refine ihh _ (by omega) (keep _ (fun k _ z => rd_k z) ?_) (hF.u rfl)
                  have e := hb1 rfl
                  rw [rd_eq, dv9_y (by omega), e]
              | succ w ihw =>
                intro b hw hb1 hb0
                have ew : 31 - (w + 1) = 30 - w := by omega
                rw [ew] at hb0 ⊢
                have enw : nI (30 - w) + 1 = nI (31 - w) := nx30 hw
                have hp := hbn (30 - w) (by omega)
                refine sg_X12_laysReach_52 hc _ _ _ _ _ _ _ ⟨fun c => absurd ((nlt_nI (a := 30) (by omega) (by omega)).mp c) (by omega), fun _ => ⟨vp_nI (by omega) (by omega), ?_⟩⟩
                rw [tn_nI (by omega), tn_nI (by omega), ownn, enw]
                refine ⟨fun c => absurd c (by decide), fun _ => ?_⟩
                cases b with
                | true => exact ⟨fun _ => ihw true (by omega) hb1 (fun z => by cases z), fun z => absurd (show (1 : Int32) = 0 from z) (by decide)⟩
                | false =>
                  refine ⟨fun z => absurd rfl z, fun _ => ⟨vp_nI (by omega) (by omega), ?_⟩⟩
                  have nxt : ¬ (cm9 (30 - h) (30 - w) = true ∧ e9 t (30 - w) + 1 = 29 - g) → P 52 112 [(0, .ref 97), (2, .int (nI (29 - g))), (3, .int (nI (30 - h))), (4, .int 0), (5, .int (nI (31 - w)))] [] M J R := fun z =>
                    ihw false (by omega) (fun y => by cases y) (fun _ p a c => by
                      by_cases y : p = 30 - w
                      · subst y; exact z
                      · exact hb0 rfl p a (by omega))
                  have ed1 : (nI (29 - g) - 1 : Int32).toInt = ((29 - g : Nat) : Int) - 1 := ti_sub (nI_toInt (by omega)) (show (1 : Int32).toInt = 1 from rfl) (by omega)
                  have tv : M 108 (30 - w) = nI (29 - g) - 1 ↔ e9 t (30 - w) + 1 = 29 - g := by
                    rw [hM (30 - w) (by omega), ← Int32.toInt_inj, ed1]
                    unfold dv9
                    by_cases z : e9 t (30 - w) < (if 30 - w < 30 - h then 30 - g else 29 - g)
                    · rw [if_pos z, nI_toInt (by omega)]
                      omega
                    · rw [if_neg z, n1_neg]
                      have z2 : ¬ e9 t (30 - w) < 29 - g := fun y => z (by split <;> omega)
                      omega
                  refine ⟨fun c => nxt (fun z => c (tv.mpr z.2)), fun c => ?_⟩
                  have c2 := tv.mp c
                  refine px_comR (a := 30 - h) (b := 30 - w) (by omega) (by omega) (by omega) (by omega) (fun hy _ => ⟨fun z => absurd z (by decide), fun _ => ?_⟩) (fun hy _ => ⟨fun _ => nxt (fun z => by rw [hy] at z; exact absurd z.1 (by decide)), fun z => absurd rfl z⟩)
                  have le := e9_le (t := t) (s := 30 - h) ht (by omega) (by omega) (by omega) hy
                  exact ihw true (by omega) (fun _ => by omega) (fun z => by cases z)
            exact L52 30 false (by decide) (fun z => by cases z) (fun _ p a c => by omega)
      have z0 : e9 t 0 = 1000 := ckZ9 t (by omega)
      refine sg_X12_laysReach_32 hc _ _ _ _ ⟨fun c => absurd ((nle_nI (a := 30) (b := 29 - g) (by omega) (by omega)).mp c) (by omega), fun _ => ?_⟩
      exact L40 30 M (by decide) (fun k hk => by
        rw [hM k hk]
        by_cases z : k = 0
        · subst z
          rw [if_pos (by omega), z0, dv9_n (by omega), dv9_n (by omega)]
        · rw [if_neg (by omega)]) hF
  have L2 : ∀ (f : Nat) (M : Im), f ≤ 31 → (∀ k, k < 31 - f → M 108 k = dv9 (e9 t k) 1) → FrL9 I J M J → P 2 112 [(0, .ref 97), (1, .int (nI t)), (2, .int (nI (31 - f)))] [] M J R := by
    intro f
    induction f with
    | zero =>
      intro M _ hM hF
      exact sg_X12_laysReach_2 hc _ _ _ _ _ ⟨fun _ => L32 29 M (by decide) (fun k hk => hM k (by omega)) hF, fun c => absurd ((nlt_nI (a := 30) (b := 31 - 0) (by omega) (by omega)).mpr (by omega)) c⟩
    | succ f ih =>
      intro M hf hM hF
      have ed : 31 - (f + 1) = 30 - f := by omega
      rw [ed] at hM ⊢
      have en : nI (30 - f) + 1 = nI (31 - f) := by rw [nI_k1]; exact congrArg nI (by omega)
      refine sg_X12_laysReach_2 hc _ _ _ _ _ ⟨fun c => absurd ((nlt_nI (a := 30) (by omega) (by omega)).mp c) (by omega), fun _ => ⟨fun c => ⟨vp_nI (by omega) (by omega), ?_⟩, fun c => ⟨vp_nI (by omega) (by omega), ?_⟩⟩⟩
      · rw [tn_nI (by omega), en]
        refine ih _ (by omega) (fun k hk => ?_) (hF.u rfl)
        by_cases z : k = 30 - f
        · subst z
          have z1 : ¬ e9 t (30 - f) = 0 := fun y => c (congrArg nI ((e9_0 ht (by omega)).mp y).1)
          rw [rd_eq, dv9_n (by omega)]
        · rw [rd_k z]; exact hM k (by omega)
      · rw [tn_nI (by omega), en]
        have c2 : 30 - f = t := nI_inj (by omega) (by omega) c
        refine ih _ (by omega) (fun k hk => ?_) (hF.u rfl)
        by_cases z : k = 30 - f
        · subst z
          have z1 : e9 t (30 - f) = 0 := (e9_0 ht (by omega)).mpr ⟨c2, by omega⟩
          rw [rd_eq, z1]; rfl
        · rw [rd_k z]; exact hM k (by omega)
  exact L2 31 I (by decide) (fun k hk => absurd hk (by omega)) FrW.rf
/-- the first from which it takes the fewest -/
theorem px_from9 {d t M : Nat} {s : StS9} (h1 : 1 ≤ t) (ht : t ≤ 30) (hB : BkR M s I) (hQ : ∀ I2, (∀ k, k ≤ 30 → I2 108 k = dv9 (e9 t k) 30) → FrL9 I J I2 J → Q (mn9 (fb9 (fun k => !decide (s.1 k ≤ 0)) (e9 t) 30 0)) 0 I2 J R) : AM (d + 4) 290 112 [.ref 97, .int (nI t)] I J R Q := by
  refine am_X12_reachFrom (fun P hc => sg_X12_reachFrom_0 hc _ _ _ _ ?_)
  have hbn : ∀ k, k ≤ 30 → e9 t k ≤ 1000 := fun k hk => e9_m ht hk
  have z0 : e9 t 0 = 1000 := ckZ9 t (by omega)
  refine px_lays9 h1 ht (fun A hA hF => ?_)
  have e102 : A 102 = I 102 := hF.c (fun k q => by omega)
  have fin := hQ A hA hF
  have L : ∀ (f b : Nat), f ≤ 30 → (b = 0 ∨ (1 ≤ b ∧ b ≤ t ∧ e9 t b < 1000)) → fb9 (fun k => !decide (s.1 k ≤ 0)) (e9 t) f b = fb9 (fun k => !decide (s.1 k ≤ 0)) (e9 t) 30 0 → P 9 112 [(0, .ref 97), (2, .int (mn9 b)), (3, .int (nI (31 - f)))] [] A J R := by
    intro f
    induction f with
    | zero =>
      intro b _ _ he
      have he2 : b = fb9 (fun k => !decide (s.1 k ≤ 0)) (e9 t) 30 0 := he
      rw [← he2] at fin
      exact sg_X12_reachFrom_9 hc _ _ _ _ _ ⟨fun _ => fin, fun c => absurd ((nlt_nI (a := 30) (b := 31 - 0) (by omega) (by omega)).mpr (by omega)) c⟩
    | succ f ih =>
      intro b hf hb he
      have ed : 31 - (f + 1) = 30 - f := by omega
      have he2 : fb9 (fun k => !decide (s.1 k ≤ 0)) (e9 t) f (if (!decide (s.1 (30 - f) ≤ 0)) = true ∧ e9 t (30 - f) < e9 t b then 30 - f else b) = fb9 (fun k => !decide (s.1 k ≤ 0)) (e9 t) 30 0 := he
      rw [ed]
      have en : nI (30 - f) + 1 = nI (31 - f) := nx30 hf
      have sq : sq9 (nI (30 - f)) := ⟨(nle_nI (a := 1) (by omega) (by omega)).mpr (by omega), (nle_nI (b := 30) (by omega) (by omega)).mpr (by omega)⟩
      obtain ⟨ix, vx⟩ := ix_st sq
      have nn : nn9 (nI (30 - f)) = 30 - f := tn_nI (by omega)
      rw [nn] at ix
      have est : A 102 (3 + (30 - f)) = s.1 (30 - f) := (congrFun e102 _).trans (hB.1 (30 - f) (by omega) (by omega))
      have ep := hA (30 - f) (by omega)
      have lp := hbn (30 - f) (by omega)
      have lb := hbn b (by omega)
      have no : ¬ ((!decide (s.1 (30 - f) ≤ 0)) = true ∧ e9 t (30 - f) < e9 t b) → P 9 112 [(0, .ref 97), (2, .int (mn9 b)), (3, .int (nI (31 - f)))] [] A J R := fun z => by
        rw [if_neg z] at he2
        exact ih b (by omega) hb he2
      refine sg_X12_reachFrom_9 hc _ _ _ _ _ ⟨fun c => absurd ((nlt_nI (a := 30) (by omega) (by omega)).mp c) (by omega), fun _ => ⟨vx, ?_⟩⟩
      rw [ix, est, en]
      refine ⟨fun c => no (fun z => ?_), fun c => ⟨vp_nI (by omega) (by omega), ?_⟩⟩
      · have y := z.1
        rw [decide_eq_true c] at y
        exact absurd y (by decide)
      rw [tn_nI (by omega), ep]
      have ys : (!decide (s.1 (30 - f) ≤ 0)) = true := by rw [decide_eq_false c]; rfl
      rcases e9_b (t := t) (s := 30 - f) ht (by omega) with w | w
      · rw [w, dv9_n (by omega)]
        refine ⟨fun _ => no (fun z => ?_), fun c2 => absurd (show (-1 : Int32) < 0 by decide) c2⟩
        have y := z.2
        omega
      · rw [dv9_y (by omega)]
        have tle : 30 - f ≤ t := by
          rcases Nat.lt_or_ge t (30 - f) with z | z
          · have := e9_gt ht (s := 30 - f) (by omega) z; omega
          · exact z
        have yes : e9 t (30 - f) < e9 t b → P 9 112 [(0, .ref 97), (2, .int (nI (30 - f))), (3, .int (nI (31 - f)))] [] A J R := fun z => by
          rw [if_pos ⟨ys, z⟩] at he2
          have k := ih (30 - f) (by omega) (Or.inr ⟨by omega, tle, by omega⟩) he2
          rw [show mn9 (30 - f) = nI (30 - f) from if_neg (by omega)] at k
          exact k
        refine ⟨fun c2 => absurd c2 (fun y => by have := (nlt_nI (b := 0) (by omega) (by omega)).mp y; omega), fun _ => ?_⟩
        rcases hb with hb | ⟨b1, b2, b3⟩
        · subst hb
          refine ⟨fun _ => yes (by rw [z0]; omega), fun c2 => absurd (show (-1 : Int32) < 0 by decide) c2⟩
        · have b29 : e9 t b ≤ 29 := e9_29 ht (by omega) b3
          have em : mn9 b = nI b := if_neg (by omega)
          have no2 := no
          rw [em] at no2 ⊢
          refine ⟨fun c2 => absurd c2 (fun y => by have := (nlt_nI (b := 0) (by omega) (by omega)).mp y; omega), fun _ => ⟨vp_nI (by omega) (by omega), vp_nI (by omega) (by omega), ?_⟩⟩
          rw [tn_nI (by omega), hA b (by omega), dv9_y (by omega)]
          refine ⟨fun c2 => no2 (fun z => ?_), fun c2 => yes ?_⟩
          · have y := (nle_nI lb lp).mp c2
            have y2 := z.2
            omega
          · rw [nle_nI lb lp] at c2; omega
  have k := L 30 0 (by decide) (Or.inl rfl) rfl
  exact k
end RCR
end PT16x6
section PT16x7
/-! ===== reach(), reachAt(): what they answer ===== -/
theorem nI_m1 {f : Nat} (h : f + 1 ≤ 1000) : nI (f + 1) + (-1) = nI f := by
  have k : (nI (f + 1) + (-1) : Int32).toInt = ((f + 1 : Nat) : Int) + (-1) := ti_add (nI_toInt (by omega)) (show (-1 : Int32).toInt = -1 from rfl) (by omega)
  exact Int32.toInt_inj.mp (by rw [k, nI_toInt (by omega)]; omega)
theorem inS_or9 {x : Int32} {d k : Nat} (hx : 0 ≤ x.toInt ∧ x.toInt < 1073741824) (d1 : 1 ≤ d) (d2 : d ≤ 30) (k1 : 1 ≤ k) (k2 : k ≤ 30) : inS (x ||| biS (nI d)) (nI k) = (inS x (nI k) || decide (k = d)) := by
  have a1 : (1 : Int32) ≤ nI d := (nle_nI (a := 1) (by omega) (by omega)).mpr d1
  have a2 : nI d ≤ (30 : Int32) := (nle_nI (b := 30) (by omega) (by omega)).mpr d2
  have hb := bi_in hx a1 a2
  have hd : (nI d - 1).toInt = ((d - 1 : Nat) : Int) := by
    rw [show nI d - 1 = nI (d - 1) from nI_sub (b := 1) (by omega) d1]
    exact nI_toInt (by omega)
  have hk : (nI k - 1).toInt = ((k - 1 : Nat) : Int) := by
    rw [show nI k - 1 = nI (k - 1) from nI_sub (b := 1) (by omega) k1]
    exact nI_toInt (by omega)
  rw [inS_tb hb.1 (show k - 1 < 30 by omega) hk, inS_tb hx.1 (show k - 1 < 30 by omega) hk, or_tb hx (show d - 1 < 30 by omega) hd]
  by_cases q : k = d
  · subst q
    rw [tb_or2, decide_eq_true rfl, Bool.or_true]
  · rw [tb_ne (by omega), decide_eq_false q, Bool.or_false]
theorem stR_in9 {S : Nat → Int32} {k : Nat} (k1 : 1 ≤ k) (k2 : k ≤ 30) : ∀ (f : Nat) (x : Int32), f ≤ 30 → 0 ≤ x.toInt ∧ x.toInt < 1073741824 → inS (stR S f x) (nI k) = (inS x (nI k) || (decide (31 - f ≤ k) && !decide (S k ≤ 0))) := by
  intro f
  induction f with
  | zero =>
    intro x _ _
    rw [decide_eq_false (show ¬ 31 - 0 ≤ k by omega), Bool.false_and, Bool.or_false]; rfl
  | succ f ih =>
    intro x hf hx
    show inS (stR S f (if S (30 - f) ≤ 0 then x else x ||| biS (nI (30 - f)))) (nI k) = _
    have hx2 : 0 ≤ (if S (30 - f) ≤ 0 then x else x ||| biS (nI (30 - f))).toInt ∧ (if S (30 - f) ≤ 0 then x else x ||| biS (nI (30 - f))).toInt < 1073741824 := by
      split
      · exact hx
      · exact bi_in hx ((nle_nI (a := 1) (by omega) (by omega)).mpr (by omega)) ((nle_nI (b := 30) (by omega) (by omega)).mpr (by omega))
    rw [ih _ (by omega) hx2]
    by_cases q : k = 30 - f
    · subst q
      rw [decide_eq_false (show ¬ 31 - f ≤ 30 - f by omega), decide_eq_true (show 31 - (f + 1) ≤ 30 - f by omega), Bool.false_and, Bool.or_false, Bool.true_and]
      by_cases z : S (30 - f) ≤ 0
      · rw [if_pos z, decide_eq_true z, Bool.not_true, Bool.or_false]
      · rw [if_neg z, decide_eq_false z, inS_or9 hx (by omega) (by omega) k1 k2, decide_eq_true rfl, Bool.or_true, Bool.not_false, Bool.or_true]
    · have e : inS (if S (30 - f) ≤ 0 then x else x ||| biS (nI (30 - f))) (nI k) = inS x (nI k) := by
        split
        · rfl
        · rw [inS_or9 hx (by omega) (by omega) k1 k2, decide_eq_false q, Bool.or_false]
      rw [e]
      by_cases z : 31 - f ≤ k
      · rw [decide_eq_true z, decide_eq_true (show 31 - (f + 1) ≤ k by omega)]
      · rw [decide_eq_false z, decide_eq_false (show ¬ 31 - (f + 1) ≤ k by omega)]
theorem fb9_congr {st st2 : Nat → Bool} {E : Nat → Nat} (h : ∀ k, 1 ≤ k → k ≤ 30 → st k = st2 k) : ∀ f b, f ≤ 30 → fb9 st E f b = fb9 st2 E f b := by
  intro f
  induction f with
  | zero => intro b _; rfl
  | succ f ih =>
    intro b hf
    show fb9 st E f (if st (30 - f) = true ∧ E (30 - f) < E b then 30 - f else b) = fb9 st2 E f (if st2 (30 - f) = true ∧ E (30 - f) < E b then 30 - f else b)
    rw [h (30 - f) (by omega) (by omega)]
    exact ih _ (by omega)
noncomputable def rb9 (I : Im) (t : Nat) : Nat := fb9 (fun k => !decide ((s9 I).1 k ≤ 0)) (e9 t) 30 0
theorem rb9_c {I : Im} {t : Nat} : fb9 (st9 (stR (s9 I).1 30 0)) (e9 t) 30 0 = rb9 I t :=
  fb9_congr (fun k a b => by
    show inS (stR (s9 I).1 30 0) (nI k) = !decide ((s9 I).1 k ≤ 0)
    rw [stR_in9 a b 30 0 (by decide) (by decide), decide_eq_true (show 31 - 30 ≤ k by omega), Bool.true_and, show inS 0 (nI k) = false from by
      unfold inS
      rw [Int32.zero_and]; rfl, Bool.false_or]) 30 0 (by decide)
theorem rb9_in {I : Im} {t : Nat} (ht : t ≤ 30) : rb9 I t = 0 ∨ (1 ≤ rb9 I t ∧ rb9 I t ≤ t ∧ e9 t (rb9 I t) ≤ 29) := by
  rcases fb9_in (st := fun k => !decide ((s9 I).1 k ≤ 0)) (E := e9 t) ht (fun s a b => e9_gt ht b a) (fun s a => e9_m ht a) 30 0 (by decide) (Or.inl rfl) with q | ⟨q1, q2, q3⟩
  · exact Or.inl q
  · have e : fb9 (fun k => !decide ((s9 I).1 k ≤ 0)) (e9 t) 30 0 = rb9 I t := rfl
    rw [e] at q1 q2 q3
    exact Or.inr ⟨q1, q2, e9_29 ht (by omega) q3⟩
noncomputable def raX9 (I : Im) (v w : Int32) : Int32 := if sq9 v then (if rb9 I (nn9 v) = 0 then -1 else if 0 ≤ w.toInt ∧ w.toInt ≤ (e9 (nn9 v) (rb9 I (nn9 v)) : Int) then nI (lnk9 (nn9 v) (rb9 I (nn9 v)) w.toInt.toNat) else -1) else -1
theorem lnk9_in {t b : Nat} (ht : t ≤ 30) (b1 : 1 ≤ b) (b2 : b ≤ t) (hb : e9 t b ≤ 29) : ∀ j, j ≤ e9 t b → 1 ≤ lnk9 t b j ∧ lnk9 t b j ≤ t ∧ e9 t (lnk9 t b j) + j = e9 t b := by
  intro j
  induction j with
  | zero => intro _; exact ⟨b1, b2, rfl⟩
  | succ j ih =>
    intro hj
    obtain ⟨a1, a2, a3⟩ := ih (by omega)
    obtain ⟨n1, n2, -, n4⟩ := e9_nx ht (by omega) a1 (by omega) (by omega)
    rw [lnk9_s]
    exact ⟨by omega, n2, by omega⟩
section W9C
variable {I I1 : Im} {J J1 : Jm} {R : Rm} {v w : Int32}
theorem sq_t9 (hd : sq9 v) : ∃ t, v = nI t ∧ nn9 v = t ∧ 1 ≤ t ∧ t ≤ 30 := ⟨nn9 v, (sq_nI hd).symm, rfl, (sq_nn hd).2.1, (sq_nn hd).2.2⟩
theorem cx_reachAt9 {d : Nat} (hR : RI R) (h : W9 I R) : AM (d + 5) 137 112 [.ref 1, .int v, .int w] I J R (fun x _ _ _ _ => x = raX9 I v w) := by
  have hO := hR.now.1
  have z0 : (0 : Int32).toInt = 0 := rfl
  refine w_X11_reachAt (px_sl9 (fun hd _ => ⟨fun _ => ⟨hR.now.2, bif_t hO (px_stockSet hO h.hs.1 ?_)⟩, fun z => absurd z (by decide)⟩) (fun hd _ => ⟨fun z => absurd rfl z, fun _ => w_X11_refuse (if_neg hd).symm⟩))
  have e1 : raX9 I v w = if rb9 I (nn9 v) = 0 then -1 else if 0 ≤ w.toInt ∧ w.toInt ≤ (e9 (nn9 v) (rb9 I (nn9 v)) : Int) then nI (lnk9 (nn9 v) (rb9 I (nn9 v)) w.toInt.toNat) else -1 := if_pos hd
  rw [e1]
  obtain ⟨t, ev, et, t1, t2⟩ := sq_t9 hd
  rw [et]
  clear e1 hd et
  subst ev
  refine px_find9 t1 t2 (fun h0 I2 _ _ => ⟨fun _ => w_X11_refuse ?_, fun z => absurd rfl z⟩) (fun b hb b1 b2 b29 I2 a1 a2 _ _ => ⟨fun z => absurd z (by decide), fun _ => ?_⟩)
  · rw [rb9_c] at h0
    rw [if_pos h0]
  · rw [rb9_c] at hb
    rw [hb, if_neg (show ¬ b = 0 by omega), a1]
    have tl : (nI (e9 t b + 1)).toInt = ((e9 t b + 1 : Nat) : Int) := nI_toInt (by omega)
    refine ⟨fun c => w_X11_refuse ?_, fun c => ⟨fun c2 => ⟨?_, ?_⟩, fun c2 => w_X11_refuse ?_⟩⟩
    · rw [Int32.lt_iff_toInt_lt, z0] at c
      rw [if_neg (by omega)]
    · rw [Int32.lt_iff_toInt_lt, z0] at c
      rw [Int32.lt_iff_toInt_lt, tl] at c2
      exact vp_of (a := w.toInt) rfl (by omega) (by omega)
    · rw [Int32.lt_iff_toInt_lt, z0] at c
      rw [Int32.lt_iff_toInt_lt, tl] at c2
      have e3 : Int32.toNatClampNeg w = w.toInt.toNat := rfl
      rw [e3, a2 _ (by omega)]
      refine w_X11_answer ?_
      rw [if_pos (by omega)]
    · rw [Int32.lt_iff_toInt_lt, tl] at c2
      rw [if_neg (by omega)]
theorem mx_reachAt9 {d : Nat} (h : W9 I R) (e : I1 102 = I 102) : AM (d + 6) 292 112 [.ref 97, .int v, .int w] I1 J1 R (fun x _ _ _ _ => x = raX9 I v w) := by
  have b : uI (uI I1 97 1 0) 97 0 0 102 = I 102 := by rw [uI_ne (by decide), uI_ne (by decide)]; exact e
  have hr : BkR (mnN (I 102)) (s9 I) (uI (uI I1 97 1 0) 97 0 0) := by
    unfold BkR
    rw [b]
    exact h.hs.2.1
  have z0 : (0 : Int32).toInt = 0 := rfl
  refine am_X12_reachAt (fun P hc => sg_X12_reachAt_0 hc _ _ _ _ _ (px_mSlQ (fun hd _ => ⟨fun _ => ?_, fun z => absurd z (by decide)⟩) (fun hd _ => ⟨fun z => absurd rfl z, fun _ => w_X12_refuse (if_neg hd).symm⟩)))
  have hd9 : sq9 v := hd
  have e1 : raX9 I v w = if rb9 I (nn9 v) = 0 then -1 else if 0 ≤ w.toInt ∧ w.toInt ≤ (e9 (nn9 v) (rb9 I (nn9 v)) : Int) then nI (lnk9 (nn9 v) (rb9 I (nn9 v)) w.toInt.toNat) else -1 := if_pos hd9
  obtain ⟨t, ev, et, t1, t2⟩ := sq_t9 hd9
  rw [et] at e1
  have ev2 := ev
  rw [ev]
  refine px_from9 t1 t2 hr (fun A a _ => ?_)
  have eb : fb9 (fun k => !decide ((s9 I).1 k ≤ 0)) (e9 t) 30 0 = rb9 I t := rfl
  rw [eb]
  rcases rb9_in (I := I) t2 with q | ⟨q1, q2, q3⟩
  · rw [q]
    refine ⟨fun _ => w_X12_refuse ?_, fun z => absurd (show (-1 : Int32) < 0 by decide) z⟩
    rw [← ev2, e1, if_pos q]
  · rw [show mn9 (rb9 I t) = nI (rb9 I t) from if_neg (by omega)]
    refine ⟨fun c => absurd c (fun y => by have := (nlt_nI (b := 0) (by omega) (by omega)).mp y; omega), fun _ => ⟨vp_nI (by omega) (by omega), ?_⟩⟩
    have ab := a (rb9 I t) (by omega)
    rw [tn_nI (by omega), ab, dv9_y (by omega)]
    generalize rb9 I t = bb at e1 q1 q2 q3 ab
    have tb : (nI (e9 t bb)).toInt = (e9 t bb : Int) := nI_toInt (by omega)
    refine px_isInI (lo := 0) (hi := nI (e9 t bb)) (fun l1 l2 _ => ⟨fun _ => ?_, fun z => absurd z (by decide)⟩) (fun m1 _ => ⟨fun z => absurd rfl z, fun _ => w_X12_refuse ?_⟩)
    · rw [le_i, z0] at l1
      rw [le_i, tb] at l2
      have eW : w = nI w.toInt.toNat := Int32.toInt_inj.mp (by rw [nI_toInt (by omega)]; omega)
      have fin : raX9 I v w = nI (lnk9 t bb w.toInt.toNat) := by rw [e1, if_neg (by omega), if_pos ⟨l1, l2⟩]
      have hW : w.toInt.toNat ≤ e9 t bb := by omega
      generalize w.toInt.toNat = W at eW fin hW
      have L59 : ∀ (g : Nat), g ≤ W → P 59 112 [(0, .ref 97), (2, .int w), (3, .int (nI (lnk9 t bb (W - g)))), (4, .int (nI (W - g)))] [] A J1 R := by
        intro g
        induction g with
        | zero =>
          intro _
          refine sg_X12_reachAt_59 hc _ _ _ _ _ _ ⟨fun _ => fin.symm, fun c => ?_⟩
          rw [eW] at c
          exact absurd ((nle_nI (b := W - 0) (by omega) (by omega)).mpr (by omega)) c
        | succ g ih =>
          intro hg
          obtain ⟨s1, s2, s3⟩ := lnk9_in t2 q1 q2 q3 (W - (g + 1)) (by omega)
          have es : lnk9 t bb (W - g) = nx9 t (lnk9 t bb (W - (g + 1))) := by
            rw [show W - g = W - (g + 1) + 1 by omega]; rfl
          have en : nI (W - (g + 1)) + 1 = nI (W - g) := by rw [nI_k1]; exact congrArg nI (by omega)
          generalize lnk9 t bb (W - (g + 1)) = sl at s1 s2 s3 es
          have e0 : ¬ e9 t sl = 0 := by omega
          have eN : ¬ e9 t sl = 1000 := by omega
          obtain ⟨n1, n2, n3, n4⟩ := e9_nx t2 (by omega) s1 e0 eN
          have asl := a sl (by omega)
          rw [dv9_y (show e9 t sl < 30 by omega)] at asl
          have ts : (nI (e9 t sl) - 1 : Int32).toInt = (e9 t sl : Int) - 1 := ti_sub (nI_toInt (by omega)) (show (1 : Int32).toInt = 1 from rfl) (by omega)
          have L72 : ∀ (f c : Nat), f ≤ 30 → (∀ p, f < p → p ≤ 30 → cm9 sl p = true → e9 t p + 1 = e9 t sl → ¬ c = 0 ∧ c ≤ p) → (¬ c = 0 → f < c ∧ c ≤ 30 ∧ cm9 sl c = true ∧ e9 t c + 1 = e9 t sl) → P 72 112 [(0, .ref 97), (2, .int w), (3, .int (nI sl)), (4, .int (nI (W - (g + 1)))), (5, .int (mn9 c)), (6, .int (nI f))] [] A J1 R := by
            intro f
            induction f with
            | zero =>
              intro c _ k1 k2
              obtain ⟨c0, cl⟩ := k1 (nx9 t sl) (by omega) (by omega) n3 n4
              obtain ⟨-, c2, c3, c4⟩ := k2 c0
              have le := e9_mn (s := sl) t2 (by omega) (by omega) c2 c3 c4 eN
              have ec : c = nx9 t sl := by omega
              refine sg_X12_reachAt_72 hc _ _ _ _ _ _ _ _ ⟨fun _ => ?_, fun z => absurd ((nlt_nI (a := 0) (b := 1) (by omega) (by omega)).mpr (by omega)) z⟩
              rw [en, show mn9 c = nI c from if_neg c0, ec, ← es]
              exact ih (by omega)
            | succ f ihf =>
              intro c hf k1 k2
              have ef : nI (f + 1) + (-1) = nI f := nI_m1 (Nat.le_trans hf (by decide))
              have no : ¬ (cm9 sl (f + 1) = true ∧ e9 t (f + 1) + 1 = e9 t sl) → P 72 112 [(0, .ref 97), (2, .int w), (3, .int (nI sl)), (4, .int (nI (W - (g + 1)))), (5, .int (mn9 c)), (6, .int (nI f))] [] A J1 R := fun z =>
                ihf c (by omega) (fun p a1 a2 a3 a4 => by
                  by_cases y : p = f + 1
                  · subst y; exact absurd ⟨a3, a4⟩ z
                  · exact k1 p (by omega) a2 a3 a4) (fun c0 => ⟨by have := (k2 c0).1; omega, (k2 c0).2⟩)
              have tp : A 108 (f + 1) = nI (e9 t sl) - 1 ↔ e9 t (f + 1) + 1 = e9 t sl := by
                rw [a (f + 1) (by omega), ← Int32.toInt_inj, ts]
                rcases e9_b (t := t) (s := f + 1) t2 (by omega) with y | y
                · rw [y, dv9_n (by omega), n1_neg]; omega
                · rw [dv9_y (by omega), nI_toInt (by omega)]; omega
              refine sg_X12_reachAt_72 hc _ _ _ _ _ _ _ _ ⟨fun z => absurd ((nlt_nI (b := 1) (by omega) (by omega)).mp z) (by omega), fun _ => ⟨vp_nI (by omega) (by omega), vp_nI (by omega) (by omega), ?_⟩⟩
              rw [tn_nI (by omega), tn_nI (by omega), asl, ef]
              refine ⟨fun z => no (fun y => z (tp.mpr y.2)), fun z => px_comR (a := sl) (b := f + 1) s1 (by omega) (by omega) (by omega) (fun hy _ => ⟨fun y => absurd y (by decide), fun _ => ?_⟩) (fun hy _ => ⟨fun _ => no (fun y => by rw [hy] at y; exact absurd y.1 (by decide)), fun y => absurd rfl y⟩)⟩
              have k := ihf (f + 1) (by omega) (fun p a1 a2 a3 a4 => ⟨by omega, by omega⟩) (fun _ => ⟨by omega, by omega, hy, tp.mp z⟩)
              rw [show mn9 (f + 1) = nI (f + 1) from if_neg (by omega)] at k
              exact k
          refine sg_X12_reachAt_59 hc _ _ _ _ _ _ ⟨fun c => ?_, fun _ => ?_⟩
          · rw [eW] at c
            exact absurd ((nle_nI (by omega) (by omega)).mp c) (by omega)
          · exact L72 30 0 (by decide) (fun p a1 a2 _ _ => absurd a2 (by omega)) (fun z => absurd rfl z)
      have k := L59 W (Nat.le_refl _)
      rw [Nat.sub_self] at k
      exact k
    · rw [← ev2, e1, if_neg (by omega), if_neg]
      intro z
      rcases m1 with m1 | m1
      · rw [Int32.lt_iff_toInt_lt, z0] at m1; omega
      · rw [le_i, tb] at m1; omega
end W9C
end PT16x7
section PT16x8
/-! printed by rd.py: the Reader's constructor, all steps but those with the text -/
noncomputable def kRd : List En := [
  (0, .aload_n 0, 1, [], [], 0),
  (1, .invokespecial 3, 3, [3], [], 0),
  (4, .aload_n 0, 1, [], [], 0),
  (5, .sipush 900, 3, [], [900], 0),
  (8, .newarray .byte, 2, [2], [], 0),
  (10, .putfield 9, 3, [6, 0, 4, 1], [], 0),
  (13, .aload_n 0, 1, [], [], 0),
  (14, .iconst 0, 1, [], [0], 0),
  (15, .putfield 15, 3, [6, 1, 0, 0], [], 0),
  (18, .aload_n 0, 1, [], [], 0),
  (19, .bipush 22, 2, [], [22], 0),
  (21, .newarray .long, 2, [1], [], 0),
  (23, .putfield 19, 3, [6, 2, 4, 2], [], 0),
  (26, .aload_n 0, 1, [], [], 0),
  (27, .iconst 0, 1, [], [0], 0),
  (28, .putfield 23, 3, [6, 3, 1, 0], [], 0),
  (31, .aload_n 0, 1, [], [], 0),
  (32, .iconst 0, 1, [], [0], 0),
  (33, .putfield 27, 3, [6, 4, 0, 0], [], 0),
  (36, .aload_n 0, 1, [], [], 0),
  (37, .iconst 0, 1, [], [0], 0),
  (38, .putfield 30, 3, [6, 5, 0, 0], [], 0),
  (41, .aload_n 0, 1, [], [], 0),
  (42, .iconst 0, 1, [], [0], 0),
  (43, .putfield 33, 3, [6, 6, 0, 0], [], 0),
  (46, .aload_n 0, 1, [], [], 0),
  (47, .iconst 0, 1, [], [0], 0),
  (48, .putfield 36, 3, [6, 7, 0, 0], [], 0),
  (51, .aload_n 0, 1, [], [], 0),
  (52, .iconst 0, 1, [], [0], 0),
  (53, .putfield 39, 3, [6, 8, 0, 0], [], 0),
  (56, .aload_n 0, 1, [], [], 0),
  (57, .iconst (-1), 1, [], [(-1)], 0),
  (58, .putfield 42, 3, [6, 9, 0, 0], [], 0),
  (61, .aload_n 0, 1, [], [], 0),
  (62, .lconst 0, 1, [], [], 0),
  (63, .putfield 45, 3, [6, 10, 2, 0], [], 0),
  (66, .aload_n 0, 1, [], [], 0),
  (67, .iconst 0, 1, [], [0], 0),
  (68, .putfield 49, 3, [6, 11, 0, 0], [], 0),
  (71, .aload_n 0, 1, [], [], 0),
  (72, .iconst 0, 1, [], [0], 0),
  (73, .putfield 52, 3, [6, 12, 0, 0], [], 0),
  (76, .aload_n 0, 1, [], [], 0),
  (77, .iconst (-1), 1, [], [(-1)], 0),
  (78, .putfield 55, 3, [6, 13, 0, 0], [], 0),
  (81, .iconst 1, 1, [], [1], 0),
  (82, .istore_n 1, 1, [], [], 0),
  (83, .iconst 0, 1, [], [0], 0),
  (84, .istore_n 2, 1, [], [], 0),
  (85, .iload_n 2, 1, [], [], 0),
  (91, .if_icmp .ge 58, 3, [149], [], 0),
  (96, .iload_n 2, 1, [], [], 0),
  (100, .istore_n 3, 1, [], [], 0),
  (101, .iload_n 3, 1, [], [], 0),
  (102, .bipush 32, 2, [], [32], 0),
  (104, .if_icmp .ne 9, 3, [113], [], 0),
  (107, .iinc 1 1, 3, [], [1], 0),
  (110, .goto 33, 3, [143], [], 0),
  (113, .iload_n 1, 1, [], [], 0),
  (114, .bipush 21, 2, [], [21], 0),
  (116, .if_icmp .gt 27, 3, [143], [], 0),
  (119, .aload_n 0, 1, [], [], 0),
  (120, .getfield 19, 3, [6, 2, 4, 2], [], 0),
  (123, .iload_n 1, 1, [], [], 0),
  (124, .aload_n 0, 1, [], [], 0),
  (125, .getfield 19, 3, [6, 2, 4, 2], [], 0),
  (128, .iload_n 1, 1, [], [], 0),
  (129, .laload, 1, [], [], 0),
  (130, .ldc2_w 70, 3, [], [], 32),
  (133, .lmul, 1, [], [], 0),
  (134, .iload_n 3, 1, [], [], 0),
  (135, .bipush 97, 2, [], [97], 0),
  (137, .isub, 1, [], [], 0),
  (138, .iconst 1, 1, [], [1], 0),
  (139, .iadd, 1, [], [], 0),
  (140, .i2l, 1, [], [], 0),
  (141, .ladd, 1, [], [], 0),
  (142, .lastore, 1, [], [], 0),
  (143, .iinc 2 1, 3, [], [1], 0),
  (146, .goto (-61), 3, [85], [], 0),
  (149, .return_, 1, [], [], 0)]
set_option maxRecDepth 100000 in
theorem rd_okE : ∀ e ∈ kRd, okE RX6 cX6_init 4 1 e = true := List.all_eq_true.mp (by decide +kernel)
set_option maxRecDepth 100000 in
theorem rd_need : ∀ e ∈ kRd, ∀ w ∈ needE RX6 e, w ∈ wsG := need_ok [157, 148, 260, 208, 209, 261, 211, 212, 214, 215, 216, 217, 218, 221, 224, 225, 226, 229, 211, 211, 207] (by decide +kernel) (by decide +kernel)
set_option maxRecDepth 100000 in
theorem wj_cs : Cond.fieldLink RJ0 38 "java/lang/String" "COMPACT_STRINGS" "Z" ∈ wsG := tb_mem 167 rfl rfl
set_option maxRecDepth 100000 in
theorem wj_co : Cond.fieldLink RJ0 15 "java/lang/String" "coder" "B" ∈ wsG := tb_mem 2052 rfl rfl
set_option maxRecDepth 100000 in
theorem wj_va : Cond.fieldLink RJ0 9 "java/lang/String" "value" "[B" ∈ wsG := tb_mem 2051 rfl rfl
set_option maxRecDepth 100000 in
theorem wj_fm : Cond.fieldLink RJ0 1053 "jdk/internal/util/Preconditions" "SIOOBE_FORMATTER" "Ljava/util/function/BiFunction;" ∈ wsG := tb_mem 183 rfl rfl
set_option maxRecDepth 100000 in
theorem wv_coder : ∀ w ∈ ([.methodLink RJ0 335 yJ0_coder_7d493, .instanceMethod yJ0_coder_7d493, .selects RJ0 yJ0_coder_7d493 yJ0_coder_7d493, .initialized RJ0] : List Cond), w ∈ wsG := tb_list [163, 164, 165, 123] (by decide +kernel) (by decide +kernel)
set_option maxRecDepth 100000 in
theorem wv_isLatin1 : ∀ w ∈ ([.methodLink RJ0 492 yJ0_isLatin1_aae02, .instanceMethod yJ0_isLatin1_aae02, .selects RJ0 yJ0_isLatin1_aae02 yJ0_isLatin1_aae02, .initialized RJ0] : List Cond), w ∈ wsG := tb_list [173, 174, 175, 123] (by decide +kernel) (by decide +kernel)
set_option maxRecDepth 100000 in
theorem wv_length : ∀ w ∈ ([.methodLink RX6 60 yJ0_length_8abf5, .instanceMethod yJ0_length_8abf5, .selects RJ0 yJ0_length_8abf5 yJ0_length_8abf5, .initialized RJ0] : List Cond), w ∈ wsG := tb_list [159, 160, 161, 123] (by decide +kernel) (by decide +kernel)
set_option maxRecDepth 100000 in
theorem wv_charAt : ∀ w ∈ ([.methodLink RX6 66 yJ0_charAt_5068e, .instanceMethod yJ0_charAt_5068e, .selects RJ0 yJ0_charAt_5068e yJ0_charAt_5068e, .initialized RJ0] : List Cond), w ∈ wsG := tb_list [169, 170, 171, 123] (by decide +kernel) (by decide +kernel)
set_option maxRecDepth 100000 in
theorem ws_c1 : ∀ w ∈ ([.methodLink RJ0 495 yJ1_charAt_3b067, .static yJ1_charAt_3b067, .initialized RJ1] : List Cond), w ∈ wsG := tb_list [177, 178, 124] (by decide +kernel) (by decide +kernel)
set_option maxRecDepth 100000 in
theorem ws_ci : ∀ w ∈ ([.methodLink RJ1 9 yJ0_checkIndex_df160, .static yJ0_checkIndex_df160, .initialized RJ0] : List Cond), w ∈ wsG := tb_list [180, 181, 123] (by decide +kernel) (by decide +kernel)
set_option maxRecDepth 100000 in
theorem ws_pre : ∀ w ∈ ([.methodLink RJ0 1059 yJ3_checkIndex_8e157, .static yJ3_checkIndex_8e157, .initialized RJ3] : List Cond), w ∈ wsG := tb_list [185, 186, 125] (by decide +kernel) (by decide +kernel)
noncomputable abbrev kc_coder : Cond := .code yJ0_coder_7d493 cJ0_coder_7d493 1 (some .byte)
set_option maxRecDepth 100000 in
theorem wc_coder : kc_coder ∈ wsG := tb_mem 166 rfl rfl
theorem dJ0_coder_7d493_0 : decode cJ0_coder_7d493 0 = .ok (.getstatic 38, 3) := by decide +kernel
theorem dJ0_coder_7d493_3 : decode cJ0_coder_7d493 3 = .ok (.ifCond .eq 10, 3) := by decide +kernel
theorem dJ0_coder_7d493_6 : decode cJ0_coder_7d493 6 = .ok (.aload_n 0, 1) := by decide +kernel
theorem dJ0_coder_7d493_7 : decode cJ0_coder_7d493 7 = .ok (.getfield 15, 3) := by decide +kernel
theorem dJ0_coder_7d493_10 : decode cJ0_coder_7d493 10 = .ok (.goto 4, 3) := by decide +kernel
theorem dJ0_coder_7d493_14 : decode cJ0_coder_7d493 14 = .ok (.ireturn, 1) := by decide +kernel
noncomputable abbrev kc_length : Cond := .code yJ0_length_8abf5 cJ0_length_8abf5 1 (some .int)
set_option maxRecDepth 100000 in
theorem wc_length : kc_length ∈ wsG := tb_mem 162 rfl rfl
theorem dJ0_length_8abf5_0 : decode cJ0_length_8abf5 0 = .ok (.aload_n 0, 1) := by decide +kernel
theorem dJ0_length_8abf5_1 : decode cJ0_length_8abf5 1 = .ok (.getfield 9, 3) := by decide +kernel
theorem dJ0_length_8abf5_4 : decode cJ0_length_8abf5 4 = .ok (.arraylength, 1) := by decide +kernel
theorem dJ0_length_8abf5_5 : decode cJ0_length_8abf5 5 = .ok (.aload_n 0, 1) := by decide +kernel
theorem dJ0_length_8abf5_6 : decode cJ0_length_8abf5 6 = .ok (.invokevirtual 335, 3) := by decide +kernel
theorem dJ0_length_8abf5_9 : decode cJ0_length_8abf5 9 = .ok (.ishr, 1) := by decide +kernel
theorem dJ0_length_8abf5_10 : decode cJ0_length_8abf5 10 = .ok (.ireturn, 1) := by decide +kernel
noncomputable abbrev kc_isLatin1 : Cond := .code yJ0_isLatin1_aae02 cJ0_isLatin1_aae02 1 (some .boolean)
set_option maxRecDepth 100000 in
theorem wc_isLatin1 : kc_isLatin1 ∈ wsG := tb_mem 176 rfl rfl
theorem dJ0_isLatin1_aae02_0 : decode cJ0_isLatin1_aae02 0 = .ok (.getstatic 38, 3) := by decide +kernel
theorem dJ0_isLatin1_aae02_3 : decode cJ0_isLatin1_aae02 3 = .ok (.ifCond .eq 14, 3) := by decide +kernel
theorem dJ0_isLatin1_aae02_6 : decode cJ0_isLatin1_aae02 6 = .ok (.aload_n 0, 1) := by decide +kernel
theorem dJ0_isLatin1_aae02_7 : decode cJ0_isLatin1_aae02 7 = .ok (.getfield 15, 3) := by decide +kernel
theorem dJ0_isLatin1_aae02_10 : decode cJ0_isLatin1_aae02 10 = .ok (.ifCond .ne 7, 3) := by decide +kernel
theorem dJ0_isLatin1_aae02_13 : decode cJ0_isLatin1_aae02 13 = .ok (.iconst 1, 1) := by decide +kernel
theorem dJ0_isLatin1_aae02_14 : decode cJ0_isLatin1_aae02 14 = .ok (.goto 4, 3) := by decide +kernel
theorem dJ0_isLatin1_aae02_18 : decode cJ0_isLatin1_aae02 18 = .ok (.ireturn, 1) := by decide +kernel
noncomputable abbrev kc_ci : Cond := .code yJ0_checkIndex_df160 cJ0_checkIndex_df160 2 none
set_option maxRecDepth 100000 in
theorem wc_ci : kc_ci ∈ wsG := tb_mem 182 rfl rfl
theorem dJ0_checkIndex_df160_0 : decode cJ0_checkIndex_df160 0 = .ok (.iload_n 0, 1) := by decide +kernel
theorem dJ0_checkIndex_df160_1 : decode cJ0_checkIndex_df160 1 = .ok (.iload_n 1, 1) := by decide +kernel
theorem dJ0_checkIndex_df160_2 : decode cJ0_checkIndex_df160 2 = .ok (.getstatic 1053, 3) := by decide +kernel
theorem dJ0_checkIndex_df160_5 : decode cJ0_checkIndex_df160 5 = .ok (.invokestatic 1059, 3) := by decide +kernel
theorem dJ0_checkIndex_df160_8 : decode cJ0_checkIndex_df160 8 = .ok (.pop, 1) := by decide +kernel
theorem dJ0_checkIndex_df160_9 : decode cJ0_checkIndex_df160 9 = .ok (.return_, 1) := by decide +kernel
noncomputable abbrev kc_c1 : Cond := .code yJ1_charAt_3b067 cJ1_charAt_3b067 2 (some .char)
set_option maxRecDepth 100000 in
theorem wc_c1 : kc_c1 ∈ wsG := tb_mem 179 rfl rfl
theorem dJ1_charAt_3b067_0 : decode cJ1_charAt_3b067 0 = .ok (.iload_n 1, 1) := by decide +kernel
theorem dJ1_charAt_3b067_1 : decode cJ1_charAt_3b067 1 = .ok (.aload_n 0, 1) := by decide +kernel
theorem dJ1_charAt_3b067_2 : decode cJ1_charAt_3b067 2 = .ok (.arraylength, 1) := by decide +kernel
theorem dJ1_charAt_3b067_3 : decode cJ1_charAt_3b067 3 = .ok (.invokestatic 9, 3) := by decide +kernel
theorem dJ1_charAt_3b067_6 : decode cJ1_charAt_3b067 6 = .ok (.aload_n 0, 1) := by decide +kernel
theorem dJ1_charAt_3b067_7 : decode cJ1_charAt_3b067 7 = .ok (.iload_n 1, 1) := by decide +kernel
theorem dJ1_charAt_3b067_8 : decode cJ1_charAt_3b067 8 = .ok (.baload, 1) := by decide +kernel
theorem dJ1_charAt_3b067_9 : decode cJ1_charAt_3b067 9 = .ok (.sipush 255, 3) := by decide +kernel
theorem dJ1_charAt_3b067_12 : decode cJ1_charAt_3b067 12 = .ok (.iand, 1) := by decide +kernel
theorem dJ1_charAt_3b067_13 : decode cJ1_charAt_3b067 13 = .ok (.i2c, 1) := by decide +kernel
theorem dJ1_charAt_3b067_14 : decode cJ1_charAt_3b067 14 = .ok (.ireturn, 1) := by decide +kernel
noncomputable abbrev kc_charAt : Cond := .code yJ0_charAt_5068e cJ0_charAt_5068e 2 (some .char)
set_option maxRecDepth 100000 in
theorem wc_charAt : kc_charAt ∈ wsG := tb_mem 172 rfl rfl
theorem dJ0_charAt_5068e_0 : decode cJ0_charAt_5068e 0 = .ok (.aload_n 0, 1) := by decide +kernel
theorem dJ0_charAt_5068e_1 : decode cJ0_charAt_5068e 1 = .ok (.invokevirtual 492, 3) := by decide +kernel
theorem dJ0_charAt_5068e_4 : decode cJ0_charAt_5068e 4 = .ok (.ifCond .eq 12, 3) := by decide +kernel
theorem dJ0_charAt_5068e_7 : decode cJ0_charAt_5068e 7 = .ok (.aload_n 0, 1) := by decide +kernel
theorem dJ0_charAt_5068e_8 : decode cJ0_charAt_5068e 8 = .ok (.getfield 9, 3) := by decide +kernel
theorem dJ0_charAt_5068e_11 : decode cJ0_charAt_5068e 11 = .ok (.iload_n 1, 1) := by decide +kernel
theorem dJ0_charAt_5068e_12 : decode cJ0_charAt_5068e 12 = .ok (.invokestatic 495, 3) := by decide +kernel
theorem dJ0_charAt_5068e_15 : decode cJ0_charAt_5068e 15 = .ok (.ireturn, 1) := by decide +kernel
noncomputable abbrev kc_pre : Cond := .code yJ3_checkIndex_8e157 cJ3_checkIndex_8e157 3 (some .int)
set_option maxRecDepth 100000 in
theorem wc_pre : kc_pre ∈ wsG := tb_mem 187 rfl rfl
theorem dJ3_checkIndex_8e157_0 : decode cJ3_checkIndex_8e157 0 = .ok (.iload_n 0, 1) := by decide +kernel
theorem dJ3_checkIndex_8e157_1 : decode cJ3_checkIndex_8e157 1 = .ok (.ifCond .lt 8, 3) := by decide +kernel
theorem dJ3_checkIndex_8e157_4 : decode cJ3_checkIndex_8e157 4 = .ok (.iload_n 0, 1) := by decide +kernel
theorem dJ3_checkIndex_8e157_5 : decode cJ3_checkIndex_8e157 5 = .ok (.iload_n 1, 1) := by decide +kernel
theorem dJ3_checkIndex_8e157_6 : decode cJ3_checkIndex_8e157 6 = .ok (.if_icmp .lt 10, 3) := by decide +kernel
theorem dJ3_checkIndex_8e157_16 : decode cJ3_checkIndex_8e157 16 = .ok (.iload_n 0, 1) := by decide +kernel
theorem dJ3_checkIndex_8e157_17 : decode cJ3_checkIndex_8e157 17 = .ok (.ireturn, 1) := by decide +kernel
noncomputable def rd_tx : String := "odds store times man due by has known cut split give take bake any when even holds lacks loop end stop"
set_option maxRecDepth 100000 in
theorem wt_tx : Cond.stringRef RX6 58 rd_tx ∈ lw_tbl := List.mem_of_getElem? (i := 158) (by decide +kernel)
set_option maxRecDepth 100000 in
theorem wt_cs : Cond.laysStatic "java/lang/String" "COMPACT_STRINGS" "Z" ∈ lw_tbl := List.mem_of_getElem? (i := 168) (by decide +kernel)
set_option maxRecDepth 100000 in
theorem wt_fm : Cond.laysStatic "jdk/internal/util/Preconditions" "SIOOBE_FORMATTER" "Ljava/util/function/BiFunction;" ∈ lw_tbl := List.mem_of_getElem? (i := 184) (by decide +kernel)
set_option maxRecDepth 100000 in
theorem wt_is : Cond.initialized "java/lang/String" ∈ lw_tbl := List.mem_of_getElem? (i := 123) (by decide +kernel)
set_option maxRecDepth 100000 in
theorem wt_ip : Cond.initialized "jdk/internal/util/Preconditions" ∈ lw_tbl := List.mem_of_getElem? (i := 125) (by decide +kernel)
theorem skp_start {p : Program} {s : State} {m : MethodId} {meth : Method} {c : Code} {b L : Nat} {xs : Nat → Int32} (C0 : lw_At p s m meth c b L xs) : SKp s.heap.size s := by
  obtain ⟨hx, hb, hr, hml, hown, hts, hX, hbl, hlocks, hgv⟩ := C0
  have hs := flat_of_before _ hgv
  have hA : ∀ a : Nat, a < s.heap.size → ¬ s.heap.size ≤ a := fun a h => by omega
  have z0 : ∀ i : Nat, i < 1 → i = 0 := fun i h => by omega
  have hel2 : ∀ j, j < 102 → (flatC (Jvm.Cond.and given_1 narrow_1))[52 + j]? = some (Cond.eq (.elem (.field (.string RX6 58) "java/lang/String" "value" "[B") (.int (Int32.ofNat j))) (.int (rd_by.getD j 0))) := by decide +kernel
  have hel : ∀ j, j < 102 → (Cond.eq (.elem (.field (.string RX6 58) "java/lang/String" "value" "[B") (.int (Int32.ofNat j))) (.int (rd_by.getD j 0))) ∈ flatC (Jvm.Cond.and given_1 narrow_1) := fun j hj => List.mem_of_getElem? (hel2 j hj)
  obtain ⟨adK, adV, hS, hE⟩ := vk_Sof (args := #[Value.ref b]) (s := s) (N := 1) (tm := fun _ => .string RX6 58) (len := [102]) (byt := [rd_by]) (A := fun q => s.heap.size ≤ q)
    (fun i hi => by rw [z0 i hi]; decide) (fun i hi => hs _ (by decide +kernel)) (fun i hi => hs _ (by decide +kernel)) (fun i hi => hs _ (by decide +kernel)) (fun i hi => by rw [z0 i hi]; exact hs _ (by decide +kernel))
    (fun i hi j hj => by rw [z0 i hi] at hj ⊢; exact hs _ (hel j hj)) (fun i j hi hj hn => absurd ((z0 i hi).trans (z0 j hj).symm) hn) hA
  refine ⟨rd_tx, adK 0, adV 0, rd_by, rfl, vk_R.of (hts _ wt_tx) (hE 0 (by decide)), ⟨fun i hi => ?_, fun i j hi hj _ => (z0 i hi).trans (z0 j hj).symm⟩, va_Zof (hts _ wt_cs) (hts _ wt_is) (va_eqi (hs _ (by decide +kernel))) hA, va_Zqof (hts _ wt_fm) (hts _ wt_ip) (hs _ (by decide +kernel)) hA⟩
  rw [z0 i hi]
  exact hS.1 0 (by decide)
/-! ===== the JDK's length() and charAt() of the one text ===== -/
noncomputable def nF : Nat → Prop := fun _ => False
noncomputable def SKc (aK aV : Nat) (byt : List Int32) (U : State) : Prop := vk_S 1 [102] [byt] (fun _ => aK) (fun _ => aV) nF U U.heap ∧ va_Z "java/lang/String" "COMPACT_STRINGS" "Z" (.int 1) nF U U.heap ∧ va_Zq "jdk/internal/util/Preconditions" "SIOOBE_FORMATTER" "Ljava/util/function/BiFunction;" nF U U.heap
theorem SKc.next {aK aV : Nat} {byt : List Int32} {s U : State} (hW : s.WarmedH U.vm) (hq : ∀ a : Nat, a < s.heap.size → U.heap[a]? = s.heap[a]?) (h : SKc aK aV byt s) : SKc aK aV byt U :=
  ⟨(vk_S.moved hW.alike h.1).kept (fun a h1 _ => hq a h1), (va_Z.moved hW.alike h.2.1).kept (fun a h1 _ => hq a h1), (va_Zq.moved hW.alike h.2.2).kept (fun a h1 _ => hq a h1)⟩
theorem SKc.blind {aK aV : Nat} {byt : List Int32} {av : List Value} : FrameBlind (va_Pc av (SKc aK aV byt)) := fun a U g mk q => ⟨q.1, SKc.next (s := U) (U := U.calling g mk a) (State.WarmedH.refl U) (fun _ _ => rfl) q.2⟩
noncomputable def wsY (w : Cond) : List Cond := w :: wsG
theorem wsY_in {w0 : Cond} : ∀ w ∈ wsG, w ∈ wsY w0 := fun _ h => List.mem_cons_of_mem _ h
theorem wsY_good {Ts : List Cond} {w0 : Cond} (hG : ∀ w ∈ wsG, w ∈ Ts) (hq : w0 ∈ wsG) : GoodIn Ts (wsY w0) := by
  intro w hw
  rcases List.mem_cons.mp hw with rfl | h
  · exact ⟨hG _ hq, good_of_word (wsG_good hq)⟩
  · exact ⟨hG _ h, good_of_word (wsG_good h)⟩
noncomputable abbrev QJ (P : Int32 → Prop) : Array Value → State → Outcome → State → Prop := va_Qi (fun x (_ : Unit) => P x) (fun _ _ => True) nF
theorem m_coder (l : Launch) {aK aV : Nat} {byt : List Int32} : Met l yJ0_coder_7d493 (wsY kc_coder) (rmD 1 0 0) (va_Pc [.ref aK] (SKc aK aV byt)) (QJ (fun x => x = 0)) 0 0 nF := by
  refine Met.ofW (cc := cJ0_coder_7d493) (maxL := 1) (ret := some .byte) (by decide) rfl ?_
  intro p e s m args below meth c s₁ B hml hv
  obtain ⟨rfl, hv⟩ := hv
  have hx := B.exec
  have hb := B.bytes
  have hr := B.returns
  have hts := atoms_spec (ws := wsY kc_coder) B.pre
  have hG := fun w h => hts w (wsY_in w h)
  have hown : s.vm.findClass RJ0 = some m.cls := findClass_of_methodNamed B.named
  have hlocks := B.notSynchronized
  have hl := lv_entry ([.ref aK]) (n := 1) (Nat.le_of_ble_eq_true rfl)
  rw [lg_entry_eq]
  have hS : va_S nF s.heap s.heap [] := va_S.rf
  have l0 := lv_at hl 0 (i := 0) (v := .ref aK) rfl
  refine va_gets hx hb hv.2.1 hS hown (hG _ wj_cs) (fun _ h => h) dJ0_coder_7d493_0 ?_
  refine lv_if_eq hx hb dJ0_coder_7d493_3 (tgt := 13) (by decide) (fun h => absurd h (by decide)) (fun _ => ?_)
  refine lv_aload_n hx hb dJ0_coder_7d493_6 rfl l0 ?_
  refine vk_getf hx hb (hv.1.1 0 (by decide)).2.1 hS hown (hG _ wj_co) (fun _ h => h) dJ0_coder_7d493_7 ?_
  refine lv_goto hx hb dJ0_coder_7d493_10 (tgt := 14) (by decide) ?_
  exact W.zret (ty := .byte) hx hb hr rfl (fun t ht hW => ⟨⟨0, (), rfl, rfl, trivial⟩, hS.F ht⟩) hS.2.2 dJ0_coder_7d493_14
theorem m_isLatin1 (l : Launch) {aK aV : Nat} {byt : List Int32} : Met l yJ0_isLatin1_aae02 (wsY kc_isLatin1) (rmD 1 0 0) (va_Pc [.ref aK] (SKc aK aV byt)) (QJ (fun x => x = 1)) 0 0 nF := by
  refine Met.ofW (cc := cJ0_isLatin1_aae02) (maxL := 1) (ret := some .boolean) (by decide) rfl ?_
  intro p e s m args below meth c s₁ B hml hv
  obtain ⟨rfl, hv⟩ := hv
  have hx := B.exec
  have hb := B.bytes
  have hr := B.returns
  have hts := atoms_spec (ws := wsY kc_isLatin1) B.pre
  have hG := fun w h => hts w (wsY_in w h)
  have hown : s.vm.findClass RJ0 = some m.cls := findClass_of_methodNamed B.named
  have hlocks := B.notSynchronized
  have hl := lv_entry ([.ref aK]) (n := 1) (Nat.le_of_ble_eq_true rfl)
  rw [lg_entry_eq]
  have hS : va_S nF s.heap s.heap [] := va_S.rf
  have l0 := lv_at hl 0 (i := 0) (v := .ref aK) rfl
  refine va_gets hx hb hv.2.1 hS hown (hG _ wj_cs) (fun _ h => h) dJ0_isLatin1_aae02_0 ?_
  refine lv_if_eq hx hb dJ0_isLatin1_aae02_3 (tgt := 17) (by decide) (fun h => absurd h (by decide)) (fun _ => ?_)
  refine lv_aload_n hx hb dJ0_isLatin1_aae02_6 rfl l0 ?_
  refine vk_getf hx hb (hv.1.1 0 (by decide)).2.1 hS hown (hG _ wj_co) (fun _ h => h) dJ0_isLatin1_aae02_7 ?_
  refine lv_if_ne hx hb dJ0_isLatin1_aae02_10 (tgt := 17) (by decide) (fun h => absurd rfl h) (fun _ => ?_)
  refine lv_iconst hx hb dJ0_isLatin1_aae02_13 (v := 1) (by decide) ?_
  refine lv_goto hx hb dJ0_isLatin1_aae02_14 (tgt := 18) (by decide) ?_
  exact W.zret (ty := .boolean) hx hb hr rfl (fun t ht hW => ⟨⟨1, (), rfl, rfl, trivial⟩, hS.F ht⟩) hS.2.2 dJ0_isLatin1_aae02_18
theorem m_length (l : Launch) {aK aV : Nat} {byt : List Int32} : Met l yJ0_length_8abf5 (wsY kc_length) (rmD 2 0 0) (va_Pc [.ref aK] (SKc aK aV byt)) (QJ (fun x => x = 102)) 0 0 nF := by
  refine Met.ofW (cc := cJ0_length_8abf5) (maxL := 1) (ret := some .int) (by decide) rfl ?_
  intro p e s m args below meth c s₁ B hml hv
  obtain ⟨rfl, hv⟩ := hv
  have hx := B.exec
  have hb := B.bytes
  have hr := B.returns
  have hts := atoms_spec (ws := wsY kc_length) B.pre
  have hG := fun w h => hts w (wsY_in w h)
  have hown : s.vm.findClass RJ0 = some m.cls := findClass_of_methodNamed B.named
  have hlocks := B.notSynchronized
  have hl := lv_entry ([.ref aK]) (n := 1) (Nat.le_of_ble_eq_true rfl)
  rw [lg_entry_eq]
  have hS : va_S nF s.heap s.heap [] := va_S.rf
  have l0 := lv_at hl 0 (i := 0) (v := .ref aK) rfl
  have hT : va_T .byte aV 102 (fun j => .int (byt.getD j 0)) nF s s.heap := (hv.1.1 0 (by decide)).2.2.2
  refine lv_aload_n hx hb dJ0_length_8abf5_0 rfl l0 ?_
  refine vk_getf hx hb (hv.1.1 0 (by decide)).2.2.1 hS hown (hG _ wj_va) (fun _ h => h) dJ0_length_8abf5_1 ?_
  refine va_tlen hx hb hT hS (v := 102) (by decide) dJ0_length_8abf5_4 ?_
  refine lv_aload_n hx hb dJ0_length_8abf5_5 rfl l0 ?_
  refine va_calli (va_runV (As := []) (b := aK) (rest := [.int 102]) ⟨hx, hb, hml, hown, hts⟩ (m_coder l (aK := aK) (aV := aV) (byt := byt))
    (cwV 0 hts (by unfold wsV; exact good_app (good_list wsY_in wv_coder) (wsY_good wsY_in wc_coder)) rfl rfl rfl ⟨rfl, by decide +kernel⟩ ⟨by decide, by decide⟩)
    ⟨SKc.blind, vk_recv (i := 0) hv.1 (by decide) hS, fun U hU hW => ⟨rfl, SKc.next hW (fun a _ => by rw [hU]) hv⟩⟩ rfl rfl hl.1 rfl (Nat.le_of_ble_eq_true rfl) dJ0_length_8abf5_6 ⟨Nat.le_refl _, Nat.le_refl _⟩) hS (fun _ _ h => h) (fun _ h => h) (fun x u t H1 locs1 ht hal hp hB hz hk hS1 => ?_)
  subst hp
  refine lv_ishr hx hb dJ0_length_8abf5_9 ?_
  exact W.iret hx hb hr (fun t ht hW => ⟨⟨102, (), rfl, rfl, trivial⟩, hS1.F ht⟩) hS1.2.2 dJ0_length_8abf5_10
theorem m_pre (l : Launch) {i : Int32} {v : Value} (h0 : ¬ i < 0) (h1 : i < 102) (hv0 : v = .null ∨ ∃ t, v = .ref t) : Met l yJ3_checkIndex_8e157 (wsY kc_pre) (rmD 1 0 0) (va_Pc [.int i, .int 102, v] (fun _ => True)) (QJ (fun _ => True)) 0 0 nF := by
  refine Met.ofW (cc := cJ3_checkIndex_8e157) (maxL := 3) (ret := some .int) (by decide) rfl ?_
  intro p e s m args below meth c s₁ B hml hv
  obtain ⟨rfl, hv⟩ := hv
  have hx := B.exec
  have hb := B.bytes
  have hr := B.returns
  have hlocks := B.notSynchronized
  have hl := lv_entry ([.int i, .int 102, v]) (n := 3) (by rcases hv0 with rfl | ⟨t, rfl⟩ <;> exact Nat.le_of_ble_eq_true rfl)
  rw [lg_entry_eq]
  have hS : va_S nF s.heap s.heap [] := va_S.rf
  have l0 := lv_at hl 0 (i := 0) (v := .int i) rfl
  have l1 := lv_at hl 1 (i := 1) (v := .int 102) rfl
  refine lv_iload_n hx hb dJ3_checkIndex_8e157_0 rfl l0 ?_
  refine lv_if_lt hx hb dJ3_checkIndex_8e157_1 (tgt := 9) (by decide) (fun h => absurd h h0) (fun _ => ?_)
  refine lv_iload_n hx hb dJ3_checkIndex_8e157_4 rfl l0 ?_
  refine lv_iload_n hx hb dJ3_checkIndex_8e157_5 rfl l1 ?_
  refine lv_icmp_lt hx hb dJ3_checkIndex_8e157_6 (tgt := 16) (by decide) (fun _ => ?_) (fun h => absurd h1 h)
  refine lv_iload_n hx hb dJ3_checkIndex_8e157_16 rfl l0 ?_
  exact W.iret hx hb hr (fun t ht hW => ⟨⟨i, (), rfl, trivial, trivial⟩, hS.F ht⟩) hS.2.2 dJ3_checkIndex_8e157_17
theorem m_ci (l : Launch) {aK aV : Nat} {byt : List Int32} {i : Int32} (h0 : ¬ i < 0) (h1 : i < 102) : Met l yJ0_checkIndex_df160 (wsY kc_ci) (rmD 2 0 0) (va_Pc [.int i, .int 102] (SKc aK aV byt)) (va_Qv (fun (_ : Unit) => True) (fun _ _ => True) nF) 0 0 nF := by
  refine Met.ofW (cc := cJ0_checkIndex_df160) (maxL := 2) (ret := none) (by decide) rfl ?_
  intro p e s m args below meth c s₁ B hml hv
  obtain ⟨rfl, hv⟩ := hv
  have hx := B.exec
  have hb := B.bytes
  have hr := B.returns
  have hts := atoms_spec (ws := wsY kc_ci) B.pre
  have hG := fun w h => hts w (wsY_in w h)
  have hown : s.vm.findClass RJ0 = some m.cls := findClass_of_methodNamed B.named
  have hlocks := B.notSynchronized
  have hl := lv_entry ([.int i, .int 102]) (n := 2) (Nat.le_of_ble_eq_true rfl)
  rw [lg_entry_eq]
  have hS : va_S nF s.heap s.heap [] := va_S.rf
  have l0 := lv_at hl 0 (i := 0) (v := .int i) rfl
  have l1 := lv_at hl 1 (i := 1) (v := .int 102) rfl
  refine lv_iload_n hx hb dJ0_checkIndex_df160_0 rfl l0 ?_
  refine lv_iload_n hx hb dJ0_checkIndex_df160_1 rfl l1 ?_
  have key : ∀ v : Value, (v = .null ∨ ∃ t, v = .ref t) → va_Z "jdk/internal/util/Preconditions" "SIOOBE_FORMATTER" "Ljava/util/function/BiFunction;" v nF s s.heap → W p l e (rmD 2 0 0) s m ([.int i, .int 102] : List Value).toArray below meth c s.heap [] 0 0 (MQ below (va_Qv (fun (_ : Unit) => True) (fun _ _ => True) nF) ([.int i, .int 102] : List Value).toArray s 0 0 nF) (F0 m 2 ((lg_sl ([.int i, .int 102] : List Value) ++ List.replicate (2 - (lg_sl ([.int i, .int 102] : List Value)).length) Slot.unset).toArray) [.int 102, .int i]) := by
    intro v hv0 hZ
    refine va_gets hx hb hZ hS hown (hG _ wj_fm) (fun _ h => h) dJ0_checkIndex_df160_2 ?_
    refine va_calli (va_runS (As := [.int i, .int 102, v]) (rest := []) ⟨hx, hb, hml, hown, hts⟩ (m_pre l h0 h1 hv0)
      (va_cwS 3 hts (by unfold va_wsS; exact good_app (good_list wsY_in ws_pre) (wsY_good wsY_in wc_pre)) rfl rfl rfl (by decide +kernel) ⟨by decide, by decide⟩)
      ⟨fun a U g mk q => q, fun U hU hW => ⟨rfl, trivial⟩⟩ rfl rfl hl.1 rfl (Nat.le_of_ble_eq_true rfl) dJ0_checkIndex_df160_5 ⟨Nat.le_refl _, Nat.le_refl _⟩) hS (fun _ _ h => h) (fun _ h => h) (fun x u t H1 locs1 ht hal hp hB hz hk hS1 => ?_)
    refine lv_pop hx hb dJ0_checkIndex_df160_8 rfl ?_
    exact W.vret hx hb hr (fun t ht hW => ⟨⟨(), rfl, trivial, trivial⟩, hS1.F ht⟩) hS1.2.2 dJ0_checkIndex_df160_9
  rcases hv.2.2 with hZ | ⟨t, hZ⟩
  · exact key .null (Or.inl rfl) hZ
  · exact key (.ref t) (Or.inr ⟨t, rfl⟩) hZ
theorem m_c1 (l : Launch) {aK aV : Nat} {byt : List Int32} {i : Int32} (h0 : ¬ i < 0) (h1 : i < 102) : Met l yJ1_charAt_3b067 (wsY kc_c1) (rmD 3 0 0) (va_Pc [.ref aV, .int i] (SKc aK aV byt)) (QJ (fun x => x = byt.getD i.toNatClampNeg 0 &&& 255)) 0 0 nF := by
  refine Met.ofW (cc := cJ1_charAt_3b067) (maxL := 2) (ret := some .char) (by decide) rfl ?_
  intro p e s m args below meth c s₁ B hml hv
  obtain ⟨rfl, hv⟩ := hv
  have hx := B.exec
  have hb := B.bytes
  have hr := B.returns
  have hts := atoms_spec (ws := wsY kc_c1) B.pre
  have hown : s.vm.findClass RJ1 = some m.cls := findClass_of_methodNamed B.named
  have hlocks := B.notSynchronized
  have hl := lv_entry ([.ref aV, .int i]) (n := 2) (Nat.le_of_ble_eq_true rfl)
  rw [lg_entry_eq]
  have hS : va_S nF s.heap s.heap [] := va_S.rf
  have l0 := lv_at hl 0 (i := 0) (v := .ref aV) rfl
  have l1 := lv_at hl 1 (i := 1) (v := .int i) rfl
  have hT : va_T .byte aV 102 (fun j => .int (byt.getD j 0)) nF s s.heap := (hv.1.1 0 (by decide)).2.2.2
  refine lv_iload_n hx hb dJ1_charAt_3b067_0 rfl l1 ?_
  refine lv_aload_n hx hb dJ1_charAt_3b067_1 rfl l0 ?_
  refine va_tlen hx hb hT hS (v := 102) (by decide) dJ1_charAt_3b067_2 ?_
  refine va_callv (va_runS (As := [.int i, .int 102]) (rest := []) ⟨hx, hb, hml, hown, hts⟩ (m_ci l (aK := aK) (aV := aV) (byt := byt) h0 h1)
    (va_cwS 2 hts (by unfold va_wsS; exact good_app (good_list wsY_in ws_ci) (wsY_good wsY_in wc_ci)) rfl rfl rfl (by decide +kernel) ⟨by decide, by decide⟩)
    ⟨SKc.blind, fun U hU hW => ⟨rfl, SKc.next hW (fun a _ => by rw [hU]) hv⟩⟩ rfl rfl hl.1 rfl (Nat.le_of_ble_eq_true rfl) dJ1_charAt_3b067_3 ⟨Nat.le_refl _, Nat.le_refl _⟩) hS (fun _ _ h => h) (fun _ h => h) (fun u t H1 locs1 ht hal hp hB hz hk hS1 => ?_)
  refine lv_aload_n hx hb dJ1_charAt_3b067_6 rfl l0 ?_
  refine lv_iload_n hx hb dJ1_charAt_3b067_7 rfl l1 ?_
  have hin : vp_in i 102 := by
    have e1 : ¬ i.toInt < 0 := fun z => h0 (Int32.lt_iff_toInt_lt.mpr z)
    have e2 : i.toInt < 102 := Int32.lt_iff_toInt_lt.mp h1
    exact vp_in_iff.mpr ⟨by omega, by omega⟩
  refine va_tb hx hb hT hS1 hin rfl dJ1_charAt_3b067_8 ?_
  refine lv_sipush hx hb dJ1_charAt_3b067_9 (v := 255) (by decide) ?_
  refine lv_iand hx hb dJ1_charAt_3b067_12 ?_
  refine lv_i2c hx hb dJ1_charAt_3b067_13 (sc_c2 _) ?_
  exact W.zret (ty := .char) hx hb hr (sc_nar _) (fun t ht hW => ⟨⟨_, (), rfl, rfl, trivial⟩, hS1.F ht⟩) hS1.2.2 dJ1_charAt_3b067_14
theorem m_charAt (l : Launch) {aK aV : Nat} {byt : List Int32} {i : Int32} (h0 : ¬ i < 0) (h1 : i < 102) : Met l yJ0_charAt_5068e (wsY kc_charAt) (rmD 4 0 0) (va_Pc [.ref aK, .int i] (SKc aK aV byt)) (QJ (fun x => x = byt.getD i.toNatClampNeg 0 &&& 255)) 0 0 nF := by
  refine Met.ofW (cc := cJ0_charAt_5068e) (maxL := 2) (ret := some .char) (by decide) rfl ?_
  intro p e s m args below meth c s₁ B hml hv
  obtain ⟨rfl, hv⟩ := hv
  have hx := B.exec
  have hb := B.bytes
  have hr := B.returns
  have hts := atoms_spec (ws := wsY kc_charAt) B.pre
  have hG := fun w h => hts w (wsY_in w h)
  have hown : s.vm.findClass RJ0 = some m.cls := findClass_of_methodNamed B.named
  have hlocks := B.notSynchronized
  have hl := lv_entry ([.ref aK, .int i]) (n := 2) (Nat.le_of_ble_eq_true rfl)
  rw [lg_entry_eq]
  have hS : va_S nF s.heap s.heap [] := va_S.rf
  have l0 := lv_at hl 0 (i := 0) (v := .ref aK) rfl
  have l1 := lv_at hl 1 (i := 1) (v := .int i) rfl
  refine lv_aload_n hx hb dJ0_charAt_5068e_0 rfl l0 ?_
  refine va_calli (va_runV (As := []) (b := aK) (rest := []) ⟨hx, hb, hml, hown, hts⟩ (m_isLatin1 l (aK := aK) (aV := aV) (byt := byt))
    (cwV 0 hts (by unfold wsV; exact good_app (good_list wsY_in wv_isLatin1) (wsY_good wsY_in wc_isLatin1)) rfl rfl rfl ⟨rfl, by decide +kernel⟩ ⟨by decide, by decide⟩)
    ⟨SKc.blind, vk_recv (i := 0) hv.1 (by decide) hS, fun U hU hW => ⟨rfl, SKc.next hW (fun a _ => by rw [hU]) hv⟩⟩ rfl rfl hl.1 rfl (Nat.le_of_ble_eq_true rfl) dJ0_charAt_5068e_1 ⟨Nat.le_refl _, Nat.le_refl _⟩) hS (fun _ _ h => h) (fun _ h => h) (fun x u t H1 locs1 ht hal hp hB hz hk hS1 => ?_)
  subst hp
  refine lv_if_eq hx hb dJ0_charAt_5068e_4 (tgt := 16) (by decide) (fun h => absurd h (by decide)) (fun _ => ?_)
  refine lv_aload_n hx hb dJ0_charAt_5068e_7 rfl l0 ?_
  refine vk_getf hx hb (hv.1.1 0 (by decide)).2.2.1 hS1 hown (hG _ wj_va) (fun _ h => h) dJ0_charAt_5068e_8 ?_
  refine lv_iload_n hx hb dJ0_charAt_5068e_11 rfl l1 ?_
  refine va_calli (va_runS (As := [.ref aV, .int i]) (rest := []) ⟨hx, hb, hml, hown, hts⟩ (m_c1 l (aK := aK) (aV := aV) (byt := byt) h0 h1)
    (va_cwS 2 hts (by unfold va_wsS; exact good_app (good_list wsY_in ws_c1) (wsY_good wsY_in wc_c1)) rfl rfl rfl (by decide +kernel) ⟨by decide, by decide⟩)
    ⟨SKc.blind, fun U hU hW => ⟨rfl, SKc.next hW (fun a ha => by rw [hU]; exact hk a ha (fun z => z)) hv⟩⟩ rfl rfl hl.1 rfl (Nat.le_of_ble_eq_true rfl) dJ0_charAt_5068e_12 ⟨Nat.le_refl _, Nat.le_refl _⟩) hS1 (fun _ _ h => h) (fun _ h => h) (fun x u t H2 locs2 ht2 hal2 hp2 hB2 hz2 hk2 hS2 => ?_)
  exact W.zret (ty := .char) hx hb hr (by rw [hp2]; exact sc_nar _) (fun t ht hW => ⟨⟨x, (), rfl, hp2, trivial⟩, hS2.F ht⟩) hS2.2.2 dJ0_charAt_5068e_15
end PT16x8
section PT16x9
/-! ===== the plate: the scribe's table ===== -/
/-! ===== and the reference's ===== -/
noncomputable def rc (f : Nat → Int32) (n : Nat) (N : Im) (M k : Nat) : Prop := M.testBit k = false ∧ smN f n (M ||| 2 ^ k) ≤ 2329089562800 ∧ (N 110 (M ||| 2 ^ k)).toInt < 0
end PT16x9
