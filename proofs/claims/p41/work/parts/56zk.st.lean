section PT16x0
/-! ===== mean() for the relation of stores ===== -/
section W9N
variable {I I1 I2 : Im} {J J1 J2 : Jm} {R : Rm} {v1 v2 x : Int32} {Q : Qt}
/-- all but what is at e -/
noncomputable def KS99 (e : Nat) (I I2 : Im) : Prop := (∀ a, badW9 a = true → ¬ (e ≤ a ∧ a ≤ e + 5) → I2 a = I a) ∧ (∀ c, c ∈ BKL → ¬ c = e → I2 c 1 = I c 1 ∧ I2 c 3 = I c 3) ∧ ∀ c, c ∈ BP9 → I2 c = I c
theorem KS99.of {e : Nat} (h : ∀ c, ¬ c = 1 → ¬ (e ≤ c ∧ c ≤ e + 5) → ¬ c = 51 → ¬ c = 52 → I2 c = I c) (he : e = 9 ∨ e = 15) : KS99 e I I2 := by
  refine ⟨fun a ha hn => ?_, fun c hc hn => ?_, fun c hc => ?_⟩
  · have hm := arW9_sh a (badW9_mem ha)
    refine h a (fun q => ?_) hn (fun q => ?_) (fun q => ?_)
    · subst q; exact absurd hm (by decide)
    · subst q; exact absurd hm (by decide)
    · subst q; exact absurd ha (by decide)
  · have h6 := bk_six hc
    rw [h c (by omega) (by omega) (by omega) (by omega)]; exact ⟨rfl, rfl⟩
  · have h5 := bp_five hc
    exact h c (by omega) (by omega) (by omega) (by omega)
theorem KS99.tr {e : Nat} {I3 : Im} (h : KS99 e I I2) (k : KW99 I2 I3) : KS99 e I I3 :=
  ⟨fun a ha hn => (k.1 a ha).trans (h.1 a ha hn), fun c hc hn => ⟨(k.2.1 c hc).1.trans (h.2.1 c hc hn).1, (k.2.1 c hc).2.trans (h.2.1 c hc hn).2⟩, fun c hc => (k.2.2 c hc).trans (h.2.2 c hc)⟩
theorem KS99.bh {e o : Nat} {C : Nat → Int32} (k : KS99 e I I2) (he : e = 9 ∨ e = 15) (ho : o ∈ BKL) (hn : ¬ o = e) (h : BA99 o C I) : BA99 o C I2 := by
  have q := k.2.1 o ho hn
  have h6 := bk_six ho
  refine h.cp q.1 q.2 (fun c hc => k.1 c ?_ (by omega))
  rcases h6 with q | q | q | q | q <;> subst q <;> rcases hc with y | y | y | y <;> subst y <;> decide
theorem KS99.dh {e p : Nat} {C : Nat → Int32} (k : KS99 e I I2) (he : e = 9 ∨ e = 15) (hp : p ∈ BP9) (h : DH9 p C I) : DH9 p C I2 := by
  refine h.cp (fun c h1 h2 => ?_)
  have h5 := bp_five hp
  by_cases q : c = p
  · subst q; exact k.2.2 c hp
  · refine k.1 c ?_ (by omega)
    rcases h5 with y | y | y | y | y <;> subst y
    · rcases (show c = 22 ∨ c = 23 ∨ c = 24 ∨ c = 25 ∨ c = 26 by omega) with y | y | y | y | y <;> subst y <;> decide
    · rcases (show c = 28 ∨ c = 29 ∨ c = 30 ∨ c = 31 ∨ c = 32 by omega) with y | y | y | y | y <;> subst y <;> decide
    · rcases (show c = 68 ∨ c = 69 ∨ c = 70 ∨ c = 71 ∨ c = 72 by omega) with y | y | y | y | y <;> subst y <;> decide
    · rcases (show c = 80 ∨ c = 81 ∨ c = 82 ∨ c = 83 ∨ c = 84 by omega) with y | y | y | y | y <;> subst y <;> decide
    · rcases (show c = 92 ∨ c = 93 ∨ c = 94 ∨ c = 95 ∨ c = 96 by omega) with y | y | y | y | y <;> subst y <;> decide
theorem sp_e {R : Rm} (hR : RI R) : (R 1 8 = 9 ∨ R 1 8 = 15) ∧ ¬ R 1 7 = R 1 8 := by
  have := hR.rp.1
  omega
theorem W9.kS (hR : RI R) (h : W9 I R) (k : KS99 (R 1 8) I I2) (e : I2 102 = I 102) (e23 : I2 97 23 = I 97 23) : W9 I2 R := by
  obtain ⟨he, hne⟩ := sp_e hR
  refine ⟨?_, fun j hj hm => ?_⟩
  · obtain ⟨h1, h2, h3⟩ := h.1
    rw [e]
    exact ⟨h1, k.bh he (now_bk hR) hne h2, k.dh he (pl_bp hR) h3⟩
  · rw [e23] at hm
    have eb : blk9 (324 * (j + 1)) I2 = blk9 (324 * (j + 1)) I := funext fun i => congrFun e _
    obtain ⟨h1, h2, h3⟩ := h.2 j hj hm
    rw [eb]
    exact ⟨h1, k.bh he (kb_bk hj) (by omega) h2, k.dh he (kd_bp hj) h3⟩
noncomputable def okM9 (v1 v2 : Int32) (I : Im) : Prop := ((0 : Int32) ≤ v1 ∧ v1 ≤ 9999) ∧ ((1 : Int32) ≤ v2 ∧ v2 ≤ 20) ∧ v1.toInt + v2.toInt ≤ 10000 ∧ ¬ I 102 52 = 0
noncomputable def MnX9 (v1 v2 : Int32) (I : Im) (x : Int32) : Prop := (x = 1 ∧ okM9 v1 v2 I) ∨ (x = 0 ∧ ¬ okM9 v1 v2 I)
noncomputable def HMe9 (R : Rm) (v1 v2 : Int32) (I : Im) (x : Int32) (I1 : Im) : Prop := MnX9 v1 v2 I x ∧ KS99 (R 1 8) I I1 ∧ I1 102 = I 102 ∧ I1 97 23 = I 97 23 ∧ KL9 I I1
set_option maxHeartbeats 1000000 in
theorem cx_mean9 {d : Nat} (hB0 : Bd I) (hR : RI R) (em : I (R 1 7) 4 = I 102 0) (h : W9 I R) : AM (d + 7) 146 112 [.ref 1, .int v1, .int v2] I J R (fun x _ I1 _ _ => HMe9 R v1 v2 I x I1) := by
  have hO := hR.now.1
  have hS := hR.spare.1
  have hP := hR.plan.1
  obtain ⟨he, hne⟩ := sp_e hR
  have n7 := now_9 hR
  have n9 := n9_p hR
  obtain ⟨q1, q2, q3⟩ := h.1
  have hm := q1.m
  have i0 : (0 : Int32).toInt = 0 := rfl
  have i1 : (1 : Int32).toInt = 1 := rfl
  have i20 : (20 : Int32).toInt = 20 := rfl
  have i9 : (9999 : Int32).toInt = 9999 := rfl
  refine am_X11_mean (fun P hc => ?_)
  have no : ∀ z : Int32, ¬ okM9 v1 v2 I → HMe9 R v1 v2 I 0 (uI I 1 0 z) := fun z hz => ⟨Or.inr ⟨rfl, hz⟩, KS99.of (fun c a _ _ _ => uI_ne a) he, uI_ne (by decide), rd_ne (by decide), uI_ne (by decide), uI_ne (by decide), rd_ne (by decide)⟩
  have ny : ∀ z : Int32, ¬ okM9 v1 v2 I → AM (d + 6) 150 112 [.ref 1, .int z] I J R (fun x1 _ I1 _ _ => (x1 = 0 ∨ x1 = 1) → (((x1 : Int32) = 0 ∨ (x1 : Int32) = 1) ∧ HMe9 R v1 v2 I x1 I1)) := fun z hz => w_X11_deny ⟨Or.inl rfl, fun _ => ⟨Or.inl rfl, no _ hz⟩⟩
  have L : okM9 v1 v2 I → ∀ n : Nat, (∀ (v3 : Int64) (v5 : Int32) (M : Im) (JM : Jm), Bd M → (∀ c, ¬ (R 1 8 ≤ c ∧ c ≤ R 1 8 + 5) → ¬ c = 51 → ¬ c = 52 → M c = I c) → (0 ≤ v5.toInt ∧ v5.toInt ≤ 20) → 30 - v5.toInt < (n : Int) → P 61 112 [(0, .ref 1), (1, .int v1), (2, .int v2), (3, .long v3), (5, .int v5)] [] M JM R) := by
    intro hok n
    obtain ⟨⟨o1, o2⟩, ⟨o3, o4⟩, o5, h52⟩ := id hok
    rw [le_i] at o1 o2 o3 o4
    obtain ⟨s, hg⟩ := q3.2 h52
    have hE := h.ev hB0 h52 hg
    have hs := h.hs
    obtain ⟨g1, g2, g3, g4, g5, g6, g7⟩ := id hg
    have hV : ∀ a, a < dL s → VC9 (I 102 0) (dC s a) := fun a ha => by
      rcases (g2.2.2.2 a ha).2.2 with q | ⟨t, ht, q⟩
      · exact ⟨fun z => by rw [q] at z; exact absurd z (by decide), fun z => by rw [q] at z; exact absurd z (by decide)⟩
      · have := (hE.2.2.2.2 t ht).2.2
        rw [q] at this; exact this
    induction n with
    | zero => exact fun v3 v5 M J _ _ hi hm => absurd hm (by omega)
    | succ n ih =>
      intro v3 v5 M JM hB hM hi hmm
      refine sg_X11_mean_61 hc _ _ _ _ _ _ _ ⟨fun c1 => ?_, fun c1 => ?_⟩
      · refine kpW9 rfl hR rfl (kpL9 rfl hR rfl (k3w rfl rfl rfl hR rfl rfl (sp_X11_tell hB hR (fun x3 y8 I4 J5 hB6 p7 kc kn ka kl kw o9 => ⟨o9, Or.inl ⟨x_one p7, hok⟩, (KS99.of (fun c _ a2 a3 a4 => hM c a2 a3 a4) he).tr kw, kc.1.trans (hM 102 (by omega) (by decide) (by decide)), ka.2.trans (congrFun (hM 97 (by omega) (by decide) (by decide)) 23), KL9.tr ⟨hM 49 (by omega) (by decide) (by decide), hM 112 (by omega) (by decide) (by decide), congrFun (hM 97 (by omega) (by decide) (by decide)) 40⟩ kl⟩))))
      · have d11 : (v5.toInt : Int) < v2.toInt := ci_nle rfl rfl c1
        refine ⟨hR.spare.2, hR.now.2, bif_t hS (kx (px_cpB (Q := fun _ _ I2 J2 _ => (∀ c, ¬ (R 1 8 ≤ c ∧ c ≤ R 1 8 + 5) → I2 c = M c) ∧ I2 (R 1 8) 4 = M (R 1 7) 4 ∧ CpB9 (R 1 8) (R 1 7) M I2) hS hO (by omega) (fun I2 J2 f1 _ y4 _ y1 y3 yst yn => ⟨f1, y4, y1, y3, yst, fun k hk => (yn k hk).2⟩)) (sp_X0_copyFrom hB hR hS hO (fun x12 y17 I13 J14 hB15 p16 fg => ?_)))⟩
        obtain ⟨f1, y4, ycp⟩ := fg
        have c0 : ∀ c, ¬ (R 1 8 ≤ c ∧ c ≤ R 1 8 + 5) → ¬ c = 51 → ¬ c = 52 → I13 c = I c := fun c a1 a2 a3 => (f1 c a1).trans (hM c a1 a2 a3)
        have hb13 : BA99 (R 1 8) (I 102) I13 := (q2.cp (I2 := M) (congrFun (hM (R 1 7) (by omega) (by omega) (by omega)) 1) (congrFun (hM (R 1 7) (by omega) (by omega) (by omega)) 3) (fun c hc => hM c (by omega) (by omega) (by omega))).cy hm.1 ycp
        have m13 : I13 (R 1 8) 4 = I 102 0 := y4.trans ((congrFun (hM (R 1 7) (by omega) (by omega) (by omega)) 4).trans em)
        have s13 : SDc s (R 1 9) I13 := g5.cp (fun c a1 a2 => c0 c (by omega) (by omega) (by omega))
        refine ⟨hR.spare.2, hR.plan.2, ?_⟩
        have run : AM (d + 6) 41 112 [.ref 51, .ref (R 1 8), .ref (R 1 9), .int (v1 + v5)] I13 J14 R (fun _ _ I2 J2 _ => FrLf 51 (R 1 8) I13 J14 I2 J2) :=
          px_run4 (du := du9 I) (od := I 102 1) (m := I 102 0) (M := mnN (I 102)) (st := s9 I) (s := s) rfl hS hP (by omega) (by omega) g1 g2 s13 hV m13 hE.2.1 hb13.1 (fun k hk => ⟨(hb13.2.2.2 k hk).1, (hb13.2.2.2 k hk).2.1⟩) hE.2.2.1 ⟨hb13.2.2.1, fun k hk => (hb13.2.2.2 k hk).2.2, hb13.2.1⟩ (fun I2 _ _ _ _ hF => hF)
        refine kx run (sp_X4_run hB15 hR io9_112_51_4 hS hP (fun x18 y23 I19 J20 hB21 p22 hF => ?_))
        refine ⟨hR.spare.2, bif_t hS ?_⟩
        refine kpp rfl (sp_X0_allHoldings hB21 hR hS (fun x24 y29 I25 J26 hB27 p28 eI eJ _ => ?_))
        subst eI
        have e30 : (v5 + 1 : Int32).toInt = v5.toInt + 1 := ti_add rfl rfl (by omega)
        exact ih _ _ _ _ hB27 (fun c a1 a2 a3 => (hF.c (fun k q => by rcases q with (q | q | q) | q | q <;> omega)).trans (c0 c a1 a2 a3)) (by omega) (by omega)
  refine sg_X11_mean_0 hc _ _ _ _ _ ⟨fun c => ny 5 (fun z => ile.mpr z.1.1 c), fun c1 => ⟨fun c => ny 5 (fun z => ile.mpr z.1.2 c), fun c2 => ⟨fun c => ny 5 (fun z => ile.mpr z.2.1.1 c), fun c3 => ⟨fun c => ny 5 (fun z => ile.mpr z.2.1.2 c), fun c4 => ?_⟩⟩⟩⟩
  have l1 := ile.mp c1
  have l2 := ile.mp c2
  have l3 := ile.mp c3
  have l4 := ile.mp c4
  have l1' := l1
  have l2' := l2
  have l3' := l3
  have l4' := l4
  rw [le_i] at l1' l2' l3' l4'
  have ea : ((v1 + v2) - 1 : Int32).toInt = v1.toInt + v2.toInt - 1 := ti_sub (ti_add rfl rfl (by omega)) i1 (by omega)
  refine ⟨fun c5 => ⟨hR.plan.2, bif_t hP ⟨fun c6 => ?_, fun c6 => ny 8 (fun z => z.2.2.2 (by rw [← q3.1]; exact c6))⟩⟩, fun c5 => ny 5 (fun z => c5 (by rw [le_i, ea, i9]; have := z.2.2.1; omega))⟩
  rw [le_i, ea, i9] at c5
  exact L ⟨⟨l1, l2⟩, ⟨l3, l4⟩, by omega, fun z => c6 (q3.1.trans z)⟩ 40 0 0 I J hB0 (fun _ _ _ _ => rfl) (by decide) (by decide)
theorem px_frac9 {d : Nat} {w1 w3 : Int64} (hb : ¬ w3 = 0) (hQ : ∀ J2, Q 1 0 I J2 R) : AM (d + 1) 179 112 [.ref 97, .long w1, .long w3] I J R Q := by
  refine am_X12_fraction (fun P hc => ?_)
  have L : ∀ n : Nat, ∀ v5 v7 : Int64, v7.toInt.natAbs < n → (¬ v5 = 0 ∨ ¬ v7 = 0) → P 9 112 [(0, .ref 97), (1, .long w1), (3, .long w3), (5, .long v5), (7, .long v7)] [] I J R := by
    intro n
    induction n with
    | zero => intro _ _ h; omega
    | succ n ih =>
      intro v5 v7 hm h5
      refine sg_X12_fraction_9 hc w1 w3 v5 v7 I J R ⟨fun c => ?_, fun c => ?_⟩
      · rw [lg_cmp_eq] at c
        have h5' : ¬ v5 = 0 := h5.resolve_right (fun q => q c)
        exact ⟨h5', h5', Or.inr rfl, hQ _⟩
      · rw [lg_cmp_eq] at c
        exact ⟨c, ih v7 _ (by have := tl_rem_abs (x := v5) c; omega) (Or.inl c)⟩
  exact sg_X12_fraction_0 hc w1 w3 I J R (L (w3.toInt.natAbs + 1) _ _ (Nat.lt_succ_self _) (Or.inr hb))
theorem loaf_n9 : ∀ V, V < 21 → 1 ≤ V → ¬ (Int32.toInt64 (nI V)) * 2329089562800 = 0 := by decide +kernel
set_option maxHeartbeats 1000000 in
theorem mx_mean9 {e : Nat} (hB : Bd I) (hR : RI R) (h : W9 I R) (H1 : HMe9 R v1 v2 I x I1) : AM (e + 84) 315 112 [.ref 97, .int v1, .int v2] I1 J1 R (fun x2 _ I2 _ _ => x2 = x ∧ I2 102 = I 102) := by
  obtain ⟨hX, hK, e102, e23, -⟩ := H1
  obtain ⟨q1, q2, q3⟩ := h.1
  have hm := q1.m
  have i0 : (0 : Int32).toInt = 0 := rfl
  have i1 : (1 : Int32).toInt = 1 := rfl
  have i20 : (20 : Int32).toInt = 20 := rfl
  have i9 : (9999 : Int32).toInt = 9999 := rfl
  have it : (10000 : Int32).toInt = 10000 := rfl
  have t52 : Int32.toNatClampNeg 52 = 52 := rfl
  have t0 : Int32.toNatClampNeg 0 = 0 := rfl
  have v52 : vp_in 52 1620 := vp_of (a := 52) rfl (by decide) (by decide)
  have c102 : uI (uI I1 97 1 0) 97 0 0 102 = I 102 := by rw [uI_ne (by decide), uI_ne (by decide)]; exact e102
  have fail : ¬ okM9 v1 v2 I → ∀ z : Int32, AM (e + 83) 177 112 [.ref 97, .int z] (uI (uI I1 97 1 0) 97 0 0) J1 R (fun x1 _ I2 _ _ => (x1 = 0 ∨ x1 = 1) → (((x1 : Int32) = 0 ∨ (x1 : Int32) = 1) ∧ (x1 = x ∧ I2 102 = I 102))) := fun hn z => by
    have x0 : x = 0 := hX.elim (fun y => absurd y.2 hn) (fun y => y.1)
    exact w_X12_no ⟨Or.inl rfl, fun _ => ⟨Or.inl rfl, x0.symm, (uI_ne (by decide)).trans c102⟩⟩
  refine am_X12_mean (fun P hc => sg_X12_mean_0 hc _ _ _ _ _ (px_isInI (lo := 1) (hi := 20) (fun l3 l4 _ => ⟨fun z => absurd z (by decide), fun _ => ?_⟩) (fun m1 _ => ⟨fun _ => fail (fun z => m1.elim (fun y => ile.mpr z.2.1.1 y) (fun y => y z.2.1.2)) 5, fun z => absurd rfl z⟩)))
  have l3' := l3
  have l4' := l4
  rw [le_i] at l3' l4'
  have e10 : (10000 - v2 : Int32).toInt = 10000 - v2.toInt := ti_sub it rfl (by omega)
  refine px_isInI (lo := 0) (hi := 10000 - v2) (fun l1 l2 _ => ⟨fun _ => ⟨v52, ?_⟩, fun z => absurd z (by decide)⟩) (fun m1 _ => ⟨fun z => absurd rfl z, fun _ => fail (fun z => m1.elim (fun y => ile.mpr z.1.1 y) (fun y => y (by rw [le_i, e10]; have := z.2.2.1; omega))) 5⟩)
  have l1' := l1
  have l2' := l2
  rw [le_i] at l1'
  rw [le_i, e10] at l2'
  rw [t52, c102]
  refine ⟨fun h52 => ?_, fun c52 => fail (fun z => z.2.2.2 c52) 8⟩
  have hok : okM9 v1 v2 I := ⟨⟨l1, by rw [le_i, i9]; omega⟩, ⟨l3, l4⟩, by omega, h52⟩
  have x1 : x = 1 := hX.elim (fun y => y.1) (fun y => absurd hok y.2)
  obtain ⟨s, hg⟩ := q3.2 h52
  have hE := h.ev hB h52 hg
  have hs := h.hs
  obtain ⟨g1, g2, g3, g4, g5, g6, g7⟩ := id hg
  obtain ⟨V, hV, eV⟩ : ∃ V : Nat, (1 ≤ V ∧ V ≤ 20) ∧ v2 = nI V := ⟨v2.toInt.toNat, by omega, Int32.toInt_inj.mp (by rw [nI_toInt (by omega)]; omega)⟩
  have L : ∀ (g k : Nat) (v3 : Int64) (A : Im) (JA : Jm), k + g = V → A 102 = I 102 → (∀ j, j < 52 → A 103 j = I 102 j) → P 91 112 [(0, .ref 97), (1, .int v1), (2, .int v2), (3, .long v3), (5, .int (nI k))] [] A JA R := by
    intro g
    induction g with
    | zero =>
      intro k v3 A JA hk hA _
      refine sg_X12_mean_91 hc _ _ _ _ _ _ _ ⟨fun _ => ?_, fun c => absurd (by rw [eV]; exact (nle_nI (by omega) (by omega)).mpr (by omega)) c⟩
      exact px_frac9 (by rw [eV]; exact loaf_n9 V (by omega) (by omega)) (fun J2 _ => ⟨Or.inr rfl, x1.symm, hA⟩)
    | succ g ih =>
      intro k v3 A JA hk hA h103
      refine sg_X12_mean_91 hc _ _ _ _ _ _ _ ⟨fun c => absurd ((nle_nI (a := V) (b := k) (by omega) (by omega)).mp (by rw [eV] at c; exact c)) (by omega), fun _ => ?_⟩
      have hsd : (v1 + nI k : Int32).toInt = v1.toInt + (k : Int) := ti_add rfl (nI_toInt (by omega)) (by omega)
      have hrA : BkR (mnN (I 102)) (s9 I) A := by
        unfold BkR
        rw [hA]
        exact hs.2.1
      refine px_runs9 (e := e + 3) (q := I 50) (hE.o hA) g1 g2 g3 (by rw [hA]; exact g6) (by omega) hs.2.2.1 hrA (fun B hF hM hRB _ _ => ?_)
      have b103 : ∀ j, j < 52 → B 103 j = I 102 j := fun j hj => (hF.i (fun z => by rcases z with z | z <;> omega)).trans (h103 j hj)
      have bhi : ∀ j, 52 ≤ j → B 102 j = I 102 j := fun j hj => (hF.i (fun z => by rcases z with z | z <;> omega)).trans (congrFun hA j)
      have b0 : B 102 0 = I 102 0 := (hF.i (fun z => by rcases z with z | z <;> omega)).trans (congrFun hA 0)
      have L108 : ∀ (f i : Nat) (w3 : Int64), i + f = mnN (I 102) → P 108 112 [(0, .ref 97), (1, .int v1), (2, .int v2), (3, .long w3), (5, .int (nI k)), (6, .int (nI i))] [] B JA R := by
        intro f
        induction f with
        | zero =>
          intro i w3 hi
          refine sg_X12_mean_108 hc _ _ _ _ _ _ _ _ ⟨vp_of (a := 0) rfl (by decide) (by decide), fun _ => ?_, fun c => absurd (by rw [t0, b0, hm.2.1]; exact (nle_nI (by omega) (by omega)).mpr (by omega)) c⟩
          have L2 : ∀ (f j : Nat) (D : Im), j + f = 52 → (∀ i, i < j → D 102 i = I 102 i) → (∀ i, 52 ≤ i → D 102 i = I 102 i) → (∀ i, i < 52 → D 103 i = I 102 i) → P 144 112 [(0, .ref 97), (1, .int v1), (2, .int v2), (3, .long w3), (5, .int (nI k)), (6, .int (nI j))] [] D JA R := by
            intro f
            induction f with
            | zero =>
              intro j D hj d1 d2 d3
              refine sg_X12_mean_144 hc _ _ _ _ _ _ _ _ ⟨fun _ => ?_, fun c => absurd ((nle_nI (a := 52) (by omega) (by omega)).mpr (by omega)) c⟩
              rw [nI_s1]
              refine ih (k + 1) w3 D JA (by omega) (funext fun i => ?_) d3
              rcases Nat.lt_or_ge i 52 with z | z
              · exact d1 i (by omega)
              · exact d2 i z
            | succ f ih2 =>
              intro j D hj d1 d2 d3
              refine sg_X12_mean_144 hc _ _ _ _ _ _ _ _ ⟨fun c => absurd ((nle_nI (a := 52) (by omega) (by omega)).mp c) (by omega), fun _ => ⟨vp_nI (by omega) (by omega), vp_nI (by omega) (by omega), ?_⟩⟩
              rw [tn_nI (by omega), nI_s1]
              refine ih2 (j + 1) _ (by omega) (fun i hi => ?_) (fun i hi => (rd_k (by omega)).trans (d2 i hi)) (fun i hi => (rd_ne (by decide)).trans (d3 i hi))
              by_cases z : i = j
              · subst z; rw [rd_eq]; exact d3 i (by omega)
              · rw [rd_k z]; exact d1 i (by omega)
          exact L2 52 0 B (by omega) (fun i hi => absurd hi (by omega)) bhi b103
        | succ f ih3 =>
          intro i w3 hi
          have k46 : (46 : Int32) + nI i = nI (46 + i) := by rw [show (46 : Int32) = nI 46 from rfl]; exact nI_add 46 i
          refine sg_X12_mean_108 hc _ _ _ _ _ _ _ _ ⟨vp_of (a := 0) rfl (by decide) (by decide), fun c => absurd ((nle_nI (a := mnN (I 102)) (b := i) (by omega) (by omega)).mp (by rw [t0, b0, hm.2.1] at c; exact c)) (by omega), fun _ => ?_⟩
          rw [k46, tn_nI (by omega), nI_s1]
          refine ⟨vp_nI (by omega) (by omega), px_sumOf ?_ (fun y _ => ih3 (i + 1) _ (by omega))⟩
          rw [hM.1.2.1 i (by omega)]
          exact hRB.1.hv0 i (by omega)
      exact L108 (mnN (I 102)) 0 v3 (by omega)
  have L62 : ∀ (f j : Nat) (A : Im), j + f = 52 → A 102 = I 102 → (∀ i, i < j → A 103 i = I 102 i) → P 62 112 [(0, .ref 97), (1, .int v1), (2, .int v2), (3, .int (nI j))] [] A J1 R := by
    intro f
    induction f with
    | zero =>
      intro j A hj hA d3
      exact sg_X12_mean_62 hc _ _ _ _ _ _ ⟨fun _ => L V 0 0 A J1 (by omega) hA (fun i hi => d3 i (by omega)), fun c => absurd ((nle_nI (a := 52) (by omega) (by omega)).mpr (by omega)) c⟩
    | succ f ih4 =>
      intro j A hj hA d3
      refine sg_X12_mean_62 hc _ _ _ _ _ _ ⟨fun c => absurd ((nle_nI (a := 52) (by omega) (by omega)).mp c) (by omega), fun _ => ⟨vp_nI (by omega) (by omega), vp_nI (by omega) (by omega), ?_⟩⟩
      rw [tn_nI (by omega), nI_s1]
      refine ih4 (j + 1) _ (by omega) ((uI_ne (by decide)).trans hA) (fun i hi => ?_)
      by_cases z : i = j
      · subst z; rw [rd_eq, hA]
      · rw [rd_k z]; exact d3 i (by omega)
  exact L62 52 0 _ (by omega) c102 (fun i hi => absurd hi (by omega))
end W9N
end PT16x0
section PT16x1
/-! ===== the relation of stores: small pieces, its start ===== -/
section W9T
variable {I I1 : Im} {J J1 : Jm} {R : Rm}
theorem W9.mm (h : W9 I R) : (I 102 0).toInt = (mnN (I 102) : Int) ∧ mnN (I 102) ≤ 6 := ⟨h.1.1.m.2.2, h.1.1.m.1⟩
theorem FrCk.z102 {o : Nat} (ho : o = 9 ∨ o = 15) (hF : FrCk o I J I1 J1) : I1 102 0 = I 102 0 := hF.1 102 0 (fun q => by rcases q with (q | q | q) | q <;> omega)
theorem W9.start (e7 : R 1 7 = 9) (e9 : R 1 9 = 21) (h : I 9 1 = 4 ∧ I 9 3 = 0 ∧ (∀ k, I 10 k = 0) ∧ I 21 0 = 0 ∧ ∀ k, k < 324 → I 102 k = emC k) (hm : I 97 23 = 0) : W9 I R := by
  obtain ⟨h1, h2, h3, h4, h5⟩ := h
  have em : mnN (I 102) = 0 := by
    unfold mnN
    rw [h5 0 (by omega)]; rfl
  have ed : ∀ d, 1 ≤ d → d ≤ 30 → I 102 (3 + d) = 0 := fun d a b => by
    rw [h5 (3 + d) (by omega)]
    unfold emC
    rw [if_neg (by omega), if_neg (by omega)]
  refine ⟨?_, fun j hj hk => ?_⟩
  · rw [e7, e9]
    refine ⟨⟨⟨0, by omega, h5 0 (by omega)⟩, fun d a b => ?_, fun k hk => ?_⟩, ⟨?_, ?_, fun d a b => ?_, fun k hk => ?_⟩, ?_, fun h0 => ?_⟩
    · rw [ed d a b]; decide
    · rw [em] at hk; omega
    · rw [h1, h5 1 (by omega)]; rfl
    · rw [h2, h5 2 (by omega)]; rfl
    · rw [ed d a b]; exact h3 d
    · rw [em] at hk; omega
    · rw [h4, h5 52 (by omega)]; rfl
    · exact absurd (h5 52 (by omega)) h0
  · rw [hm, show (0 : Int32).toInt = 0 from rfl] at hk
    omega
end W9T
end PT16x1
section PT16x2
/-! ===== many(), store(), man(): what they answer ===== -/
theorem stR_b {S : Nat → Int32} : ∀ (f : Nat) (x : Int32), f ≤ 30 → 0 ≤ x.toInt ∧ x.toInt < 1073741824 → 0 ≤ (stR S f x).toInt ∧ (stR S f x).toInt < 1073741824 := by
  intro f
  induction f with
  | zero => intro x _ h; exact h
  | succ f ih =>
    intro x hf h
    show 0 ≤ (stR S f (if S (30 - f) ≤ 0 then x else x ||| biS (nI (30 - f)))).toInt ∧ (stR S f (if S (30 - f) ≤ 0 then x else x ||| biS (nI (30 - f)))).toInt < 1073741824
    split
    · exact ih x (by omega) h
    · exact ih _ (by omega) (bi_in h ((nle_nI (a := 1) (by omega) (by omega)).mpr (by omega)) ((nle_nI (b := 30) (by omega) (by omega)).mpr (by omega)))
section W9V
variable {I I1 : Im} {J J1 : Jm} {R : Rm} {v w : Int32}
end W9V
end PT16x2
section PT16x3
/-! ===== fill(), fillAt(): what they answer ===== -/
theorem an_ge {a b : Int32} (h : 0 ≤ a.toInt) : 0 ≤ (a &&& b).toInt := by
  have e : (a &&& b).toBitVec.msb = (a.toBitVec.msb && b.toBitVec.msb) := by rw [Int32.toBitVec_and]; exact BitVec.msb_and
  have e1 : a.toBitVec.toInt = a.toInt := rfl
  have e2 : (a &&& b).toBitVec.toInt = (a &&& b).toInt := rfl
  have ea : a.toBitVec.msb = false := by rw [BitVec.msb_eq_toInt]; exact decide_eq_false (by omega)
  rw [ea, Bool.false_and, BitVec.msb_eq_toInt] at e
  have := of_decide_eq_false e
  omega
theorem fw0 {S : Nat → Bool} {l : Int} (h : 0 ≤ l) : fwR S l (6 - 0) 0 = fwC S l := by
  show fwR S l (5 + 1) 0 = _
  by_cases q : l = 0
  · subst q
    have e : rws S 30 0 0 = [] :: [] := rws_0.trans (if_pos rfl)
    rw [fwR_c e]
    exact (if_pos rfl).symm
  · rw [fwR_n (rws_0.trans (if_neg q)), fwC_pos (by omega)]
/-- what the store holds and a man has not -/
noncomputable def gf9 (s : StS9) (k : Int32) : Int32 := stR s.1 30 0 &&& (s.2.1 (nn9 k) ^^^ (-1))
noncomputable def fl9 (I : Im) (k : Int32) : Option (List Nat) := fwC (SA (gf9 (s9 I) k)) (lk9 (du9 I) (s9 I).2.1 (nn9 k))
noncomputable def faX9 (I : Im) (v k : Int32) : Int32 := if (0 : Int32) ≤ v ∧ v < I 102 0 then atO k (fl9 I v) else -1
theorem lk_b {du : Du9} {hv : Nat → Int32} {k : Nat} (hs : sh (du k).1 (du k).2) : -1000000000000000 ≤ lk9 du hv k ∧ lk9 du hv k ≤ 1000000000000000 := by
  have b1 := shL_b hs
  have b2 := hvR_b (h := hv k) 30 0 (by decide) (by decide)
  unfold lk9
  omega
section W9F
variable {I I1 : Im} {J J1 : Jm} {R : Rm} {Q : Qt} {v w : Int32}
theorem px_give9 {d : Nat} (hR : RI R) (e0 : I (R 1 7) 4 = I 102 0) (h : W9 I R) (hk : (0 : Int32) ≤ v ∧ v < I (R 1 7) 4) (hQ : Q (gf9 (s9 I) v) 0 I J R) : AM (d + 3) 13 112 [.ref (R 1 7), .int v] I J R Q := by
  have hO := hR.now.1
  obtain ⟨a5, l5, -⟩ := fa_0_8 hO
  have hm := h.mm
  have hk2 := hk
  rw [e0] at hk2
  obtain ⟨nk, vk⟩ := mn_nn hk2 hm
  have e5 : I (R 1 7 + 5) (Int32.toNatClampNeg v) = (s9 I).2.1 (nn9 v) := (h.1.2.1.2.2.2 _ nk).2.2
  refine w_X0_giftsFor (bif_t hO (px_stockSet hO h.hs.1 (bif_t hO (bif_t a5 ⟨by rw [l5]; exact vk, ?_⟩))))
  rw [e5]
  exact hQ
theorem px_lack9 {d : Nat} (hR : RI R) (e0 : I (R 1 7) 4 = I 102 0) (h : W9 I R) (hk : (0 : Int32) ≤ v ∧ v < I (R 1 7) 4) (hQ : ∀ y : Int64, y.toInt = lk9 (du9 I) (s9 I).2.1 (nn9 v) → sh (du9 I (nn9 v)).1 (du9 I (nn9 v)).2 → Q 0 y I J R) : AM (d + 3) 11 112 [.ref (R 1 7), .int v] I J R Q := by
  have hO := hR.now.1
  have hs := h.hs
  have hm := h.mm
  have hk2 := hk
  rw [e0] at hk2
  obtain ⟨nk, -⟩ := mn_nn hk2 hm
  have hsh := (h.1.1.2.2 _ nk).1
  exact px_lacking hO hk (by rw [e0]; exact hm) hs.1 hs.2.2.2.2.1 hsh (fun y hy => hQ y hy hsh)
theorem cx_fillAt9 {d : Nat} (hR : RI R) (e0 : I (R 1 7) 4 = I 102 0) (h : W9 I R) : AM (d + 12) 139 112 [.ref 1, .int v, .int w] I J R (fun x _ _ _ _ => x = faX9 I v w) := by
  have hO := hR.now.1
  refine w_X11_fillAt ⟨hR.now.2, bif_t hO (px_cMan9 hO (fun hk _ => ⟨fun _ => ⟨hR.now.2, bif_t hO (px_give9 hR e0 h hk ⟨hR.now.2, bif_t hO (px_lack9 hR e0 h hk (fun y hy hs => ?_))⟩)⟩, fun z => absurd z (by decide)⟩) (fun hk _ => ⟨fun z => absurd rfl z, fun _ => w_X11_refuse (if_neg (fun z => hk (by rw [e0]; exact z))).symm⟩))⟩
  have hk2 := hk
  rw [e0] at hk2
  have e1 : faX9 I v w = atO w (fl9 I v) := if_pos hk2
  rw [e1]
  exact px_findFewest hy (lk_b hs) (fun I2 h2 c _ => px_answerSlice (o := fl9 I v) h2 (fun r => fwC_len) (fun I3 => rfl))
/-! the reference -/
theorem px_fillOf9 {d : Nat} (h : W9 I R) (b : I1 102 = I 102) (hk : (0 : Int32) ≤ v ∧ v < I 102 0) (hQ : ∀ I2, (∀ r, fl9 I v = some r → ∀ i, i < r.length → I2 106 i = nI (r.getD i 0)) → Q (lnO (fl9 I v)) 0 I2 J1 R) : AM (d + 11) 293 112 [.ref 97, .int v] I1 J1 R Q := by
  have hs := h.hs
  have hm := h.mm
  have hr : BkR (mnN (I 102)) (s9 I) I1 := by
    unfold BkR
    rw [b]
    exact hs.2.1
  have hd : DuR (mnN (I 102)) (du9 I) I1 := by
    unfold DuR
    rw [b]
    exact hs.2.2.2.2.2.1
  obtain ⟨nk, -⟩ := mn_nn hk hm
  obtain ⟨ik, vk, -⟩ := ix_hv hk hm
  obtain ⟨hsh, hh, -⟩ := h.1.1.2.2 _ nk
  have z0 : (0 : Int64).toInt = 0 := rfl
  refine w_X12_fillOf (px_lackOf hk hm hr hh hd hsh (fun y hy => ⟨fun c => ?_, fun c => ?_⟩))
  · rw [lg_cmp_ge] at c
    have l0 := cl_le z0 hy c
    refine px_heldSet hr ⟨vk, ?_⟩
    rw [ik, b]
    have hA : 0 ≤ (gf9 (s9 I) v).toInt := an_ge (stR_b (S := (s9 I).1) 30 0 (by decide) (by decide)).1
    refine px_fewestOf (A := gf9 (s9 I) v) (t := 0) hA hy (lk_b hsh) (by decide) (fun I4 h4 _ => ?_)
    rw [fw0 l0] at h4 ⊢
    exact hQ I4 h4
  · rw [lg_cmp_ge] at c
    have l0 := cl_nle z0 hy c
    have e : fl9 I v = none := by
      unfold fl9 fwC
      rw [if_neg (by omega), if_pos l0]
    rw [e] at hQ
    exact hQ I1 (fun r z => by cases z)
theorem fl9_5 {r : List Nat} (h : fl9 I v = some r) : r.length ≤ 5 := fwC_len h
theorem mx_fillAt9 {d : Nat} (h : W9 I R) (e : I1 102 = I 102) : AM (d + 12) 295 112 [.ref 97, .int v, .int w] I1 J1 R (fun x _ _ _ _ => x = faX9 I v w) := by
  have b : uI (uI I1 97 1 0) 97 0 0 102 = I 102 := by rw [uI_ne (by decide), uI_ne (by decide)]; exact e
  have b0 : uI (uI I1 97 1 0) 97 0 0 102 0 = I 102 0 := congrFun b 0
  have hm := h.mm
  refine w_X12_fillAt (px_manAt (by rw [b0]; omega) (fun hk => ⟨fun z => absurd rfl z, fun _ => w_X12_refuse (if_neg (fun z => hk (by rw [b0]; exact z))).symm⟩) (fun hk => ⟨fun _ => ?_, fun z => absurd z (by decide)⟩))
  rw [b0] at hk
  have e1 : faX9 I v w = atO w (fl9 I v) := if_pos hk
  rw [e1]
  refine px_fillOf9 h b hk (fun I2 h2 => ?_)
  have z0 : (0 : Int32).toInt = 0 := rfl
  cases o : fl9 I v with
  | none =>
    refine px_isInI (lo := 0) (hi := lnO none - 1) (fun l1 l2 _ => ?_) (fun _ _ => ⟨fun _ => w_X12_refuse rfl, fun z => absurd rfl z⟩)
    rw [le_i] at l1 l2
    have : (lnO none - 1 : Int32).toInt = -2 := rfl
    omega
  | some r =>
    have hl := fl9_5 o
    have e2 : (lnO (some r) - 1 : Int32).toInt = (r.length : Int) - 1 := ti_sub (nI_toInt (by omega)) (show (1 : Int32).toInt = 1 from rfl) (by omega)
    refine px_isInI (lo := 0) (hi := lnO (some r) - 1) (fun l1 l2 _ => ⟨fun z => absurd z (by decide), fun _ => ?_⟩) (fun n1 _ => ⟨fun _ => w_X12_refuse ?_, fun z => absurd rfl z⟩)
    · rw [le_i] at l1 l2
      have hk2 : 0 ≤ w.toInt ∧ w.toInt < r.length := by omega
      have hi : w.toNatClampNeg < r.length := by
        show w.toInt.toNat < r.length
        omega
      refine ⟨vp_of (a := w.toInt) rfl hk2.1 (by omega), ?_⟩
      rw [h2 r o _ hi, atO_y hk2]
    · rw [atO_n]
      intro hk2
      rcases n1 with n1 | n1
      · rw [Int32.lt_iff_toInt_lt] at n1; omega
      · rw [le_i] at n1; omega
end W9F
end PT16x3
section PT16x4
/-! ===== the latest life, carried ===== -/
section LVC
variable {I I2 : Im}
theorem LV9.kp (h : LV9 I) (k : KL9 I I2) : LV9 I2 := by
  unfold LV9 at h ⊢
  rw [k.1, k.2.1, k.2.2]
  exact h
theorem LV9.start (h : I 97 40 = 0) (h2 : I 49 0 = 0) : LV9 I := ⟨h.trans h2.symm, fun z => absurd h2 z⟩
end LVC
end PT16x4
section PT16x5
/-! ===== how many cuts and splits till there is a slice: the numbers ===== -/
noncomputable def tb9 : List (List Nat) := [[1000, 1000, 1000, 1000, 1000, 1000, 1000, 1000, 1000, 1000, 1000, 1000, 1000, 1000, 1000, 1000, 1000, 1000, 1000, 1000, 1000, 1000, 1000, 1000, 1000, 1000, 1000, 1000, 1000, 1000, 1000],
  [1000, 0, 1000, 1000, 1000, 1000, 1000, 1000, 1000, 1000, 1000, 1000, 1000, 1000, 1000, 1000, 1000, 1000, 1000, 1000, 1000, 1000, 1000, 1000, 1000, 1000, 1000, 1000, 1000, 1000, 1000],
  [1000, 1, 0, 1000, 1000, 1000, 1000, 1000, 1000, 1000, 1000, 1000, 1000, 1000, 1000, 1000, 1000, 1000, 1000, 1000, 1000, 1000, 1000, 1000, 1000, 1000, 1000, 1000, 1000, 1000, 1000],
  [1000, 1, 1, 0, 1000, 1000, 1000, 1000, 1000, 1000, 1000, 1000, 1000, 1000, 1000, 1000, 1000, 1000, 1000, 1000, 1000, 1000, 1000, 1000, 1000, 1000, 1000, 1000, 1000, 1000, 1000],
  [1000, 1, 1, 1, 0, 1000, 1000, 1000, 1000, 1000, 1000, 1000, 1000, 1000, 1000, 1000, 1000, 1000, 1000, 1000, 1000, 1000, 1000, 1000, 1000, 1000, 1000, 1000, 1000, 1000, 1000],
  [1000, 1, 2, 2, 1, 0, 1000, 1000, 1000, 1000, 1000, 1000, 1000, 1000, 1000, 1000, 1000, 1000, 1000, 1000, 1000, 1000, 1000, 1000, 1000, 1000, 1000, 1000, 1000, 1000, 1000],
  [1000, 1, 1, 1, 1, 1, 0, 1000, 1000, 1000, 1000, 1000, 1000, 1000, 1000, 1000, 1000, 1000, 1000, 1000, 1000, 1000, 1000, 1000, 1000, 1000, 1000, 1000, 1000, 1000, 1000],
  [1000, 1, 1000, 1000, 1000, 1000, 1000, 0, 1000, 1000, 1000, 1000, 1000, 1000, 1000, 1000, 1000, 1000, 1000, 1000, 1000, 1000, 1000, 1000, 1000, 1000, 1000, 1000, 1000, 1000, 1000],
  [1000, 1, 1, 2, 1, 2, 1, 1000, 0, 1000, 1000, 1000, 1000, 1000, 1000, 1000, 1000, 1000, 1000, 1000, 1000, 1000, 1000, 1000, 1000, 1000, 1000, 1000, 1000, 1000, 1000],
  [1000, 1, 2, 1, 2, 2, 1, 1000, 1000, 0, 1000, 1000, 1000, 1000, 1000, 1000, 1000, 1000, 1000, 1000, 1000, 1000, 1000, 1000, 1000, 1000, 1000, 1000, 1000, 1000, 1000],
  [1000, 1, 1, 2, 2, 1, 1, 1000, 1000, 1000, 0, 1000, 1000, 1000, 1000, 1000, 1000, 1000, 1000, 1000, 1000, 1000, 1000, 1000, 1000, 1000, 1000, 1000, 1000, 1000, 1000],
  [1000, 1, 1000, 1000, 1000, 1000, 1000, 1000, 1000, 1000, 1000, 0, 1000, 1000, 1000, 1000, 1000, 1000, 1000, 1000, 1000, 1000, 1000, 1000, 1000, 1000, 1000, 1000, 1000, 1000, 1000],
  [1000, 1, 1, 1, 1, 2, 1, 1000, 1, 1000, 1000, 1000, 0, 1000, 1000, 1000, 1000, 1000, 1000, 1000, 1000, 1000, 1000, 1000, 1000, 1000, 1000, 1000, 1000, 1000, 1000],
  [1000, 1, 1000, 1000, 1000, 1000, 1000, 1000, 1000, 1000, 1000, 1000, 1000, 0, 1000, 1000, 1000, 1000, 1000, 1000, 1000, 1000, 1000, 1000, 1000, 1000, 1000, 1000, 1000, 1000, 1000],
  [1000, 1, 1, 1000, 1000, 1000, 1000, 1, 1000, 1000, 1000, 1000, 1000, 1000, 0, 1000, 1000, 1000, 1000, 1000, 1000, 1000, 1000, 1000, 1000, 1000, 1000, 1000, 1000, 1000, 1000],
  [1000, 1, 2, 1, 2, 1, 1, 1000, 1000, 1000, 1, 1000, 1000, 1000, 1000, 0, 1000, 1000, 1000, 1000, 1000, 1000, 1000, 1000, 1000, 1000, 1000, 1000, 1000, 1000, 1000],
  [1000, 1, 1, 2, 1, 3, 2, 1000, 1, 1000, 1000, 1000, 1000, 1000, 1000, 1000, 0, 1000, 1000, 1000, 1000, 1000, 1000, 1000, 1000, 1000, 1000, 1000, 1000, 1000, 1000],
  [1000, 1, 1000, 1000, 1000, 1000, 1000, 1000, 1000, 1000, 1000, 1000, 1000, 1000, 1000, 1000, 1000, 0, 1000, 1000, 1000, 1000, 1000, 1000, 1000, 1000, 1000, 1000, 1000, 1000, 1000],
  [1000, 1, 1, 1, 2, 2, 1, 1000, 1000, 1, 1000, 1000, 1000, 1000, 1000, 1000, 1000, 1000, 0, 1000, 1000, 1000, 1000, 1000, 1000, 1000, 1000, 1000, 1000, 1000, 1000],
  [1000, 1, 1000, 1000, 1000, 1000, 1000, 1000, 1000, 1000, 1000, 1000, 1000, 1000, 1000, 1000, 1000, 1000, 1000, 0, 1000, 1000, 1000, 1000, 1000, 1000, 1000, 1000, 1000, 1000, 1000],
  [1000, 1, 1, 2, 1, 1, 2, 1000, 2, 1000, 1, 1000, 1, 1000, 1000, 1000, 1000, 1000, 1000, 1000, 0, 1000, 1000, 1000, 1000, 1000, 1000, 1000, 1000, 1000, 1000],
  [1000, 1, 2, 1, 2, 3, 2, 1, 2, 1000, 1000, 1000, 1, 1000, 1000, 1000, 1000, 1000, 1000, 1000, 1000, 0, 1000, 1000, 1000, 1000, 1000, 1000, 1000, 1000, 1000],
  [1000, 1, 1, 1000, 1000, 1000, 1000, 1000, 1000, 1000, 1000, 1, 1000, 1000, 1000, 1000, 1000, 1000, 1000, 1000, 1000, 1000, 0, 1000, 1000, 1000, 1000, 1000, 1000, 1000, 1000],
  [1000, 1, 1000, 1000, 1000, 1000, 1000, 1000, 1000, 1000, 1000, 1000, 1000, 1000, 1000, 1000, 1000, 1000, 1000, 1000, 1000, 1000, 1000, 0, 1000, 1000, 1000, 1000, 1000, 1000, 1000],
  [1000, 1, 1, 1, 1, 2, 1, 1000, 1, 1000, 1000, 1000, 1, 1000, 1000, 1000, 1000, 1000, 1000, 1000, 1000, 1000, 1000, 1000, 0, 1000, 1000, 1000, 1000, 1000, 1000],
  [1000, 1, 3, 3, 2, 1, 1000, 1000, 1000, 1000, 1000, 1000, 1000, 1000, 1000, 1000, 1000, 1000, 1000, 1000, 1000, 1000, 1000, 1000, 1000, 0, 1000, 1000, 1000, 1000, 1000],
  [1000, 1, 1, 1000, 1000, 1000, 1000, 1000, 1000, 1000, 1000, 1000, 1000, 1, 1000, 1000, 1000, 1000, 1000, 1000, 1000, 1000, 1000, 1000, 1000, 1000, 0, 1000, 1000, 1000, 1000],
  [1000, 1, 2, 1, 3, 3, 2, 1000, 1000, 1, 1000, 1000, 1000, 1000, 1000, 1000, 1000, 1000, 1000, 1000, 1000, 1000, 1000, 1000, 1000, 1000, 1000, 0, 1000, 1000, 1000],
  [1000, 1, 1, 2, 1, 3, 2, 1, 2, 1000, 1000, 1000, 1, 1000, 1, 1000, 1000, 1000, 1000, 1000, 1000, 1000, 1000, 1000, 1000, 1000, 1000, 1000, 0, 1000, 1000],
  [1000, 1, 1000, 1000, 1000, 1000, 1000, 1000, 1000, 1000, 1000, 1000, 1000, 1000, 1000, 1000, 1000, 1000, 1000, 1000, 1000, 1000, 1000, 1000, 1000, 1000, 1000, 1000, 1000, 0, 1000],
  [1000, 1, 1, 1, 2, 1, 1, 1000, 2, 1000, 1, 1000, 1, 1000, 1000, 1, 1000, 1000, 1000, 1000, 1000, 1000, 1000, 1000, 1000, 1000, 1000, 1000, 1000, 1000, 0]]
/-- the fewest till there is a t, from an s on (1000: never); the next slice then -/
noncomputable def e9 (t s : Nat) : Nat := (tb9.getD t []).getD s 1000
section RC9
variable {t s p a b : Nat}
end RC9
section RCX
variable {I : Im} {J : Jm} {R : Rm} {Q : Qt}
end RCX
end PT16x5
section PT16x6
/-! printed by rd.py: the Reader's constructor, all steps but those with the text -/
noncomputable def kRd : List En := [
  (0, .aload_n 0, 1, [], [], 0),
  (1, .invokespecial 3, 3, [3], [], 0),
  (4, .aload_n 0, 1, [], [], 0),
  (5, .sipush 900, 3, [], [900], 0),
  (8, .newarray .byte, 2, [2], [], 0),
  (10, .putfield 9, 3, [6, 0, 4, 1], [], 0),
  (13, .aload_n 0, 1, [], [], 0),
  (14, .iconst 0, 1, [], [0], 0),
  (15, .putfield 15, 3, [6, 1, 0, 0], [], 0),
  (18, .aload_n 0, 1, [], [], 0),
  (19, .bipush 22, 2, [], [22], 0),
  (21, .newarray .long, 2, [1], [], 0),
  (23, .putfield 19, 3, [6, 2, 4, 2], [], 0),
  (26, .aload_n 0, 1, [], [], 0),
  (27, .iconst 0, 1, [], [0], 0),
  (28, .putfield 23, 3, [6, 3, 1, 0], [], 0),
  (31, .aload_n 0, 1, [], [], 0),
  (32, .iconst 0, 1, [], [0], 0),
  (33, .putfield 27, 3, [6, 4, 0, 0], [], 0),
  (36, .aload_n 0, 1, [], [], 0),
  (37, .iconst 0, 1, [], [0], 0),
  (38, .putfield 30, 3, [6, 5, 0, 0], [], 0),
  (41, .aload_n 0, 1, [], [], 0),
  (42, .iconst 0, 1, [], [0], 0),
  (43, .putfield 33, 3, [6, 6, 0, 0], [], 0),
  (46, .aload_n 0, 1, [], [], 0),
  (47, .iconst 0, 1, [], [0], 0),
  (48, .putfield 36, 3, [6, 7, 0, 0], [], 0),
  (51, .aload_n 0, 1, [], [], 0),
  (52, .iconst 0, 1, [], [0], 0),
  (53, .putfield 39, 3, [6, 8, 0, 0], [], 0),
  (56, .aload_n 0, 1, [], [], 0),
  (57, .iconst (-1), 1, [], [(-1)], 0),
  (58, .putfield 42, 3, [6, 9, 0, 0], [], 0),
  (61, .aload_n 0, 1, [], [], 0),
  (62, .lconst 0, 1, [], [], 0),
  (63, .putfield 45, 3, [6, 10, 2, 0], [], 0),
  (66, .aload_n 0, 1, [], [], 0),
  (67, .iconst 0, 1, [], [0], 0),
  (68, .putfield 49, 3, [6, 11, 0, 0], [], 0),
  (71, .aload_n 0, 1, [], [], 0),
  (72, .iconst 0, 1, [], [0], 0),
  (73, .putfield 52, 3, [6, 12, 0, 0], [], 0),
  (76, .aload_n 0, 1, [], [], 0),
  (77, .iconst (-1), 1, [], [(-1)], 0),
  (78, .putfield 55, 3, [6, 13, 0, 0], [], 0),
  (81, .iconst 1, 1, [], [1], 0),
  (82, .istore_n 1, 1, [], [], 0),
  (83, .iconst 0, 1, [], [0], 0),
  (84, .istore_n 2, 1, [], [], 0),
  (85, .iload_n 2, 1, [], [], 0),
  (91, .if_icmp .ge 58, 3, [149], [], 0),
  (96, .iload_n 2, 1, [], [], 0),
  (100, .istore_n 3, 1, [], [], 0),
  (101, .iload_n 3, 1, [], [], 0),
  (102, .bipush 32, 2, [], [32], 0),
  (104, .if_icmp .ne 9, 3, [113], [], 0),
  (107, .iinc 1 1, 3, [], [1], 0),
  (110, .goto 33, 3, [143], [], 0),
  (113, .iload_n 1, 1, [], [], 0),
  (114, .bipush 21, 2, [], [21], 0),
  (116, .if_icmp .gt 27, 3, [143], [], 0),
  (119, .aload_n 0, 1, [], [], 0),
  (120, .getfield 19, 3, [6, 2, 4, 2], [], 0),
  (123, .iload_n 1, 1, [], [], 0),
  (124, .aload_n 0, 1, [], [], 0),
  (125, .getfield 19, 3, [6, 2, 4, 2], [], 0),
  (128, .iload_n 1, 1, [], [], 0),
  (129, .laload, 1, [], [], 0),
  (130, .ldc2_w 70, 3, [], [], 32),
  (133, .lmul, 1, [], [], 0),
  (134, .iload_n 3, 1, [], [], 0),
  (135, .bipush 97, 2, [], [97], 0),
  (137, .isub, 1, [], [], 0),
  (138, .iconst 1, 1, [], [1], 0),
  (139, .iadd, 1, [], [], 0),
  (140, .i2l, 1, [], [], 0),
  (141, .ladd, 1, [], [], 0),
  (142, .lastore, 1, [], [], 0),
  (143, .iinc 2 1, 3, [], [1], 0),
  (146, .goto (-61), 3, [85], [], 0),
  (149, .return_, 1, [], [], 0)]
set_option maxRecDepth 100000 in
theorem rd_okE : ∀ e ∈ kRd, okE RX6 cX6_init 4 1 e = true := List.all_eq_true.mp (by decide +kernel)
set_option maxRecDepth 100000 in
theorem rd_need : ∀ e ∈ kRd, ∀ w ∈ needE RX6 e, w ∈ wsG := need_ok [157, 148, 260, 208, 209, 261, 211, 212, 214, 215, 216, 217, 218, 221, 224, 225, 226, 229, 211, 211, 207] (by decide +kernel) (by decide +kernel)
set_option maxRecDepth 100000 in
theorem wj_cs : Cond.fieldLink RJ0 38 "java/lang/String" "COMPACT_STRINGS" "Z" ∈ wsG := tb_mem 167 rfl rfl
set_option maxRecDepth 100000 in
theorem wj_co : Cond.fieldLink RJ0 15 "java/lang/String" "coder" "B" ∈ wsG := tb_mem 2052 rfl rfl
set_option maxRecDepth 100000 in
theorem wj_va : Cond.fieldLink RJ0 9 "java/lang/String" "value" "[B" ∈ wsG := tb_mem 2051 rfl rfl
set_option maxRecDepth 100000 in
theorem wj_fm : Cond.fieldLink RJ0 1053 "jdk/internal/util/Preconditions" "SIOOBE_FORMATTER" "Ljava/util/function/BiFunction;" ∈ wsG := tb_mem 183 rfl rfl
set_option maxRecDepth 100000 in
theorem wv_coder : ∀ w ∈ ([.methodLink RJ0 335 yJ0_coder_7d493, .instanceMethod yJ0_coder_7d493, .selects RJ0 yJ0_coder_7d493 yJ0_coder_7d493, .initialized RJ0] : List Cond), w ∈ wsG := tb_list [163, 164, 165, 123] (by decide +kernel) (by decide +kernel)
set_option maxRecDepth 100000 in
theorem wv_isLatin1 : ∀ w ∈ ([.methodLink RJ0 492 yJ0_isLatin1_aae02, .instanceMethod yJ0_isLatin1_aae02, .selects RJ0 yJ0_isLatin1_aae02 yJ0_isLatin1_aae02, .initialized RJ0] : List Cond), w ∈ wsG := tb_list [173, 174, 175, 123] (by decide +kernel) (by decide +kernel)
set_option maxRecDepth 100000 in
theorem wv_length : ∀ w ∈ ([.methodLink RX6 60 yJ0_length_8abf5, .instanceMethod yJ0_length_8abf5, .selects RJ0 yJ0_length_8abf5 yJ0_length_8abf5, .initialized RJ0] : List Cond), w ∈ wsG := tb_list [159, 160, 161, 123] (by decide +kernel) (by decide +kernel)
set_option maxRecDepth 100000 in
theorem wv_charAt : ∀ w ∈ ([.methodLink RX6 66 yJ0_charAt_5068e, .instanceMethod yJ0_charAt_5068e, .selects RJ0 yJ0_charAt_5068e yJ0_charAt_5068e, .initialized RJ0] : List Cond), w ∈ wsG := tb_list [169, 170, 171, 123] (by decide +kernel) (by decide +kernel)
set_option maxRecDepth 100000 in
theorem ws_c1 : ∀ w ∈ ([.methodLink RJ0 495 yJ1_charAt_3b067, .static yJ1_charAt_3b067, .initialized RJ1] : List Cond), w ∈ wsG := tb_list [177, 178, 124] (by decide +kernel) (by decide +kernel)
set_option maxRecDepth 100000 in
theorem ws_ci : ∀ w ∈ ([.methodLink RJ1 9 yJ0_checkIndex_df160, .static yJ0_checkIndex_df160, .initialized RJ0] : List Cond), w ∈ wsG := tb_list [180, 181, 123] (by decide +kernel) (by decide +kernel)
set_option maxRecDepth 100000 in
theorem ws_pre : ∀ w ∈ ([.methodLink RJ0 1059 yJ3_checkIndex_8e157, .static yJ3_checkIndex_8e157, .initialized RJ3] : List Cond), w ∈ wsG := tb_list [185, 186, 125] (by decide +kernel) (by decide +kernel)
noncomputable abbrev kc_coder : Cond := .code yJ0_coder_7d493 cJ0_coder_7d493 1 (some .byte)
set_option maxRecDepth 100000 in
theorem wc_coder : kc_coder ∈ wsG := tb_mem 166 rfl rfl
theorem dJ0_coder_7d493_0 : decode cJ0_coder_7d493 0 = .ok (.getstatic 38, 3) := by decide +kernel
theorem dJ0_coder_7d493_3 : decode cJ0_coder_7d493 3 = .ok (.ifCond .eq 10, 3) := by decide +kernel
theorem dJ0_coder_7d493_6 : decode cJ0_coder_7d493 6 = .ok (.aload_n 0, 1) := by decide +kernel
theorem dJ0_coder_7d493_7 : decode cJ0_coder_7d493 7 = .ok (.getfield 15, 3) := by decide +kernel
theorem dJ0_coder_7d493_10 : decode cJ0_coder_7d493 10 = .ok (.goto 4, 3) := by decide +kernel
theorem dJ0_coder_7d493_14 : decode cJ0_coder_7d493 14 = .ok (.ireturn, 1) := by decide +kernel
noncomputable abbrev kc_length : Cond := .code yJ0_length_8abf5 cJ0_length_8abf5 1 (some .int)
set_option maxRecDepth 100000 in
theorem wc_length : kc_length ∈ wsG := tb_mem 162 rfl rfl
theorem dJ0_length_8abf5_0 : decode cJ0_length_8abf5 0 = .ok (.aload_n 0, 1) := by decide +kernel
theorem dJ0_length_8abf5_1 : decode cJ0_length_8abf5 1 = .ok (.getfield 9, 3) := by decide +kernel
theorem dJ0_length_8abf5_4 : decode cJ0_length_8abf5 4 = .ok (.arraylength, 1) := by decide +kernel
theorem dJ0_length_8abf5_5 : decode cJ0_length_8abf5 5 = .ok (.aload_n 0, 1) := by decide +kernel
theorem dJ0_length_8abf5_6 : decode cJ0_length_8abf5 6 = .ok (.invokevirtual 335, 3) := by decide +kernel
theorem dJ0_length_8abf5_9 : decode cJ0_length_8abf5 9 = .ok (.ishr, 1) := by decide +kernel
theorem dJ0_length_8abf5_10 : decode cJ0_length_8abf5 10 = .ok (.ireturn, 1) := by decide +kernel
noncomputable abbrev kc_isLatin1 : Cond := .code yJ0_isLatin1_aae02 cJ0_isLatin1_aae02 1 (some .boolean)
set_option maxRecDepth 100000 in
theorem wc_isLatin1 : kc_isLatin1 ∈ wsG := tb_mem 176 rfl rfl
theorem dJ0_isLatin1_aae02_0 : decode cJ0_isLatin1_aae02 0 = .ok (.getstatic 38, 3) := by decide +kernel
theorem dJ0_isLatin1_aae02_3 : decode cJ0_isLatin1_aae02 3 = .ok (.ifCond .eq 14, 3) := by decide +kernel
theorem dJ0_isLatin1_aae02_6 : decode cJ0_isLatin1_aae02 6 = .ok (.aload_n 0, 1) := by decide +kernel
theorem dJ0_isLatin1_aae02_7 : decode cJ0_isLatin1_aae02 7 = .ok (.getfield 15, 3) := by decide +kernel
theorem dJ0_isLatin1_aae02_10 : decode cJ0_isLatin1_aae02 10 = .ok (.ifCond .ne 7, 3) := by decide +kernel
theorem dJ0_isLatin1_aae02_13 : decode cJ0_isLatin1_aae02 13 = .ok (.iconst 1, 1) := by decide +kernel
theorem dJ0_isLatin1_aae02_14 : decode cJ0_isLatin1_aae02 14 = .ok (.goto 4, 3) := by decide +kernel
theorem dJ0_isLatin1_aae02_18 : decode cJ0_isLatin1_aae02 18 = .ok (.ireturn, 1) := by decide +kernel
noncomputable abbrev kc_ci : Cond := .code yJ0_checkIndex_df160 cJ0_checkIndex_df160 2 none
set_option maxRecDepth 100000 in
theorem wc_ci : kc_ci ∈ wsG := tb_mem 182 rfl rfl
theorem dJ0_checkIndex_df160_0 : decode cJ0_checkIndex_df160 0 = .ok (.iload_n 0, 1) := by decide +kernel
theorem dJ0_checkIndex_df160_1 : decode cJ0_checkIndex_df160 1 = .ok (.iload_n 1, 1) := by decide +kernel
theorem dJ0_checkIndex_df160_2 : decode cJ0_checkIndex_df160 2 = .ok (.getstatic 1053, 3) := by decide +kernel
theorem dJ0_checkIndex_df160_5 : decode cJ0_checkIndex_df160 5 = .ok (.invokestatic 1059, 3) := by decide +kernel
theorem dJ0_checkIndex_df160_8 : decode cJ0_checkIndex_df160 8 = .ok (.pop, 1) := by decide +kernel
theorem dJ0_checkIndex_df160_9 : decode cJ0_checkIndex_df160 9 = .ok (.return_, 1) := by decide +kernel
noncomputable abbrev kc_c1 : Cond := .code yJ1_charAt_3b067 cJ1_charAt_3b067 2 (some .char)
set_option maxRecDepth 100000 in
theorem wc_c1 : kc_c1 ∈ wsG := tb_mem 179 rfl rfl
theorem dJ1_charAt_3b067_0 : decode cJ1_charAt_3b067 0 = .ok (.iload_n 1, 1) := by decide +kernel
theorem dJ1_charAt_3b067_1 : decode cJ1_charAt_3b067 1 = .ok (.aload_n 0, 1) := by decide +kernel
theorem dJ1_charAt_3b067_2 : decode cJ1_charAt_3b067 2 = .ok (.arraylength, 1) := by decide +kernel
theorem dJ1_charAt_3b067_3 : decode cJ1_charAt_3b067 3 = .ok (.invokestatic 9, 3) := by decide +kernel
theorem dJ1_charAt_3b067_6 : decode cJ1_charAt_3b067 6 = .ok (.aload_n 0, 1) := by decide +kernel
theorem dJ1_charAt_3b067_7 : decode cJ1_charAt_3b067 7 = .ok (.iload_n 1, 1) := by decide +kernel
theorem dJ1_charAt_3b067_8 : decode cJ1_charAt_3b067 8 = .ok (.baload, 1) := by decide +kernel
theorem dJ1_charAt_3b067_9 : decode cJ1_charAt_3b067 9 = .ok (.sipush 255, 3) := by decide +kernel
theorem dJ1_charAt_3b067_12 : decode cJ1_charAt_3b067 12 = .ok (.iand, 1) := by decide +kernel
theorem dJ1_charAt_3b067_13 : decode cJ1_charAt_3b067 13 = .ok (.i2c, 1) := by decide +kernel
theorem dJ1_charAt_3b067_14 : decode cJ1_charAt_3b067 14 = .ok (.ireturn, 1) := by decide +kernel
noncomputable abbrev kc_charAt : Cond := .code yJ0_charAt_5068e cJ0_charAt_5068e 2 (some .char)
set_option maxRecDepth 100000 in
theorem wc_charAt : kc_charAt ∈ wsG := tb_mem 172 rfl rfl
theorem dJ0_charAt_5068e_0 : decode cJ0_charAt_5068e 0 = .ok (.aload_n 0, 1) := by decide +kernel
theorem dJ0_charAt_5068e_1 : decode cJ0_charAt_5068e 1 = .ok (.invokevirtual 492, 3) := by decide +kernel
theorem dJ0_charAt_5068e_4 : decode cJ0_charAt_5068e 4 = .ok (.ifCond .eq 12, 3) := by decide +kernel
theorem dJ0_charAt_5068e_7 : decode cJ0_charAt_5068e 7 = .ok (.aload_n 0, 1) := by decide +kernel
theorem dJ0_charAt_5068e_8 : decode cJ0_charAt_5068e 8 = .ok (.getfield 9, 3) := by decide +kernel
theorem dJ0_charAt_5068e_11 : decode cJ0_charAt_5068e 11 = .ok (.iload_n 1, 1) := by decide +kernel
theorem dJ0_charAt_5068e_12 : decode cJ0_charAt_5068e 12 = .ok (.invokestatic 495, 3) := by decide +kernel
theorem dJ0_charAt_5068e_15 : decode cJ0_charAt_5068e 15 = .ok (.ireturn, 1) := by decide +kernel
noncomputable abbrev kc_pre : Cond := .code yJ3_checkIndex_8e157 cJ3_checkIndex_8e157 3 (some .int)
set_option maxRecDepth 100000 in
theorem wc_pre : kc_pre ∈ wsG := tb_mem 187 rfl rfl
theorem dJ3_checkIndex_8e157_0 : decode cJ3_checkIndex_8e157 0 = .ok (.iload_n 0, 1) := by decide +kernel
theorem dJ3_checkIndex_8e157_1 : decode cJ3_checkIndex_8e157 1 = .ok (.ifCond .lt 8, 3) := by decide +kernel
theorem dJ3_checkIndex_8e157_4 : decode cJ3_checkIndex_8e157 4 = .ok (.iload_n 0, 1) := by decide +kernel
theorem dJ3_checkIndex_8e157_5 : decode cJ3_checkIndex_8e157 5 = .ok (.iload_n 1, 1) := by decide +kernel
theorem dJ3_checkIndex_8e157_6 : decode cJ3_checkIndex_8e157 6 = .ok (.if_icmp .lt 10, 3) := by decide +kernel
theorem dJ3_checkIndex_8e157_16 : decode cJ3_checkIndex_8e157 16 = .ok (.iload_n 0, 1) := by decide +kernel
theorem dJ3_checkIndex_8e157_17 : decode cJ3_checkIndex_8e157 17 = .ok (.ireturn, 1) := by decide +kernel
noncomputable def rd_tx : String := "odds store times man due by has known cut split give take bake any when even holds lacks loop end stop"
set_option maxRecDepth 100000 in
theorem wt_tx : Cond.stringRef RX6 58 rd_tx ∈ lw_tbl := List.mem_of_getElem? (i := 158) (by decide +kernel)
set_option maxRecDepth 100000 in
theorem wt_cs : Cond.laysStatic "java/lang/String" "COMPACT_STRINGS" "Z" ∈ lw_tbl := List.mem_of_getElem? (i := 168) (by decide +kernel)
set_option maxRecDepth 100000 in
theorem wt_fm : Cond.laysStatic "jdk/internal/util/Preconditions" "SIOOBE_FORMATTER" "Ljava/util/function/BiFunction;" ∈ lw_tbl := List.mem_of_getElem? (i := 184) (by decide +kernel)
set_option maxRecDepth 100000 in
theorem wt_is : Cond.initialized "java/lang/String" ∈ lw_tbl := List.mem_of_getElem? (i := 123) (by decide +kernel)
set_option maxRecDepth 100000 in
theorem wt_ip : Cond.initialized "jdk/internal/util/Preconditions" ∈ lw_tbl := List.mem_of_getElem? (i := 125) (by decide +kernel)
theorem skp_start {p : Program} {s : State} {m : MethodId} {meth : Method} {c : Code} {b L : Nat} {xs : Nat → Int32} (C0 : lw_At p s m meth c b L xs) : SKp s.heap.size s := by
  obtain ⟨hx, hb, hr, hml, hown, hts, hX, hbl, hlocks, hgv⟩ := C0
  have hs := flat_of_before _ hgv
  have hA : ∀ a : Nat, a < s.heap.size → ¬ s.heap.size ≤ a := fun a h => by omega
  have z0 : ∀ i : Nat, i < 1 → i = 0 := fun i h => by omega
  have hel2 : ∀ j, j < 102 → (flatC (Jvm.Cond.and given_1 narrow_1))[52 + j]? = some (Cond.eq (.elem (.field (.string RX6 58) "java/lang/String" "value" "[B") (.int (Int32.ofNat j))) (.int (rd_by.getD j 0))) := by decide +kernel
  have hel : ∀ j, j < 102 → (Cond.eq (.elem (.field (.string RX6 58) "java/lang/String" "value" "[B") (.int (Int32.ofNat j))) (.int (rd_by.getD j 0))) ∈ flatC (Jvm.Cond.and given_1 narrow_1) := fun j hj => List.mem_of_getElem? (hel2 j hj)
  obtain ⟨adK, adV, hS, hE⟩ := vk_Sof (args := #[Value.ref b]) (s := s) (N := 1) (tm := fun _ => .string RX6 58) (len := [102]) (byt := [rd_by]) (A := fun q => s.heap.size ≤ q)
    (fun i hi => by rw [z0 i hi]; decide) (fun i hi => hs _ (by decide +kernel)) (fun i hi => hs _ (by decide +kernel)) (fun i hi => hs _ (by decide +kernel)) (fun i hi => by rw [z0 i hi]; exact hs _ (by decide +kernel))
    (fun i hi j hj => by rw [z0 i hi] at hj ⊢; exact hs _ (hel j hj)) (fun i j hi hj hn => absurd ((z0 i hi).trans (z0 j hj).symm) hn) hA
  refine ⟨rd_tx, adK 0, adV 0, rd_by, rfl, vk_R.of (hts _ wt_tx) (hE 0 (by decide)), ⟨fun i hi => ?_, fun i j hi hj _ => (z0 i hi).trans (z0 j hj).symm⟩, va_Zof (hts _ wt_cs) (hts _ wt_is) (va_eqi (hs _ (by decide +kernel))) hA, va_Zqof (hts _ wt_fm) (hts _ wt_ip) (hs _ (by decide +kernel)) hA⟩
  rw [z0 i hi]
  exact hS.1 0 (by decide)
/-! ===== the JDK's length() and charAt() of the one text ===== -/
noncomputable def nF : Nat → Prop := fun _ => False
noncomputable def SKc (aK aV : Nat) (byt : List Int32) (U : State) : Prop := vk_S 1 [102] [byt] (fun _ => aK) (fun _ => aV) nF U U.heap ∧ va_Z "java/lang/String" "COMPACT_STRINGS" "Z" (.int 1) nF U U.heap ∧ va_Zq "jdk/internal/util/Preconditions" "SIOOBE_FORMATTER" "Ljava/util/function/BiFunction;" nF U U.heap
theorem SKc.next {aK aV : Nat} {byt : List Int32} {s U : State} (hW : s.WarmedH U.vm) (hq : ∀ a : Nat, a < s.heap.size → U.heap[a]? = s.heap[a]?) (h : SKc aK aV byt s) : SKc aK aV byt U :=
  ⟨(vk_S.moved hW.alike h.1).kept (fun a h1 _ => hq a h1), (va_Z.moved hW.alike h.2.1).kept (fun a h1 _ => hq a h1), (va_Zq.moved hW.alike h.2.2).kept (fun a h1 _ => hq a h1)⟩
theorem SKc.blind {aK aV : Nat} {byt : List Int32} {av : List Value} : FrameBlind (va_Pc av (SKc aK aV byt)) := fun a U g mk q => ⟨q.1, SKc.next (s := U) (U := U.calling g mk a) (State.WarmedH.refl U) (fun _ _ => rfl) q.2⟩
noncomputable def wsY (w : Cond) : List Cond := w :: wsG
theorem wsY_in {w0 : Cond} : ∀ w ∈ wsG, w ∈ wsY w0 := fun _ h => List.mem_cons_of_mem _ h
theorem wsY_good {Ts : List Cond} {w0 : Cond} (hG : ∀ w ∈ wsG, w ∈ Ts) (hq : w0 ∈ wsG) : GoodIn Ts (wsY w0) := by
  intro w hw
  rcases List.mem_cons.mp hw with rfl | h
  · exact ⟨hG _ hq, good_of_word (wsG_good hq)⟩
  · exact ⟨hG _ h, good_of_word (wsG_good h)⟩
noncomputable abbrev QJ (P : Int32 → Prop) : Array Value → State → Outcome → State → Prop := va_Qi (fun x (_ : Unit) => P x) (fun _ _ => True) nF
theorem m_coder (l : Launch) {aK aV : Nat} {byt : List Int32} : Met l yJ0_coder_7d493 (wsY kc_coder) (rmD 1 0 0) (va_Pc [.ref aK] (SKc aK aV byt)) (QJ (fun x => x = 0)) 0 0 nF := by
  refine Met.ofW (cc := cJ0_coder_7d493) (maxL := 1) (ret := some .byte) (by decide) rfl ?_
  intro p e s m args below meth c s₁ B hml hv
  obtain ⟨rfl, hv⟩ := hv
  have hx := B.exec
  have hb := B.bytes
  have hr := B.returns
  have hts := atoms_spec (ws := wsY kc_coder) B.pre
  have hG := fun w h => hts w (wsY_in w h)
  have hown : s.vm.findClass RJ0 = some m.cls := findClass_of_methodNamed B.named
  have hlocks := B.notSynchronized
  have hl := lv_entry ([.ref aK]) (n := 1) (Nat.le_of_ble_eq_true rfl)
  rw [lg_entry_eq]
  have hS : va_S nF s.heap s.heap [] := va_S.rf
  have l0 := lv_at hl 0 (i := 0) (v := .ref aK) rfl
  refine va_gets hx hb hv.2.1 hS hown (hG _ wj_cs) (fun _ h => h) dJ0_coder_7d493_0 ?_
  refine lv_if_eq hx hb dJ0_coder_7d493_3 (tgt := 13) (by decide) (fun h => absurd h (by decide)) (fun _ => ?_)
  refine lv_aload_n hx hb dJ0_coder_7d493_6 rfl l0 ?_
  refine vk_getf hx hb (hv.1.1 0 (by decide)).2.1 hS hown (hG _ wj_co) (fun _ h => h) dJ0_coder_7d493_7 ?_
  refine lv_goto hx hb dJ0_coder_7d493_10 (tgt := 14) (by decide) ?_
  exact W.zret (ty := .byte) hx hb hr rfl (fun t ht hW => ⟨⟨0, (), rfl, rfl, trivial⟩, hS.F ht⟩) hS.2.2 dJ0_coder_7d493_14
theorem m_isLatin1 (l : Launch) {aK aV : Nat} {byt : List Int32} : Met l yJ0_isLatin1_aae02 (wsY kc_isLatin1) (rmD 1 0 0) (va_Pc [.ref aK] (SKc aK aV byt)) (QJ (fun x => x = 1)) 0 0 nF := by
  refine Met.ofW (cc := cJ0_isLatin1_aae02) (maxL := 1) (ret := some .boolean) (by decide) rfl ?_
  intro p e s m args below meth c s₁ B hml hv
  obtain ⟨rfl, hv⟩ := hv
  have hx := B.exec
  have hb := B.bytes
  have hr := B.returns
  have hts := atoms_spec (ws := wsY kc_isLatin1) B.pre
  have hG := fun w h => hts w (wsY_in w h)
  have hown : s.vm.findClass RJ0 = some m.cls := findClass_of_methodNamed B.named
  have hlocks := B.notSynchronized
  have hl := lv_entry ([.ref aK]) (n := 1) (Nat.le_of_ble_eq_true rfl)
  rw [lg_entry_eq]
  have hS : va_S nF s.heap s.heap [] := va_S.rf
  have l0 := lv_at hl 0 (i := 0) (v := .ref aK) rfl
  refine va_gets hx hb hv.2.1 hS hown (hG _ wj_cs) (fun _ h => h) dJ0_isLatin1_aae02_0 ?_
  refine lv_if_eq hx hb dJ0_isLatin1_aae02_3 (tgt := 17) (by decide) (fun h => absurd h (by decide)) (fun _ => ?_)
  refine lv_aload_n hx hb dJ0_isLatin1_aae02_6 rfl l0 ?_
  refine vk_getf hx hb (hv.1.1 0 (by decide)).2.1 hS hown (hG _ wj_co) (fun _ h => h) dJ0_isLatin1_aae02_7 ?_
  refine lv_if_ne hx hb dJ0_isLatin1_aae02_10 (tgt := 17) (by decide) (fun h => absurd rfl h) (fun _ => ?_)
  refine lv_iconst hx hb dJ0_isLatin1_aae02_13 (v := 1) (by decide) ?_
  refine lv_goto hx hb dJ0_isLatin1_aae02_14 (tgt := 18) (by decide) ?_
  exact W.zret (ty := .boolean) hx hb hr rfl (fun t ht hW => ⟨⟨1, (), rfl, rfl, trivial⟩, hS.F ht⟩) hS.2.2 dJ0_isLatin1_aae02_18
theorem m_length (l : Launch) {aK aV : Nat} {byt : List Int32} : Met l yJ0_length_8abf5 (wsY kc_length) (rmD 2 0 0) (va_Pc [.ref aK] (SKc aK aV byt)) (QJ (fun x => x = 102)) 0 0 nF := by
  refine Met.ofW (cc := cJ0_length_8abf5) (maxL := 1) (ret := some .int) (by decide) rfl ?_
  intro p e s m args below meth c s₁ B hml hv
  obtain ⟨rfl, hv⟩ := hv
  have hx := B.exec
  have hb := B.bytes
  have hr := B.returns
  have hts := atoms_spec (ws := wsY kc_length) B.pre
  have hG := fun w h => hts w (wsY_in w h)
  have hown : s.vm.findClass RJ0 = some m.cls := findClass_of_methodNamed B.named
  have hlocks := B.notSynchronized
  have hl := lv_entry ([.ref aK]) (n := 1) (Nat.le_of_ble_eq_true rfl)
  rw [lg_entry_eq]
  have hS : va_S nF s.heap s.heap [] := va_S.rf
  have l0 := lv_at hl 0 (i := 0) (v := .ref aK) rfl
  have hT : va_T .byte aV 102 (fun j => .int (byt.getD j 0)) nF s s.heap := (hv.1.1 0 (by decide)).2.2.2
  refine lv_aload_n hx hb dJ0_length_8abf5_0 rfl l0 ?_
  refine vk_getf hx hb (hv.1.1 0 (by decide)).2.2.1 hS hown (hG _ wj_va) (fun _ h => h) dJ0_length_8abf5_1 ?_
  refine va_tlen hx hb hT hS (v := 102) (by decide) dJ0_length_8abf5_4 ?_
  refine lv_aload_n hx hb dJ0_length_8abf5_5 rfl l0 ?_
  refine va_calli (va_runV (As := []) (b := aK) (rest := [.int 102]) ⟨hx, hb, hml, hown, hts⟩ (m_coder l (aK := aK) (aV := aV) (byt := byt))
    (cwV 0 hts (by unfold wsV; exact good_app (good_list wsY_in wv_coder) (wsY_good wsY_in wc_coder)) rfl rfl rfl ⟨rfl, by decide +kernel⟩ ⟨by decide, by decide⟩)
    ⟨SKc.blind, vk_recv (i := 0) hv.1 (by decide) hS, fun U hU hW => ⟨rfl, SKc.next hW (fun a _ => by rw [hU]) hv⟩⟩ rfl rfl hl.1 rfl (Nat.le_of_ble_eq_true rfl) dJ0_length_8abf5_6 ⟨Nat.le_refl _, Nat.le_refl _⟩) hS (fun _ _ h => h) (fun _ h => h) (fun x u t H1 locs1 ht hal hp hB hz hk hS1 => ?_)
  subst hp
  refine lv_ishr hx hb dJ0_length_8abf5_9 ?_
  exact W.iret hx hb hr (fun t ht hW => ⟨⟨102, (), rfl, rfl, trivial⟩, hS1.F ht⟩) hS1.2.2 dJ0_length_8abf5_10
theorem m_pre (l : Launch) {i : Int32} {v : Value} (h0 : ¬ i < 0) (h1 : i < 102) (hv0 : v = .null ∨ ∃ t, v = .ref t) : Met l yJ3_checkIndex_8e157 (wsY kc_pre) (rmD 1 0 0) (va_Pc [.int i, .int 102, v] (fun _ => True)) (QJ (fun _ => True)) 0 0 nF := by
  refine Met.ofW (cc := cJ3_checkIndex_8e157) (maxL := 3) (ret := some .int) (by decide) rfl ?_
  intro p e s m args below meth c s₁ B hml hv
  obtain ⟨rfl, hv⟩ := hv
  have hx := B.exec
  have hb := B.bytes
  have hr := B.returns
  have hlocks := B.notSynchronized
  have hl := lv_entry ([.int i, .int 102, v]) (n := 3) (by rcases hv0 with rfl | ⟨t, rfl⟩ <;> exact Nat.le_of_ble_eq_true rfl)
  rw [lg_entry_eq]
  have hS : va_S nF s.heap s.heap [] := va_S.rf
  have l0 := lv_at hl 0 (i := 0) (v := .int i) rfl
  have l1 := lv_at hl 1 (i := 1) (v := .int 102) rfl
  refine lv_iload_n hx hb dJ3_checkIndex_8e157_0 rfl l0 ?_
  refine lv_if_lt hx hb dJ3_checkIndex_8e157_1 (tgt := 9) (by decide) (fun h => absurd h h0) (fun _ => ?_)
  refine lv_iload_n hx hb dJ3_checkIndex_8e157_4 rfl l0 ?_
  refine lv_iload_n hx hb dJ3_checkIndex_8e157_5 rfl l1 ?_
  refine lv_icmp_lt hx hb dJ3_checkIndex_8e157_6 (tgt := 16) (by decide) (fun _ => ?_) (fun h => absurd h1 h)
  refine lv_iload_n hx hb dJ3_checkIndex_8e157_16 rfl l0 ?_
  exact W.iret hx hb hr (fun t ht hW => ⟨⟨i, (), rfl, trivial, trivial⟩, hS.F ht⟩) hS.2.2 dJ3_checkIndex_8e157_17
theorem m_ci (l : Launch) {aK aV : Nat} {byt : List Int32} {i : Int32} (h0 : ¬ i < 0) (h1 : i < 102) : Met l yJ0_checkIndex_df160 (wsY kc_ci) (rmD 2 0 0) (va_Pc [.int i, .int 102] (SKc aK aV byt)) (va_Qv (fun (_ : Unit) => True) (fun _ _ => True) nF) 0 0 nF := by
  refine Met.ofW (cc := cJ0_checkIndex_df160) (maxL := 2) (ret := none) (by decide) rfl ?_
  intro p e s m args below meth c s₁ B hml hv
  obtain ⟨rfl, hv⟩ := hv
  have hx := B.exec
  have hb := B.bytes
  have hr := B.returns
  have hts := atoms_spec (ws := wsY kc_ci) B.pre
  have hG := fun w h => hts w (wsY_in w h)
  have hown : s.vm.findClass RJ0 = some m.cls := findClass_of_methodNamed B.named
  have hlocks := B.notSynchronized
  have hl := lv_entry ([.int i, .int 102]) (n := 2) (Nat.le_of_ble_eq_true rfl)
  rw [lg_entry_eq]
  have hS : va_S nF s.heap s.heap [] := va_S.rf
  have l0 := lv_at hl 0 (i := 0) (v := .int i) rfl
  have l1 := lv_at hl 1 (i := 1) (v := .int 102) rfl
  refine lv_iload_n hx hb dJ0_checkIndex_df160_0 rfl l0 ?_
  refine lv_iload_n hx hb dJ0_checkIndex_df160_1 rfl l1 ?_
  have key : ∀ v : Value, (v = .null ∨ ∃ t, v = .ref t) → va_Z "jdk/internal/util/Preconditions" "SIOOBE_FORMATTER" "Ljava/util/function/BiFunction;" v nF s s.heap → W p l e (rmD 2 0 0) s m ([.int i, .int 102] : List Value).toArray below meth c s.heap [] 0 0 (MQ below (va_Qv (fun (_ : Unit) => True) (fun _ _ => True) nF) ([.int i, .int 102] : List Value).toArray s 0 0 nF) (F0 m 2 ((lg_sl ([.int i, .int 102] : List Value) ++ List.replicate (2 - (lg_sl ([.int i, .int 102] : List Value)).length) Slot.unset).toArray) [.int 102, .int i]) := by
    intro v hv0 hZ
    refine va_gets hx hb hZ hS hown (hG _ wj_fm) (fun _ h => h) dJ0_checkIndex_df160_2 ?_
    refine va_calli (va_runS (As := [.int i, .int 102, v]) (rest := []) ⟨hx, hb, hml, hown, hts⟩ (m_pre l h0 h1 hv0)
      (va_cwS 3 hts (by unfold va_wsS; exact good_app (good_list wsY_in ws_pre) (wsY_good wsY_in wc_pre)) rfl rfl rfl (by decide +kernel) ⟨by decide, by decide⟩)
      ⟨fun a U g mk q => q, fun U hU hW => ⟨rfl, trivial⟩⟩ rfl rfl hl.1 rfl (Nat.le_of_ble_eq_true rfl) dJ0_checkIndex_df160_5 ⟨Nat.le_refl _, Nat.le_refl _⟩) hS (fun _ _ h => h) (fun _ h => h) (fun x u t H1 locs1 ht hal hp hB hz hk hS1 => ?_)
    refine lv_pop hx hb dJ0_checkIndex_df160_8 rfl ?_
    exact W.vret hx hb hr (fun t ht hW => ⟨⟨(), rfl, trivial, trivial⟩, hS1.F ht⟩) hS1.2.2 dJ0_checkIndex_df160_9
  rcases hv.2.2 with hZ | ⟨t, hZ⟩
  · exact key .null (Or.inl rfl) hZ
  · exact key (.ref t) (Or.inr ⟨t, rfl⟩) hZ
theorem m_c1 (l : Launch) {aK aV : Nat} {byt : List Int32} {i : Int32} (h0 : ¬ i < 0) (h1 : i < 102) : Met l yJ1_charAt_3b067 (wsY kc_c1) (rmD 3 0 0) (va_Pc [.ref aV, .int i] (SKc aK aV byt)) (QJ (fun x => x = byt.getD i.toNatClampNeg 0 &&& 255)) 0 0 nF := by
  refine Met.ofW (cc := cJ1_charAt_3b067) (maxL := 2) (ret := some .char) (by decide) rfl ?_
  intro p e s m args below meth c s₁ B hml hv
  obtain ⟨rfl, hv⟩ := hv
  have hx := B.exec
  have hb := B.bytes
  have hr := B.returns
  have hts := atoms_spec (ws := wsY kc_c1) B.pre
  have hown : s.vm.findClass RJ1 = some m.cls := findClass_of_methodNamed B.named
  have hlocks := B.notSynchronized
  have hl := lv_entry ([.ref aV, .int i]) (n := 2) (Nat.le_of_ble_eq_true rfl)
  rw [lg_entry_eq]
  have hS : va_S nF s.heap s.heap [] := va_S.rf
  have l0 := lv_at hl 0 (i := 0) (v := .ref aV) rfl
  have l1 := lv_at hl 1 (i := 1) (v := .int i) rfl
  have hT : va_T .byte aV 102 (fun j => .int (byt.getD j 0)) nF s s.heap := (hv.1.1 0 (by decide)).2.2.2
  refine lv_iload_n hx hb dJ1_charAt_3b067_0 rfl l1 ?_
  refine lv_aload_n hx hb dJ1_charAt_3b067_1 rfl l0 ?_
  refine va_tlen hx hb hT hS (v := 102) (by decide) dJ1_charAt_3b067_2 ?_
  refine va_callv (va_runS (As := [.int i, .int 102]) (rest := []) ⟨hx, hb, hml, hown, hts⟩ (m_ci l (aK := aK) (aV := aV) (byt := byt) h0 h1)
    (va_cwS 2 hts (by unfold va_wsS; exact good_app (good_list wsY_in ws_ci) (wsY_good wsY_in wc_ci)) rfl rfl rfl (by decide +kernel) ⟨by decide, by decide⟩)
    ⟨SKc.blind, fun U hU hW => ⟨rfl, SKc.next hW (fun a _ => by rw [hU]) hv⟩⟩ rfl rfl hl.1 rfl (Nat.le_of_ble_eq_true rfl) dJ1_charAt_3b067_3 ⟨Nat.le_refl _, Nat.le_refl _⟩) hS (fun _ _ h => h) (fun _ h => h) (fun u t H1 locs1 ht hal hp hB hz hk hS1 => ?_)
  refine lv_aload_n hx hb dJ1_charAt_3b067_6 rfl l0 ?_
  refine lv_iload_n hx hb dJ1_charAt_3b067_7 rfl l1 ?_
  have hin : vp_in i 102 := by
    have e1 : ¬ i.toInt < 0 := fun z => h0 (Int32.lt_iff_toInt_lt.mpr z)
    have e2 : i.toInt < 102 := Int32.lt_iff_toInt_lt.mp h1
    exact vp_in_iff.mpr ⟨by omega, by omega⟩
  refine va_tb hx hb hT hS1 hin rfl dJ1_charAt_3b067_8 ?_
  refine lv_sipush hx hb dJ1_charAt_3b067_9 (v := 255) (by decide) ?_
  refine lv_iand hx hb dJ1_charAt_3b067_12 ?_
  refine lv_i2c hx hb dJ1_charAt_3b067_13 (sc_c2 _) ?_
  exact W.zret (ty := .char) hx hb hr (sc_nar _) (fun t ht hW => ⟨⟨_, (), rfl, rfl, trivial⟩, hS1.F ht⟩) hS1.2.2 dJ1_charAt_3b067_14
theorem m_charAt (l : Launch) {aK aV : Nat} {byt : List Int32} {i : Int32} (h0 : ¬ i < 0) (h1 : i < 102) : Met l yJ0_charAt_5068e (wsY kc_charAt) (rmD 4 0 0) (va_Pc [.ref aK, .int i] (SKc aK aV byt)) (QJ (fun x => x = byt.getD i.toNatClampNeg 0 &&& 255)) 0 0 nF := by
  refine Met.ofW (cc := cJ0_charAt_5068e) (maxL := 2) (ret := some .char) (by decide) rfl ?_
  intro p e s m args below meth c s₁ B hml hv
  obtain ⟨rfl, hv⟩ := hv
  have hx := B.exec
  have hb := B.bytes
  have hr := B.returns
  have hts := atoms_spec (ws := wsY kc_charAt) B.pre
  have hG := fun w h => hts w (wsY_in w h)
  have hown : s.vm.findClass RJ0 = some m.cls := findClass_of_methodNamed B.named
  have hlocks := B.notSynchronized
  have hl := lv_entry ([.ref aK, .int i]) (n := 2) (Nat.le_of_ble_eq_true rfl)
  rw [lg_entry_eq]
  have hS : va_S nF s.heap s.heap [] := va_S.rf
  have l0 := lv_at hl 0 (i := 0) (v := .ref aK) rfl
  have l1 := lv_at hl 1 (i := 1) (v := .int i) rfl
  refine lv_aload_n hx hb dJ0_charAt_5068e_0 rfl l0 ?_
  refine va_calli (va_runV (As := []) (b := aK) (rest := []) ⟨hx, hb, hml, hown, hts⟩ (m_isLatin1 l (aK := aK) (aV := aV) (byt := byt))
    (cwV 0 hts (by unfold wsV; exact good_app (good_list wsY_in wv_isLatin1) (wsY_good wsY_in wc_isLatin1)) rfl rfl rfl ⟨rfl, by decide +kernel⟩ ⟨by decide, by decide⟩)
    ⟨SKc.blind, vk_recv (i := 0) hv.1 (by decide) hS, fun U hU hW => ⟨rfl, SKc.next hW (fun a _ => by rw [hU]) hv⟩⟩ rfl rfl hl.1 rfl (Nat.le_of_ble_eq_true rfl) dJ0_charAt_5068e_1 ⟨Nat.le_refl _, Nat.le_refl _⟩) hS (fun _ _ h => h) (fun _ h => h) (fun x u t H1 locs1 ht hal hp hB hz hk hS1 => ?_)
  subst hp
  refine lv_if_eq hx hb dJ0_charAt_5068e_4 (tgt := 16) (by decide) (fun h => absurd h (by decide)) (fun _ => ?_)
  refine lv_aload_n hx hb dJ0_charAt_5068e_7 rfl l0 ?_
  refine vk_getf hx hb (hv.1.1 0 (by decide)).2.2.1 hS1 hown (hG _ wj_va) (fun _ h => h) dJ0_charAt_5068e_8 ?_
  refine lv_iload_n hx hb dJ0_charAt_5068e_11 rfl l1 ?_
  refine va_calli (va_runS (As := [.ref aV, .int i]) (rest := []) ⟨hx, hb, hml, hown, hts⟩ (m_c1 l (aK := aK) (aV := aV) (byt := byt) h0 h1)
    (va_cwS 2 hts (by unfold va_wsS; exact good_app (good_list wsY_in ws_c1) (wsY_good wsY_in wc_c1)) rfl rfl rfl (by decide +kernel) ⟨by decide, by decide⟩)
    ⟨SKc.blind, fun U hU hW => ⟨rfl, SKc.next hW (fun a ha => by rw [hU]; exact hk a ha (fun z => z)) hv⟩⟩ rfl rfl hl.1 rfl (Nat.le_of_ble_eq_true rfl) dJ0_charAt_5068e_12 ⟨Nat.le_refl _, Nat.le_refl _⟩) hS1 (fun _ _ h => h) (fun _ h => h) (fun x u t H2 locs2 ht2 hal2 hp2 hB2 hz2 hk2 hS2 => ?_)
  exact W.zret (ty := .char) hx hb hr (by rw [hp2]; exact sc_nar _) (fun t ht hW => ⟨⟨x, (), rfl, hp2, trivial⟩, hS2.F ht⟩) hS2.2.2 dJ0_charAt_5068e_15
end PT16x6
section PT16x7
/-! ===== the plate: the scribe's table ===== -/
/-! ===== and the reference's ===== -/
noncomputable def rc (f : Nat → Int32) (n : Nat) (N : Im) (M k : Nat) : Prop := M.testBit k = false ∧ smN f n (M ||| 2 ^ k) ≤ 2329089562800 ∧ (N 110 (M ||| 2 ^ k)).toInt < 0
end PT16x7
section PT16x8
/-! ===== the Reader's constructor keeps its contract ===== -/
theorem rd_three {o : Nat} (h : isO o o 6 = true) : o = 3 := by
  obtain ⟨h1, -, h3⟩ := isO_spec h
  by_cases hq : o - 1 < 112
  · have all : ∀ k, k < 112 → (shl.getD k (999, 0)).1 = 6 → k = 2 := by decide +kernel
    have := all (o - 1) hq h3
    omega
  · rw [sh_out (by omega)] at h3
    cases h3
theorem metd0 (l : Launch) : MetD l 0 := fun _ _ _ _ _ _ _ _ _ _ _ _ _ hM => hM.elim
set_option maxRecDepth 100000 in
theorem rs_85 {Q : Nat → Qt} {P : Kt} (hc : Cl (AM 0) false false 0 (fun _ => 0) 0 5 kRd Q P) (v1 v2 : Int32) (I : Im) (J : Jm) (R : Rm) (h : P 86 5 [(0, .ref 3), (1, .int v1), (2, .int v2)] [.int v2] I J R) : P 85 5 [(0, .ref 3), (1, .int v1), (2, .int v2)] [] I J R :=
  run_at (AM_m 0) hc (stops := [(86, [0, 1, 2])]) (k := 3) h
set_option maxRecDepth 100000 in
theorem rs_91 {Q : Nat → Qt} {P : Kt} (hc : Cl (AM 0) false false 0 (fun _ => 0) 0 5 kRd Q P) (v1 v2 : Int32) (I : Im) (J : Jm) (R : Rm) (h : ((102 : Int32) ≤ v2 → Q 5 0 0 I J R) ∧ (¬ (102 : Int32) ≤ v2 → P 94 5 [(0, .ref 3), (1, .int v1), (2, .int v2)] [] I J R)) : P 91 5 [(0, .ref 3), (1, .int v1), (2, .int v2)] [.int 102, .int v2] I J R :=
  run_at (AM_m 0) hc (stops := [(94, [0, 1, 2])]) (k := 5) h
set_option maxRecDepth 100000 in
theorem rs_100 {Q : Nat → Qt} {P : Kt} (hc : Cl (AM 0) false false 0 (fun _ => 0) 0 5 kRd Q P) (v1 v2 x : Int32) (I : Im) (J : Jm) (R : Rm)
    (h : (¬ x = 32 → ((21 : Int32) < v1 → P 85 5 [(0, .ref 3), (1, .int v1), (2, .int (v2 + 1))] [] I J R) ∧ (¬ (21 : Int32) < v1 → (¬ R 3 2 = 0 ∧ (¬ R 3 2 = 0 ∧ (vp_in v1 22 ∧ (vp_in v1 22 ∧ P 85 5 [(0, .ref 3), (1, .int v1), (2, .int (v2 + 1))] [] I (uJ J 5 v1.toNatClampNeg (J 5 v1.toNatClampNeg * 32 + (x - 97 + 1).toInt64)) R)))))) ∧ (x = 32 → P 85 5 [(0, .ref 3), (1, .int (v1 + 1)), (2, .int (v2 + 1))] [] I J R)) : P 100 5 [(0, .ref 3), (1, .int v1), (2, .int v2)] [.int x] I J R :=
  run_at (AM_m 0) hc (stops := [(85, [0, 1, 2])]) (k := 40) h
noncomputable def rdI (I : Im) : Im := uI (uI (uI (uI (uI (uI (uI (uI (uI (uI (zI (uI (zI I 4) 3 1 0) 5) 3 3 0) 3 4 0) 3 5 0) 3 6 0) 3 7 0) 3 8 0) 3 9 (-1)) 3 11 0) 3 12 0) 3 13 (-1)
noncomputable def rdJ (J : Jm) : Jm := uJ (zJ (zJ J 4) 5) 3 10 0
noncomputable def rdR (R : Rm) : Rm := uR (zR (uR (zR R 4) 3 0 4) 5) 3 2 5
set_option maxRecDepth 100000 in
theorem rs_0 {Q : Nat → Qt} {P : Kt} (hc : Cl (AM 0) false false 0 (fun _ => 0) 0 5 kRd Q P) (I : Im) (J : Jm) (R : Rm)
    (h : P 85 5 [(0, .ref 3), (1, .int 1), (2, .int 0)] [] (rdI I) (rdJ J) (rdR R)) : P 0 3 [(0, .ref 3)] [] I J R :=
  run_at (AM_m 0) hc (stops := [(85, [0, 1, 2])]) (k := 60) ⟨rfl, rfl, Or.inl rfl, h⟩
/-- the words of the text, as numbers, by its letters -/
noncomputable def rdC (i : Nat) : Int32 := rd_by.getD i 0 &&& 255
noncomputable def rdN : Nat → Nat
  | 0 => 1
  | i + 1 => if rdC i = 32 then rdN i + 1 else rdN i
noncomputable def rdA : Nat → Nat → Int64
  | 0, _ => 0
  | i + 1, k => if rdC i = 32 then rdA i k else (if k = rdN i then rdA i k * 32 + (rdC i - 97 + 1).toInt64 else rdA i k)
set_option maxRecDepth 100000 in
theorem rdN_in : ∀ i, i < 103 → 1 ≤ rdN i ∧ rdN i ≤ 21 := by decide +kernel
set_option maxRecDepth 100000 in
theorem rdA_rsv : ∀ k, k < 22 → rdA 102 k = rsv.getD k 0 := by decide +kernel
theorem rd_loop {Q : Nat → Qt} {P : Kt} (hc : Cl (AM 0) false false 0 (fun _ => 0) 0 5 kRd Q P) {I : Im} {J0 : Jm} {R : Rm} (hR : ¬ R 3 2 = 0)
    (hL : ∀ (v1 v2 : Int32) (J : Jm), P 91 5 [(0, .ref 3), (1, .int v1), (2, .int v2)] [.int 102, .int v2] I J R → P 86 5 [(0, .ref 3), (1, .int v1), (2, .int v2)] [.int v2] I J R)
    (hC : ∀ (v1 v2 : Int32) (J : Jm), ¬ v2 < 0 → v2 < 102 → P 100 5 [(0, .ref 3), (1, .int v1), (2, .int v2)] [.int (rd_by.getD v2.toNatClampNeg 0 &&& 255)] I J R → P 94 5 [(0, .ref 3), (1, .int v1), (2, .int v2)] [] I J R)
    (hQ : ∀ J : Jm, (∀ i, i ≠ 5 → J i = J0 i) → (∀ k, k < 22 → J 5 k = rsv.getD k 0) → Q 5 0 0 I J R) : ∀ (m i : Nat) (J : Jm), i + m = 102 → (∀ i, i ≠ 5 → J i = J0 i) → (∀ k, k < 22 → J 5 k = rdA i k) → P 85 5 [(0, .ref 3), (1, .int (nI (rdN i))), (2, .int (nI i))] [] I J R := by
  intro m
  induction m with
  | zero =>
    intro i J hi hJ hA
    obtain rfl : i = 102 := by omega
    exact rs_85 hc _ _ _ _ _ (hL _ _ _ (rs_91 hc _ _ _ _ _ ⟨fun _ => hQ J hJ (fun k hk => by rw [hA k hk]; exact rdA_rsv k hk), fun c => absurd (by decide) c⟩))
  | succ m ih =>
    intro i J hi hJ hA
    have hn := rdN_in i (by omega)
    refine rs_85 hc _ _ _ _ _ (hL _ _ _ (rs_91 hc _ _ _ _ _ ⟨fun c => absurd c (nI_ge (a := i) (b := 102) (by omega) (by omega)), fun _ => ?_⟩))
    refine hC _ _ _ (nI_pos (by omega)) (nI_lt (a := i) (b := 102) (by omega) (by omega)) (rs_100 hc _ _ _ _ _ _ ?_)
    rw [nI_clamp (by omega), nI_clamp (by omega), ← nI_succ, ← nI_succ]
    change (¬ rdC i = 32 → _) ∧ (rdC i = 32 → _)
    have hv : vp_in (nI (rdN i)) 22 := vp_of (nI_toInt (by omega)) (by omega) (by omega)
    refine ⟨fun c => ⟨fun c2 => absurd c2 (nI_nlt (a := 21) (b := rdN i) (by omega) (by omega)), fun _ => ⟨hR, hR, hv, hv, ?_⟩⟩, fun c => ?_⟩
    · have e1 : rdN (i + 1) = rdN i := by
        show (if rdC i = 32 then rdN i + 1 else rdN i) = rdN i
        rw [if_neg c]
      have := ih (i + 1) (uJ J 5 (rdN i) (J 5 (rdN i) * 32 + (rdC i - 97 + 1).toInt64)) (by omega) (fun j hj => (uJ_ne hj).trans (hJ j hj)) (fun k hk => by
        show _ = (if rdC i = 32 then rdA i k else (if k = rdN i then rdA i k * 32 + (rdC i - 97 + 1).toInt64 else rdA i k))
        rw [if_neg c]
        by_cases q : k = rdN i
        · subst q; rw [if_pos rfl, ← hA _ hk]; simp [uJ, vp_updL]
        · rw [if_neg q, ← hA _ hk]; simp [uJ, vp_updL, q])
      rw [e1] at this; exact this
    · have e1 : rdN (i + 1) = rdN i + 1 := by
        show (if rdC i = 32 then rdN i + 1 else rdN i) = rdN i + 1
        rw [if_pos c]
      have := ih (i + 1) J (by omega) hJ (fun k hk => by
        show _ = (if rdC i = 32 then rdA i k else (if k = rdN i then rdA i k * 32 + (rdC i - 97 + 1).toInt64 else rdA i k))
        rw [if_pos c]; exact hA k hk)
      rw [e1] at this; exact this
set_option maxRecDepth 100000 in
theorem dx_86 : decode cX6_init 86 = .ok (.ldc 58, 2) := by decide +kernel
set_option maxRecDepth 100000 in
theorem dx_88 : decode cX6_init 88 = .ok (.invokevirtual 60, 3) := by decide +kernel
set_option maxRecDepth 100000 in
theorem dx_94 : decode cX6_init 94 = .ok (.ldc 58, 2) := by decide +kernel
set_option maxRecDepth 100000 in
theorem dx_96 : decode cX6_init 96 = .ok (.iload_n 2, 1) := by decide +kernel
set_option maxRecDepth 100000 in
theorem dx_97 : decode cX6_init 97 = .ok (.invokevirtual 66, 3) := by decide +kernel
theorem rd_row : mQ mReader = (kX6_init, yX6_init, cX6_init, none, [4, 0, 2, 0, 0, 6, 1, 1, 1]) := rfl
set_option maxHeartbeats 4000000 in
theorem met_reader (l : Launch) : MetR l := by
  intro d D ca h0 b n as I J R Q h
  obtain ⟨o, rfl, hO, ⟨hA1, hA2, hA3, hA4, hno⟩, hQ⟩ := h
  obtain rfl : n = o := by omega
  obtain rfl := rd_three hO
  rw [rd_row]
  show Met l yX6_init (Cond.code yX6_init cX6_init 4 none :: wsG) (rmD (d + 6) 2 (sl (3 + 2) - sl 3)) (va_Pc [.ref (ad h0 b 3)] (fun U => Wok D ca h0 b 3 I J R U)) (mPost D ca h0 b (3 + 2) 0 0 R Q (mFree ca h0 b 3 I J R)) 2 (sl (3 + 2) - sl 3) (mFree ca h0 b 3 I J R)
  refine Met.ofW (cc := cX6_init) (maxL := 4) (ret := none) (by decide) rfl ?_
  intro p e s m args below meth c s₁ B hml hv
  obtain ⟨rfl, hsz, hP, hK, hNN, hSK⟩ := hv
  have hx := B.exec
  have hb := B.bytes
  have hr := B.returns
  have hts := atoms_spec (ws := Cond.code yX6_init cX6_init 4 none :: wsG) B.pre
  have hown : s.vm.findClass RX6 = some m.cls := findClass_of_methodNamed B.named
  have hlocks := B.notSynchronized
  have hA : ∀ q : Nat, h0 ≤ q → mFree ca h0 b 3 I J R q := fun q h => mFree_ge.mpr h
  have hIn : ∀ w ∈ wsG, w ∈ (Cond.code yX6_init cX6_init 4 none :: wsG) := fun w hw => List.mem_cons_of_mem _ hw
  have hC : Ctx p (rmD (d + 6) 2 (sl (3 + 2) - sl 3)) s m ([.ref (ad h0 b 3)] : List Value).toArray meth c RX6 cX6_init 4 1 (Cond.code yX6_init cX6_init 4 none :: wsG) D ca h0 b 3 5 0 (mFree ca h0 b 3 I J R) false (fun _ => 0) :=
    ⟨hx, hb, hml, hown, hts, hIn, hK, ⟨hNN, hSK, fun q h => mFree_ge.mp h⟩, hA, hsz, fun _ => (name_of_methodNamed B.named B.method).1, ⟨Nat.le_refl _, Nat.le_refl _⟩, ⟨by show 1 ≤ d + 6; omega, by show 64 ≤ 64 * (d + 6); omega⟩, fun q => by cases q⟩
  have hS0 : va_S (mFree ca h0 b 3 I J R) s.heap s.heap [] := va_S.rf
  have hRet : RetOk p l e (rmD (d + 6) 2 (sl (3 + 2) - sl 3)) s m ([.ref (ad h0 b 3)] : List Value).toArray below meth c (MQ below (mPost D ca h0 b (3 + 2) 0 0 R Q (mFree ca h0 b 3 I J R)) ([.ref (ad h0 b 3)] : List Value).toArray s 2 (sl (3 + 2) - sl 3) (mFree ca h0 b 3 I J R)) cX6_init D ca h0 b 3 (mFree ca h0 b 3 I J R) 0 (fun n' x y I' J' R' => n' = 5 ∧ Q x y I' J' R') := by
    intro pc n' I' J' R' H locs ls hn hP' hS'
    refine ⟨fun hk hdg hq => ?_, fun hk => by omega, fun hk => by omega⟩
    obtain ⟨rfl, hq⟩ := hq
    refine W_cs2 (n := 3) (al := 2) hsz hP' hS' (fun hz => ?_)
    exact W.vret hx hb hr (fun t ht hW => ⟨⟨(I', J', R'), rfl, ⟨(fun z => by cases z), hq⟩, by rw [ht]; exact hz, by rw [ht]; exact hP'⟩, hS'.F ht⟩) hS'.2.2 hdg
  have hc : Cl (AM 0) false false 0 (fun _ => 0) 0 5 kRd (fun n' x y I' J' R' => n' = 5 ∧ Q x y I' J' R') (PW p l e (rmD (d + 6) 2 (sl (3 + 2) - sl 3)) s m ([.ref (ad h0 b 3)] : List Value).toArray below meth c (MQ below (mPost D ca h0 b (3 + 2) 0 0 R Q (mFree ca h0 b 3 I J R)) ([.ref (ad h0 b 3)] : List Value).toArray s 2 (sl (3 + 2) - sl 3) (mFree ca h0 b 3 I J R)) 4 D ca h0 b 3 (mFree ca h0 b 3 I J R) false) :=
    ⟨fun en hen n' lv st I' J' R' h => step_ok (isl := false) (xs := fun _ => 0) (L := 0) hC (metd0 l) ⟨by show 0 + 1 ≤ d + 6; omega, by show 64 * (0 + 1) ≤ 64 * (d + 6); omega⟩ qRk_le hRet (rd_okE en hen) (rd_need en hen) h, fun pc n' ks lv st I' J' R' h => PW_pk h⟩
  obtain ⟨tx, aK, aV, byt0, hby, hk1, hk2, hk3, hk4⟩ := hSK
  subst hby
  have hU0 : ∀ (H : Heap) (locs : List Loc), va_S (mFree ca h0 b 3 I J R) s.heap H locs → ∀ U : State, U.heap = H → s.WarmedH U.vm → SKc aK aV rd_by U := by
    intro H locs hS U hU hW
    have hq : ∀ a : Nat, a < s.heap.size → ¬ h0 ≤ a → U.heap[a]? = s.heap[a]? := fun a h1 h2 => by rw [hU]; exact hS.2.1 a h1 (fun z => h2 (mFree_ge.mp z))
    exact ⟨((vk_S.moved hW.alike hk2).kept hq).narrow (fun _ z => z.elim), ((va_Z.moved hW.alike hk3).kept hq).narrow (fun _ z => z.elim), ((va_Zq.moved hW.alike hk4).kept hq).narrow (fun _ z => z.elim)⟩
  have hk2' : vk_S 1 [102] [rd_by] (fun _ => aK) (fun _ => aV) (mFree ca h0 b 3 I J R) s s.heap := hk2.narrow (fun q z => mFree_ge.mp z)
  have key := rs_0 hc I J R (rd_loop hc (I := rdI I) (J0 := rdJ J) (R := rdR R) (show ¬ (5 : Nat) = 0 by decide) ?_ ?_ ?_ 102 0 (rdJ J) (by decide) (fun _ _ => rfl) (fun _ _ => rfl))
  · have hl := lv_entry ([.ref (ad h0 b 3)] : List Value) (n := 4) (Nat.le_of_ble_eq_true rfl)
    rw [lg_entry_eq]
    exact key s.heap [] _ (Nat.le_refl 3) (fun q => by cases q) hP hS0 hl
  · intro v1 v2 J1 h H locs ls hn hph hP hS hl
    refine va_ldcS hx hb hown hk1 dx_86 ?_
    refine va_calli (va_runV (As := []) (b := aK) (rest := [.int v2]) ⟨hx, hb, hml, hown, hts⟩ (m_length l (aK := aK) (aV := aV) (byt := rd_by))
      (cwV 0 hts (by unfold wsV; exact good_app (good_list hIn wv_length) (wsY_good hIn wc_length)) rfl rfl rfl ⟨rfl, by decide +kernel⟩ ⟨by show 2 + 1 ≤ d + 6; omega, by show 8 + (1 + 11) + 64 * 2 ≤ 64 * (d + 6); omega⟩)
      ⟨SKc.blind, vk_recv (i := 0) hk2' (by decide) hS, fun U hU hW => ⟨rfl, hU0 H locs hS U hU hW⟩⟩ rfl rfl hl.1 rfl (Nat.le_of_ble_eq_true rfl) dx_88 ⟨?_, ?_⟩) hS (fun _ _ h => h.elim) (fun _ h => h.elim) (fun x u t H1 locs1 ht hal hp hB hz hk hS1 => ?_)
    · show 5 - 3 + 0 ≤ 2; omega
    · exact Nat.le_refl _
    · subst hp
      exact h H1 locs1 ls hn hph (hP.kept (fun k x hx => hk x.1 (hP k x hx).lt (fun z => z))) hS1 hl
  · intro v1 v2 J1 hv0 hv1 h H locs ls hn hph hP hS hl
    refine va_ldcS hx hb hown hk1 dx_94 ?_
    refine lv_iload_n hx hb dx_96 (i := 2) (x := v2) rfl (lv_gt (v := .int v2) hl rfl (by intro q; cases q)) ?_
    refine va_calli (va_runV (As := [.int v2]) (b := aK) (rest := []) ⟨hx, hb, hml, hown, hts⟩ (m_charAt l (aK := aK) (aV := aV) (byt := rd_by) hv0 hv1)
      (cwV 1 hts (by unfold wsV; exact good_app (good_list hIn wv_charAt) (wsY_good hIn wc_charAt)) rfl rfl rfl ⟨rfl, by decide +kernel⟩ ⟨by show 4 + 1 ≤ d + 6; omega, by show 8 + (2 + 11) + 64 * 4 ≤ 64 * (d + 6); omega⟩)
      ⟨SKc.blind, vk_recv (i := 0) hk2' (by decide) hS, fun U hU hW => ⟨rfl, hU0 H locs hS U hU hW⟩⟩ rfl rfl hl.1 rfl (Nat.le_of_ble_eq_true rfl) dx_97 ⟨?_, ?_⟩) hS (fun _ _ h => h.elim) (fun _ h => h.elim) (fun x u t H1 locs1 ht hal hp hB hz hk hS1 => ?_)
    · show 5 - 3 + 0 ≤ 2; omega
    · exact Nat.le_refl _
    · subst hp
      exact h H1 locs1 ls hn hph (hP.kept (fun k x hx => hk x.1 (hP k x hx).lt (fun z => z))) hS1 hl
  · intro J1 hJ hA
    refine ⟨rfl, hQ (rdI I) J1 (rdR R) (fun i h1 h2 h3 => ?_) (fun i h1 h2 h3 => ?_) (fun i h1 h2 h3 => ?_) ⟨fun k => rfl, rfl, rfl, rfl, rfl, rfl, rfl, rfl, rfl, rfl, rfl, ?_, rfl, rfl, rfl, hA⟩⟩
    · simp only [rdI, uI_ne h1, zI_ne h2, zI_ne h3]
    · rw [hJ i h3]
      simp only [rdJ, uJ_ne h1, zJ_ne h2, zJ_ne h3]
    · simp only [rdR, uR_ne h1, zR_ne h2, zR_ne h3]
    · rw [hJ 3 (by decide)]
      rfl
end PT16x8
section PT16x9
noncomputable def RA (a b : Int32) : Int := 100 * (a.toInt - b.toInt)
noncomputable def RB (a b c : Int32) : Int := 100 * (a.toInt - b.toInt) - 60 + c.toInt
theorem ra_nn6 {a b : Int32} (h : b.toInt ≤ a.toInt) : 0 ≤ RA a b := by unfold RA; omega
theorem rb_nn6 {a b c : Int32} (h : b.toInt < a.toInt) (h2 : 0 ≤ c.toInt) : 0 ≤ RB a b c := by unfold RB; omega
theorem rb_lt60 {a b c : Int32} (h : c.toInt ≤ 30) : RB a b c < RA a b := by unfold RA RB; omega
theorem rb_lt6 {a b c e : Int32} (h : e.toInt < c.toInt) : RB a b e < RB a b c := by unfold RB; omega
theorem ra_lt6 {a b c e : Int32} (h : e.toInt = b.toInt + 1) (hc : 0 ≤ c.toInt) : RA a e < RB a b c := by unfold RA RB; omega
theorem ms_lt6 {a b : Int} {n : Nat} (h1 : a < b) (h2 : b < ((n + 1 : Nat) : Int)) : a < (n : Int) := by omega
theorem ra_ub62 (a b : Int32) : RA a b < ((900000000000 : Nat) : Int) := by have := i32 a; have := i32 b; unfold RA; omega
theorem in4 {v2 v4 : Int32} (h3 : 0 ≤ v4.toInt) (h4 : v4.toInt < v2.toInt) : (v4 + 1 : Int32).toInt = v4.toInt + 1 := ti_add rfl rfl (by have := i32 v2; omega)
theorem le30 {a : Int} (h : a ≤ 30) : a < ((31 : Nat) : Int) := by omega
theorem le1 {a : Int} (h : 1 ≤ a) : 0 ≤ a := by omega
theorem dc_v6 {v6 : Int32} (h6 : 1 ≤ v6.toInt) : (v6 + (-1) : Int32).toInt = v6.toInt + (-1) := ti_add rfl rfl (by have := i32 v6; omega)
theorem rn_dc6 {M : Im} {v3 v5 v6 : Int32} (h : RN M v3 v5 v6) (h6 : 1 ≤ v6.toInt) (hne : (M 108 v6.toNatClampNeg).toInt = (M 108 v3.toNatClampNeg).toInt - 1 → CO v3 v6 → False) : RN M v3 v5 (v6 + (-1)) := by
  rcases h with z | ⟨z, e, e1, e2, e0, e3, e4⟩
  · exact Or.inl z
  · have y : ¬ e = v6 := fun q => by subst q; exact hne e3 e4
    have y2 : ¬ e.toInt = v6.toInt := fun w => y (Int32.toInt_inj.mp w)
    have y3 : e.toInt ≤ v6.toInt + (-1) := by clear e3 e4 hne; omega
    exact Or.inr ⟨z, e, e1, (by rw [dc_v6 h6]; exact y3), e0, e3, e4⟩
theorem rn_nw6 {M : Im} {v3 v6 : Int32} (h6 : 1 ≤ v6.toInt) (h7 : v6.toInt ≤ 30) (h : (M 108 v6.toNatClampNeg).toInt = (M 108 v3.toNatClampNeg).toInt - 1) : RN M v3 v6 (v6 + (-1)) := Or.inl ⟨h6, h7, h⟩
theorem iv_dc6 {v2 v3 v4 v6 : Int32} (h : 1 ≤ v3.toInt ∧ v3.toInt ≤ 30 ∧ 0 ≤ v4.toInt ∧ v4.toInt < v2.toInt ∧ 0 ≤ v6.toInt ∧ v6.toInt ≤ 30 ∧ 0 ≤ RB v2 v4 v6) (h6 : 1 ≤ v6.toInt) : 1 ≤ v3.toInt ∧ v3.toInt ≤ 30 ∧ 0 ≤ v4.toInt ∧ v4.toInt < v2.toInt ∧ 0 ≤ (v6 + (-1) : Int32).toInt ∧ (v6 + (-1) : Int32).toInt ≤ 30 ∧ 0 ≤ RB v2 v4 (v6 + (-1)) := by
  obtain ⟨a1, a2, a3, a4, a5, a6, -⟩ := h
  have z : 0 ≤ (v6 + (-1) : Int32).toInt := (by rw [dc_v6 h6]; omega)
  exact ⟨a1, a2, a3, a4, z, (by clear z; rw [dc_v6 h6]; omega), rb_nn6 a4 z⟩
theorem ms_dc6 {v2 v4 v6 : Int32} {n : Nat} (h6 : 1 ≤ v6.toInt) (hm : RB v2 v4 v6 < ((n + 1 : Nat) : Int)) : RB v2 v4 (v6 + (-1)) < (n : Int) := ms_lt6 (rb_lt6 (by clear hm; rw [dc_v6 h6]; omega)) hm
theorem rd_ps6 {M : Im} {v2 v4 v3 : Int32} (h : RD M v2 v4 v3) (hlt : v4.toInt < v2.toInt) : 1 ≤ (M 108 v3.toNatClampNeg).toInt := by unfold RD at h; omega
theorem RE1 {a b : Int32} (h : ¬ a = b - 1) (hb : 1 ≤ b.toInt) : a.toInt = b.toInt - 1 → False := fun q => ci_ne rfl (ti_sub rfl (show (1 : Int32).toInt = 1 from rfl) (by have := i32 b; omega)) h q
theorem RE2 {a b : Int32} (h : a = b - 1) (hb : 1 ≤ b.toInt) : a.toInt = b.toInt - 1 := ci_eq rfl (ti_sub rfl (show (1 : Int32).toInt = 1 from rfl) (by have := i32 b; omega)) h
theorem rn_gt6 {M : Im} {v3 v5 v6 : Int32} (h : RN M v3 v5 v6) (h6 : v6.toInt < 1) : 1 ≤ v5.toInt ∧ v5.toInt ≤ 30 ∧ (M 108 v5.toNatClampNeg).toInt = (M 108 v3.toNatClampNeg).toInt - 1 := by
  rcases h with z | ⟨_, e, e1, e2, _⟩
  · exact z
  · omega
theorem rd_nx6 {M : Im} {v2 v4 v3 v5 : Int32} (h : RD M v2 v4 v3) (h4 : (v4 + 1 : Int32).toInt = v4.toInt + 1) (h5 : (M 108 v5.toNatClampNeg).toInt = (M 108 v3.toNatClampNeg).toInt - 1) : RD M v2 (v4 + 1) v5 := by
  unfold RD at h ⊢
  rw [h4, h5]
  omega
theorem iv_nx6 {v2 v4 v5 : Int32} (h1 : 1 ≤ v5.toInt) (h2 : v5.toInt ≤ 30) (h3 : 0 ≤ v4.toInt) (h4 : v4.toInt < v2.toInt) (z : (v4 + 1 : Int32).toInt = v4.toInt + 1) : 1 ≤ v5.toInt ∧ v5.toInt ≤ 30 ∧ 0 ≤ (v4 + 1 : Int32).toInt ∧ (v4 + 1 : Int32).toInt ≤ v2.toInt ∧ 0 ≤ RA v2 (v4 + 1) :=
  ⟨h1, h2, by rw [z]; omega, by rw [z]; omega, ra_nn6 (by rw [z]; omega)⟩
set_option maxHeartbeats 2000000 in
theorem sp_X12_reachAt {d : Nat} {Q : Qt} {v1 : Int32} {v2 : Int32} {I : Im} {J : Jm} {R : Rm} (hB0 : Bd I) (hR0 : RI R) (hQ : ∀ (x : Int32) (y : Int64) (I2 : Im) (J2 : Jm), Bd I2 → (Fr pT I I2) → Q x y I2 J2 R) : AM (d + 5) 292 112 [.ref 97, .int v1, .int v2] I J R Q := by
  have i_v1 := i32 v1
  have i_v2 := i32 v2
  refine am_X12_reachAt (fun P hc => ?_)
  have L : ∀ n : Nat, (∀ (v3 : Int32) (v4 : Int32) (M : Im) (JM : Jm), Bd M → Fr pT I M → (RQ M) → (RD M v2 v4 v3) → (1 ≤ v3.toInt ∧ v3.toInt ≤ 30 ∧ 0 ≤ v4.toInt ∧ v4.toInt ≤ v2.toInt ∧ 0 ≤ RA v2 v4) → RA v2 v4 < (n : Int) → P 59 112 [(0, .ref 97), (2, .int v2), (3, .int v3), (4, .int v4)] [] M JM R) ∧ (∀ (v3 : Int32) (v4 : Int32) (v5 : Int32) (v6 : Int32) (M : Im) (JM : Jm), Bd M → Fr pT I M → (RQ M) → (RD M v2 v4 v3) → (RN M v3 v5 v6) → (1 ≤ v3.toInt ∧ v3.toInt ≤ 30 ∧ 0 ≤ v4.toInt ∧ v4.toInt < v2.toInt ∧ 0 ≤ v6.toInt ∧ v6.toInt ≤ 30 ∧ 0 ≤ RB v2 v4 v6) → RB v2 v4 v6 < (n : Int) → P 72 112 [(0, .ref 97), (2, .int v2), (3, .int v3), (4, .int v4), (5, .int v5), (6, .int v6)] [] M JM R) := by
    intro n
    induction n with
    | zero =>
      exact ⟨fun v3 v4 M J _ _ _ _ hi hm => absurd hm (by omega), fun v3 v4 v5 v6 M J _ _ _ _ _ hi hm => absurd hm (by omega)⟩
    | succ n ih =>
      refine ⟨?_, ?_⟩
      · skip
        intro v3 v4 M JM hB hf hq_0 hq_1 hi hm
        have i_v2 := i32 v2
        have i_v3 := i32 v3
        have i_v4 := i32 v4
        refine sg_X12_reachAt_59 hc _ _ _ _ _ _ ?_
        refine ⟨fun c1 => ?_, fun c1 => ?_⟩
        · skip
          have d2 : ((v2.toInt) : Int) ≤ (v4.toInt) := ci_le rfl rfl c1
          exact hQ _ _ _ _ hB hf
        · skip
          have d3 : ((v4.toInt) : Int) < (v2.toInt) := ci_nle rfl rfl c1
          have z6 : (30 : Int32).toInt = 30 := rfl
          have hv4 : RQ M := hq_0
          have hv5 : RD M v2 v4 v3 := hq_1
          have hv6 : RN M v3 ((-1) : Int32) (30 : Int32) := (Or.inr ⟨rfl, by have z2 := hq_1; unfold RD at z2; obtain ⟨e, e1, e2, e3, e4⟩ := hq_0 v3 (by omega) (by omega) (by omega); exact ⟨e, e1, by have z : ((30 : Int32)).toInt = 30 := rfl; omega, e2, e3, e4⟩⟩)
          exact ih.2 _ _ _ _ _ _ hB hf hv4 hv5 hv6 ⟨by omega, by omega, by omega, by omega, by omega, by omega, rb_nn6 (by omega) (by omega)⟩ (ms_lt6 (rb_lt60 (by omega)) hm)
      · intro v3 v4 v5 v6 M JM hB hf hq_0 hq_1 hq_2 hi hm
        refine sg_X12_reachAt_72 hc _ _ _ _ _ _ _ _ ?_
        have hp3 := rd_ps6 hq_1 hi.2.2.2.1
        refine ⟨fun c7 => ?_, fun c7 => ?_⟩
        · have d8 : v6.toInt < 1 := ci_lt rfl rfl c7
          obtain ⟨w1, w2, w3⟩ := rn_gt6 hq_2 d8
          have z4 : (v4 + 1 : Int32).toInt = v4.toInt + 1 := in4 hi.2.2.1 hi.2.2.2.1
          exact ih.1 _ _ _ _ hB hf hq_0 (rd_nx6 hq_1 z4 w3) (iv_nx6 w1 w2 hi.2.2.1 hi.2.2.2.1 z4) (ms_lt6 (ra_lt6 z4 hi.2.2.2.2.1) hm)
        · have d11 : 1 ≤ v6.toInt := ci_nlt rfl rfl c7
          refine ⟨vp_of (a := v6.toInt) rfl hi.2.2.2.2.1 (le30 hi.2.2.2.2.2.1), vp_of (a := v3.toInt) rfl (le1 hi.1) (le30 hi.2.1), fun c12 => ?_, fun c12 => ?_⟩
          · exact ih.2 _ _ _ _ _ _ hB hf hq_0 hq_1 (rn_dc6 hq_2 d11 (fun q _ => RE1 c12 hp3 q)) (iv_dc6 hi d11) (ms_dc6 d11 hm)
          · refine sp_X12_comesOf hB hR0 ⟨hi.1, hi.2.1⟩ ⟨d11, hi.2.2.2.2.2.1⟩ (fun x20 y25 I21 J22 hB23 p24 o26 => ?_)
            obtain ⟨heI21, p24⟩ := p24
            subst heI21
            refine ⟨fun c28 => ?_, fun c28 => ?_⟩
            · have d29 : x20.toInt = 0 := ci_eq rfl rfl c28
              exact ih.2 _ _ _ _ _ _ hB hf hq_0 hq_1 (rn_dc6 hq_2 d11 (fun _ q => p24.1 d29 q)) (iv_dc6 hi d11) (ms_dc6 d11 hm)
            · exact ih.2 _ _ _ _ _ _ hB hf hq_0 hq_1 (rn_nw6 d11 hi.2.2.2.2.2.1 (RE2 c12 hp3)) (iv_dc6 hi d11) (ms_dc6 d11 hm)
  refine sg_X12_reachAt_0 hc _ _ _ _ _ ?_
  have hB37 : Bd (uI I 97 1 0) := Bd.o0 hB0 io9_112_97_12 (by decide) bd9_12_1
  have hB38 : Bd (uI (uI I 97 1 0) 97 0 0) := Bd.o0 hB37 io9_112_97_12 (by decide) bd9_12_0
  have f38 : Fr pT I (uI (uI I 97 1 0) 97 0 0) := ((Fr.refl pT I).o (by decide) (by decide)).o (by decide) (by decide)
  refine w_X12_isSlice ?_
  refine w_X12_isIn ?_
  refine ⟨fun c39 => ?_, fun c39 => ?_⟩
  · skip
    rw [lg_cmp_lt] at c39
    have d40 : ((v1.toInt) : Int) < (1) := cl_lt (tl_i2l rfl) rfl c39
    refine ⟨Or.inl rfl, ?_⟩
    intro o41
    refine ⟨Or.inl rfl, ?_⟩
    intro o42
    refine ⟨fun c43 => ?_, fun c43 => ?_⟩
    · exact absurd c43 (by decide)
    · skip
      refine w_X12_refuse ?_
      have hB44 : Bd (uI (uI (uI I 97 1 0) 97 0 0) 97 0 2) := Bd.o0 hB38 io9_112_97_12 (by decide) bd9_12_0
      exact hQ _ _ _ _ hB44 (f38.o (by decide) (by decide))
  · skip
    rw [lg_cmp_lt] at c39
    have d45 : ((1) : Int) ≤ (v1.toInt) := cl_nlt (tl_i2l rfl) rfl c39
    refine ⟨fun c46 => ?_, fun c46 => ?_⟩
    · skip
      rw [lg_cmp_gt] at c46
      have d47 : ((30) : Int) < (v1.toInt) := cl_lt rfl (tl_i2l rfl) c46
      refine ⟨Or.inl rfl, ?_⟩
      intro o48
      refine ⟨Or.inl rfl, ?_⟩
      intro o49
      refine ⟨fun c50 => ?_, fun c50 => ?_⟩
      · exact absurd c50 (by decide)
      · skip
        refine w_X12_refuse ?_
        have hB51 : Bd (uI (uI (uI I 97 1 0) 97 0 0) 97 0 2) := Bd.o0 hB38 io9_112_97_12 (by decide) bd9_12_0
        exact hQ _ _ _ _ hB51 (f38.o (by decide) (by decide))
    · skip
      rw [lg_cmp_gt] at c46
      have d52 : ((v1.toInt) : Int) ≤ (30) := cl_nlt rfl (tl_i2l rfl) c46
      refine ⟨Or.inr rfl, ?_⟩
      intro o53
      refine ⟨Or.inr rfl, ?_⟩
      intro o54
      refine ⟨fun c55 => ?_, fun c55 => ?_⟩
      · skip
        refine sp_X12_reachFrom hB38 hR0 (fun x56 y61 I57 J58 hB59 p60 => ?_)
        have i62 := i32 x56
        refine ⟨fun c63 => ?_, fun c63 => ?_⟩
        · skip
          have d64 : ((x56.toInt) : Int) < (0) := ci_lt rfl rfl c63
          refine w_X12_refuse ?_
          have hB65 : Bd (uI I57 97 0 8) := Bd.o0 hB59 io9_112_97_12 (by decide) bd9_12_0
          exact hQ _ _ _ _ hB65 ((Fr.tr f38 p60.1 (fun _ _ => trivial)).o (by decide) (by decide))
        · skip
          have d66 : ((0) : Int) ≤ (x56.toInt) := ci_nlt rfl rfl c63
          refine ⟨vp_of (a := x56.toInt) rfl (by omega) (by omega), ?_⟩
          refine w_X12_isIn ?_
          refine ⟨fun c67 => ?_, fun c67 => ?_⟩
          · skip
            rw [lg_cmp_lt] at c67
            have d68 : ((v2.toInt) : Int) < (0) := cl_lt (tl_i2l rfl) rfl c67
            refine ⟨Or.inl rfl, ?_⟩
            intro o69
            refine ⟨fun c70 => ?_, fun c70 => ?_⟩
            · exact absurd c70 (by decide)
            · skip
              refine w_X12_refuse ?_
              have hB71 : Bd (uI I57 97 0 8) := Bd.o0 hB59 io9_112_97_12 (by decide) bd9_12_0
              exact hQ _ _ _ _ hB71 ((Fr.tr f38 p60.1 (fun _ _ => trivial)).o (by decide) (by decide))
          · skip
            rw [lg_cmp_lt] at c67
            have d72 : ((0) : Int) ≤ (v2.toInt) := cl_nlt (tl_i2l rfl) rfl c67
            refine ⟨fun c73 => ?_, fun c73 => ?_⟩
            · skip
              rw [lg_cmp_gt] at c73
              have i74 := i32 ((I57 108 (Int32.toNatClampNeg x56)))
              have d75 : (((I57 108 (Int32.toNatClampNeg x56)).toInt) : Int) < (v2.toInt) := cl_lt (tl_i2l rfl) (tl_i2l rfl) c73
              refine ⟨Or.inl rfl, ?_⟩
              intro o76
              refine ⟨fun c77 => ?_, fun c77 => ?_⟩
              · exact absurd c77 (by decide)
              · skip
                refine w_X12_refuse ?_
                have hB78 : Bd (uI I57 97 0 8) := Bd.o0 hB59 io9_112_97_12 (by decide) bd9_12_0
                exact hQ _ _ _ _ hB78 ((Fr.tr f38 p60.1 (fun _ _ => trivial)).o (by decide) (by decide))
            · skip
              rw [lg_cmp_gt] at c73
              have i79 := i32 ((I57 108 (Int32.toNatClampNeg x56)))
              have d80 : ((v2.toInt) : Int) ≤ ((I57 108 (Int32.toNatClampNeg x56)).toInt) := cl_nlt (tl_i2l rfl) (tl_i2l rfl) c73
              refine ⟨Or.inr rfl, ?_⟩
              intro o81
              refine ⟨fun c82 => ?_, fun c82 => ?_⟩
              · skip
                have z4 : (0 : Int32).toInt = 0 := rfl
                have hv83 : RQ I57 := p60.2.2
                have hv84 : RD I57 v2 (0 : Int32) x56 := (by have z0 : (0 : Int32).toInt = 0 := rfl; unfold RD; omega)
                exact (L 900000000000).1 _ _ _ _ hB59 (Fr.tr f38 p60.1 (fun _ _ => trivial)) hv83 hv84 ⟨by omega, by omega, by omega, by omega, ra_nn6 (by omega)⟩ (ra_ub62 v2 0)
              · exact absurd c82 (by decide)
      · exact absurd c55 (by decide)
end PT16x9
