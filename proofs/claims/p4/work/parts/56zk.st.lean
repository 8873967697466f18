section PT15x0
/-! ===== mean() for the relation of stores ===== -/
section W9N
variable {I I1 I2 : Im} {J J1 J2 : Jm} {R : Rm} {v1 v2 x : Int32} {Q : Qt}
/-- all but what is at e -/
noncomputable def KS99 (e : Nat) (I I2 : Im) : Prop := (∀ a, badW9 a = true → ¬ (e ≤ a ∧ a ≤ e + 5) → I2 a = I a) ∧ (∀ c, c ∈ BKL → ¬ c = e → I2 c 1 = I c 1 ∧ I2 c 3 = I c 3) ∧ ∀ c, c ∈ BP9 → I2 c = I c
theorem KS99.of {e : Nat} (h : ∀ c, ¬ c = 1 → ¬ (e ≤ c ∧ c ≤ e + 5) → ¬ c = 51 → ¬ c = 52 → I2 c = I c) (he : e = 9 ∨ e = 15) : KS99 e I I2 := by
  refine ⟨fun a ha hn => ?_, fun c hc hn => ?_, fun c hc => ?_⟩
  · have hm := arW9_sh a (badW9_mem ha)
    refine h a (fun q => ?_) hn (fun q => ?_) (fun q => ?_)
    · subst q; exact absurd hm (by decide)
    · subst q; exact absurd hm (by decide)
    · subst q; exact absurd ha (by decide)
  · have h6 := bk_six hc
    rw [h c (by omega) (by omega) (by omega) (by omega)]; exact ⟨rfl, rfl⟩
  · have h5 := bp_five hc
    exact h c (by omega) (by omega) (by omega) (by omega)
theorem KS99.tr {e : Nat} {I3 : Im} (h : KS99 e I I2) (k : KW99 I2 I3) : KS99 e I I3 :=
  ⟨fun a ha hn => (k.1 a ha).trans (h.1 a ha hn), fun c hc hn => ⟨(k.2.1 c hc).1.trans (h.2.1 c hc hn).1, (k.2.1 c hc).2.trans (h.2.1 c hc hn).2⟩, fun c hc => (k.2.2 c hc).trans (h.2.2 c hc)⟩
theorem KS99.bh {e o : Nat} {C : Nat → Int32} (k : KS99 e I I2) (he : e = 9 ∨ e = 15) (ho : o ∈ BKL) (hn : ¬ o = e) (h : BA99 o C I) : BA99 o C I2 := by
  have q := k.2.1 o ho hn
  have h6 := bk_six ho
  refine h.cp q.1 q.2 (fun c hc => k.1 c ?_ (by omega))
  rcases h6 with q | q | q | q | q <;> subst q <;> rcases hc with y | y | y | y <;> subst y <;> decide
theorem KS99.dh {e p : Nat} {C : Nat → Int32} (k : KS99 e I I2) (he : e = 9 ∨ e = 15) (hp : p ∈ BP9) (h : DH9 p C I) : DH9 p C I2 := by
  refine h.cp (fun c h1 h2 => ?_)
  have h5 := bp_five hp
  by_cases q : c = p
  · subst q; exact k.2.2 c hp
  · refine k.1 c ?_ (by omega)
    rcases h5 with y | y | y | y | y <;> subst y
    · rcases (show c = 22 ∨ c = 23 ∨ c = 24 ∨ c = 25 ∨ c = 26 by omega) with y | y | y | y | y <;> subst y <;> decide
    · rcases (show c = 28 ∨ c = 29 ∨ c = 30 ∨ c = 31 ∨ c = 32 by omega) with y | y | y | y | y <;> subst y <;> decide
    · rcases (show c = 68 ∨ c = 69 ∨ c = 70 ∨ c = 71 ∨ c = 72 by omega) with y | y | y | y | y <;> subst y <;> decide
    · rcases (show c = 80 ∨ c = 81 ∨ c = 82 ∨ c = 83 ∨ c = 84 by omega) with y | y | y | y | y <;> subst y <;> decide
    · rcases (show c = 92 ∨ c = 93 ∨ c = 94 ∨ c = 95 ∨ c = 96 by omega) with y | y | y | y | y <;> subst y <;> decide
theorem sp_e {R : Rm} (hR : RI R) : (R 1 8 = 9 ∨ R 1 8 = 15) ∧ ¬ R 1 7 = R 1 8 := by
  have := hR.rp.1
  omega
theorem W9.kS (hR : RI R) (h : W9 I R) (k : KS99 (R 1 8) I I2) (e : I2 102 = I 102) (e23 : I2 97 23 = I 97 23) : W9 I2 R := by
  obtain ⟨he, hne⟩ := sp_e hR
  refine ⟨?_, fun j hj hm => ?_⟩
  · obtain ⟨h1, h2, h3⟩ := h.1
    rw [e]
    exact ⟨h1, k.bh he (now_bk hR) hne h2, k.dh he (pl_bp hR) h3⟩
  · rw [e23] at hm
    have eb : blk9 (324 * (j + 1)) I2 = blk9 (324 * (j + 1)) I := funext fun i => congrFun e _
    obtain ⟨h1, h2, h3⟩ := h.2 j hj hm
    rw [eb]
    exact ⟨h1, k.bh he (kb_bk hj) (by omega) h2, k.dh he (kd_bp hj) h3⟩
noncomputable def okM9 (v1 v2 : Int32) (I : Im) : Prop := ((0 : Int32) ≤ v1 ∧ v1 ≤ 9999) ∧ ((1 : Int32) ≤ v2 ∧ v2 ≤ 20) ∧ v1.toInt + v2.toInt ≤ 10000 ∧ ¬ I 102 52 = 0
noncomputable def MnX9 (v1 v2 : Int32) (I : Im) (x : Int32) : Prop := (x = 1 ∧ okM9 v1 v2 I) ∨ (x = 0 ∧ ¬ okM9 v1 v2 I)
noncomputable def HMe9 (R : Rm) (v1 v2 : Int32) (I : Im) (x : Int32) (I1 : Im) : Prop := MnX9 v1 v2 I x ∧ KS99 (R 1 8) I I1 ∧ I1 102 = I 102 ∧ I1 97 23 = I 97 23 ∧ KL9 I I1
set_option maxHeartbeats 1000000 in
theorem cx_mean9 {d : Nat} (hB0 : Bd I) (hR : RI R) (em : I (R 1 7) 4 = I 102 0) (h : W9 I R) : AM (d + 7) 146 112 [.ref 1, .int v1, .int v2] I J R (fun x _ I1 _ _ => HMe9 R v1 v2 I x I1) := by
  have hO := hR.now.1
  have hS := hR.spare.1
  have hP := hR.plan.1
  obtain ⟨he, hne⟩ := sp_e hR
  have n7 := now_9 hR
  have n9 := n9_p hR
  obtain ⟨q1, q2, q3⟩ := h.1
  have hm := q1.m
  have i0 : (0 : Int32).toInt = 0 := rfl
  have i1 : (1 : Int32).toInt = 1 := rfl
  have i20 : (20 : Int32).toInt = 20 := rfl
  have i9 : (9999 : Int32).toInt = 9999 := rfl
  refine am_X11_mean (fun P hc => ?_)
  have no : ∀ z : Int32, ¬ okM9 v1 v2 I → HMe9 R v1 v2 I 0 (uI I 1 0 z) := fun z hz => ⟨Or.inr ⟨rfl, hz⟩, KS99.of (fun c a _ _ _ => uI_ne a) he, uI_ne (by decide), rd_ne (by decide), uI_ne (by decide), uI_ne (by decide), rd_ne (by decide)⟩
  have ny : ∀ z : Int32, ¬ okM9 v1 v2 I → AM (d + 6) 150 112 [.ref 1, .int z] I J R (fun x1 _ I1 _ _ => (x1 = 0 ∨ x1 = 1) → (((x1 : Int32) = 0 ∨ (x1 : Int32) = 1) ∧ HMe9 R v1 v2 I x1 I1)) := fun z hz => w_X11_deny ⟨Or.inl rfl, fun _ => ⟨Or.inl rfl, no _ hz⟩⟩
  have L : okM9 v1 v2 I → ∀ n : Nat, (∀ (v3 : Int64) (v5 : Int32) (M : Im) (JM : Jm), Bd M → (∀ c, ¬ (R 1 8 ≤ c ∧ c ≤ R 1 8 + 5) → ¬ c = 51 → ¬ c = 52 → M c = I c) → (0 ≤ v5.toInt ∧ v5.toInt ≤ 20) → 30 - v5.toInt < (n : Int) → P 61 112 [(0, .ref 1), (1, .int v1), (2, .int v2), (3, .long v3), (5, .int v5)] [] M JM R) := by
    intro hok n
    obtain ⟨⟨o1, o2⟩, ⟨o3, o4⟩, o5, h52⟩ := id hok
    rw [le_i] at o1 o2 o3 o4
    obtain ⟨s, hg⟩ := q3.2 h52
    have hE := h.ev hB0 h52 hg
    have hs := h.hs
    obtain ⟨g1, g2, g3, g4, g5, g6, g7⟩ := id hg
    have hV : ∀ a, a < dL s → VC9 (I 102 0) (dC s a) := fun a ha => by
      rcases (g2.2.2.2 a ha).2.2 with q | ⟨t, ht, q⟩
      · exact ⟨fun z => by rw [q] at z; exact absurd z (by decide), fun z => by rw [q] at z; exact absurd z (by decide)⟩
      · have := (hE.2.2.2.2 t ht).2.2
        rw [q] at this; exact this
    induction n with
    | zero => exact fun v3 v5 M J _ _ hi hm => absurd hm (by omega)
    | succ n ih =>
      intro v3 v5 M JM hB hM hi hmm
      refine sg_X11_mean_61 hc _ _ _ _ _ _ _ ⟨fun c1 => ?_, fun c1 => ?_⟩
      · refine kpW9 rfl hR rfl (kpL9 rfl hR rfl (k3w rfl rfl rfl hR rfl rfl (sp_X11_tell hB hR (fun x3 y8 I4 J5 hB6 p7 kc kn ka kl kw o9 => ⟨o9, Or.inl ⟨x_one p7, hok⟩, (KS99.of (fun c _ a2 a3 a4 => hM c a2 a3 a4) he).tr kw, kc.1.trans (hM 102 (by omega) (by decide) (by decide)), ka.2.trans (congrFun (hM 97 (by omega) (by decide) (by decide)) 23), KL9.tr ⟨hM 49 (by omega) (by decide) (by decide), hM 112 (by omega) (by decide) (by decide), congrFun (hM 97 (by omega) (by decide) (by decide)) 40⟩ kl⟩))))
      · have d11 : (v5.toInt : Int) < v2.toInt := ci_nle rfl rfl c1
        refine ⟨hR.spare.2, hR.now.2, bif_t hS (kx (px_cpB (Q := fun _ _ I2 J2 _ => (∀ c, ¬ (R 1 8 ≤ c ∧ c ≤ R 1 8 + 5) → I2 c = M c) ∧ I2 (R 1 8) 4 = M (R 1 7) 4 ∧ CpB9 (R 1 8) (R 1 7) M I2) hS hO (by omega) (fun I2 J2 f1 _ y4 _ y1 y3 yst yn => ⟨f1, y4, y1, y3, yst, fun k hk => (yn k hk).2⟩)) (sp_X0_copyFrom hB hR hS hO (fun x12 y17 I13 J14 hB15 p16 fg => ?_)))⟩
        obtain ⟨f1, y4, ycp⟩ := fg
        have c0 : ∀ c, ¬ (R 1 8 ≤ c ∧ c ≤ R 1 8 + 5) → ¬ c = 51 → ¬ c = 52 → I13 c = I c := fun c a1 a2 a3 => (f1 c a1).trans (hM c a1 a2 a3)
        have hb13 : BA99 (R 1 8) (I 102) I13 := (q2.cp (I2 := M) (congrFun (hM (R 1 7) (by omega) (by omega) (by omega)) 1) (congrFun (hM (R 1 7) (by omega) (by omega) (by omega)) 3) (fun c hc => hM c (by omega) (by omega) (by omega))).cy hm.1 ycp
        have m13 : I13 (R 1 8) 4 = I 102 0 := y4.trans ((congrFun (hM (R 1 7) (by omega) (by omega) (by omega)) 4).trans em)
        have s13 : SDc s (R 1 9) I13 := g5.cp (fun c a1 a2 => c0 c (by omega) (by omega) (by omega))
        refine ⟨hR.spare.2, hR.plan.2, ?_⟩
        have run : AM (d + 6) 41 112 [.ref 51, .ref (R 1 8), .ref (R 1 9), .int (v1 + v5)] I13 J14 R (fun _ _ I2 J2 _ => FrLf 51 (R 1 8) I13 J14 I2 J2) :=
          px_run4 (du := du9 I) (od := I 102 1) (m := I 102 0) (M := mnN (I 102)) (st := s9 I) (s := s) rfl hS hP (by omega) (by omega) g1 g2 s13 hV m13 hE.2.1 hb13.1 (fun k hk => ⟨(hb13.2.2.2 k hk).1, (hb13.2.2.2 k hk).2.1⟩) hE.2.2.1 ⟨hb13.2.2.1, fun k hk => (hb13.2.2.2 k hk).2.2, hb13.2.1⟩ (fun I2 _ _ _ _ hF => hF)
        refine kx run (sp_X4_run hB15 hR (show isO 112 51 4 = true from rfl) hS hP (fun x18 y23 I19 J20 hB21 p22 hF => ?_))
        refine ⟨hR.spare.2, bif_t hS ?_⟩
        refine kpp rfl (sp_X0_allHoldings hB21 hR hS (fun x24 y29 I25 J26 hB27 p28 eI eJ _ => ?_))
        subst eI
        have e30 : (v5 + 1 : Int32).toInt = v5.toInt + 1 := ti_add rfl rfl (by omega)
        exact ih _ _ _ _ hB27 (fun c a1 a2 a3 => (hF.c (fun k q => by rcases q with (q | q | q) | q | q <;> omega)).trans (c0 c a1 a2 a3)) (by omega) (by omega)
  refine sg_X11_mean_0 hc _ _ _ _ _ ⟨fun c => ny 5 (fun z => ile.mpr z.1.1 c), fun c1 => ⟨fun c => ny 5 (fun z => ile.mpr z.1.2 c), fun c2 => ⟨fun c => ny 5 (fun z => ile.mpr z.2.1.1 c), fun c3 => ⟨fun c => ny 5 (fun z => ile.mpr z.2.1.2 c), fun c4 => ?_⟩⟩⟩⟩
  have l1 := ile.mp c1
  have l2 := ile.mp c2
  have l3 := ile.mp c3
  have l4 := ile.mp c4
  have l1' := l1
  have l2' := l2
  have l3' := l3
  have l4' := l4
  rw [le_i] at l1' l2' l3' l4'
  have ea : ((v1 + v2) - 1 : Int32).toInt = v1.toInt + v2.toInt - 1 := ti_sub (ti_add rfl rfl (by omega)) i1 (by omega)
  refine ⟨fun c5 => ⟨hR.plan.2, bif_t hP ⟨fun c6 => ?_, fun c6 => ny 8 (fun z => z.2.2.2 (by rw [← q3.1]; exact c6))⟩⟩, fun c5 => ny 5 (fun z => c5 (by rw [le_i, ea, i9]; have := z.2.2.1; omega))⟩
  rw [le_i, ea, i9] at c5
  exact L ⟨⟨l1, l2⟩, ⟨l3, l4⟩, by omega, fun z => c6 (q3.1.trans z)⟩ 40 0 0 I J hB0 (fun _ _ _ _ => rfl) (by decide) (by decide)
theorem px_frac9 {d : Nat} {w1 w3 : Int64} (hb : ¬ w3 = 0) (hQ : ∀ J2, Q 1 0 I J2 R) : AM (d + 1) 179 112 [.ref 97, .long w1, .long w3] I J R Q := by
  refine am_X12_fraction (fun P hc => ?_)
  have L : ∀ n : Nat, ∀ v5 v7 : Int64, v7.toInt.natAbs < n → (¬ v5 = 0 ∨ ¬ v7 = 0) → P 9 112 [(0, .ref 97), (1, .long w1), (3, .long w3), (5, .long v5), (7, .long v7)] [] I J R := by
    intro n
    induction n with
    | zero => intro _ _ h; omega
    | succ n ih =>
      intro v5 v7 hm h5
      refine sg_X12_fraction_9 hc w1 w3 v5 v7 I J R ⟨fun c => ?_, fun c => ?_⟩
      · rw [lg_cmp_eq] at c
        have h5' : ¬ v5 = 0 := h5.resolve_right (fun q => q c)
        exact ⟨h5', h5', Or.inr rfl, hQ _⟩
      · rw [lg_cmp_eq] at c
        exact ⟨c, ih v7 _ (by have := tl_rem_abs (x := v5) c; omega) (Or.inl c)⟩
  exact sg_X12_fraction_0 hc w1 w3 I J R (L (w3.toInt.natAbs + 1) _ _ (Nat.lt_succ_self _) (Or.inr hb))
theorem loaf_n9 : ∀ V, V < 21 → 1 ≤ V → ¬ (Int32.toInt64 (nI V)) * 2329089562800 = 0 := by decide +kernel
set_option maxHeartbeats 1000000 in
theorem mx_mean9 {e : Nat} (hB : Bd I) (hR : RI R) (h : W9 I R) (H1 : HMe9 R v1 v2 I x I1) : AM (e + 84) 315 112 [.ref 97, .int v1, .int v2] I1 J1 R (fun x2 _ I2 _ _ => x2 = x ∧ I2 102 = I 102) := by
  obtain ⟨hX, hK, e102, e23, -⟩ := H1
  obtain ⟨q1, q2, q3⟩ := h.1
  have hm := q1.m
  have i0 : (0 : Int32).toInt = 0 := rfl
  have i1 : (1 : Int32).toInt = 1 := rfl
  have i20 : (20 : Int32).toInt = 20 := rfl
  have i9 : (9999 : Int32).toInt = 9999 := rfl
  have it : (10000 : Int32).toInt = 10000 := rfl
  have t52 : Int32.toNatClampNeg 52 = 52 := rfl
  have t0 : Int32.toNatClampNeg 0 = 0 := rfl
  have v52 : vp_in 52 1620 := vp_of (a := 52) rfl (by decide) (by decide)
  have c102 : uI (uI I1 97 1 0) 97 0 0 102 = I 102 := by rw [uI_ne (by decide), uI_ne (by decide)]; exact e102
  have fail : ¬ okM9 v1 v2 I → ∀ z : Int32, AM (e + 83) 177 112 [.ref 97, .int z] (uI (uI I1 97 1 0) 97 0 0) J1 R (fun x1 _ I2 _ _ => (x1 = 0 ∨ x1 = 1) → (((x1 : Int32) = 0 ∨ (x1 : Int32) = 1) ∧ (x1 = x ∧ I2 102 = I 102))) := fun hn z => by
    have x0 : x = 0 := hX.elim (fun y => absurd y.2 hn) (fun y => y.1)
    exact w_X12_no ⟨Or.inl rfl, fun _ => ⟨Or.inl rfl, x0.symm, (uI_ne (by decide)).trans c102⟩⟩
  refine am_X12_mean (fun P hc => sg_X12_mean_0 hc _ _ _ _ _ (px_isInI (lo := 1) (hi := 20) (fun l3 l4 _ => ⟨fun z => absurd z (by decide), fun _ => ?_⟩) (fun m1 _ => ⟨fun _ => fail (fun z => m1.elim (fun y => ile.mpr z.2.1.1 y) (fun y => y z.2.1.2)) 5, fun z => absurd rfl z⟩)))
  have l3' := l3
  have l4' := l4
  rw [le_i] at l3' l4'
  have e10 : (10000 - v2 : Int32).toInt = 10000 - v2.toInt := ti_sub it rfl (by omega)
  refine px_isInI (lo := 0) (hi := 10000 - v2) (fun l1 l2 _ => ⟨fun _ => ⟨v52, ?_⟩, fun z => absurd z (by decide)⟩) (fun m1 _ => ⟨fun z => absurd rfl z, fun _ => fail (fun z => m1.elim (fun y => ile.mpr z.1.1 y) (fun y => y (by rw [le_i, e10]; have := z.2.2.1; omega))) 5⟩)
  have l1' := l1
  have l2' := l2
  rw [le_i] at l1'
  rw [le_i, e10] at l2'
  rw [t52, c102]
  refine ⟨fun h52 => ?_, fun c52 => fail (fun z => z.2.2.2 c52) 8⟩
  have hok : okM9 v1 v2 I := ⟨⟨l1, by rw [le_i, i9]; omega⟩, ⟨l3, l4⟩, by omega, h52⟩
  have x1 : x = 1 := hX.elim (fun y => y.1) (fun y => absurd hok y.2)
  obtain ⟨s, hg⟩ := q3.2 h52
  have hE := h.ev hB h52 hg
  have hs := h.hs
  obtain ⟨g1, g2, g3, g4, g5, g6, g7⟩ := id hg
  obtain ⟨V, hV, eV⟩ : ∃ V : Nat, (1 ≤ V ∧ V ≤ 20) ∧ v2 = nI V := ⟨v2.toInt.toNat, by omega, Int32.toInt_inj.mp (by rw [nI_toInt (by omega)]; omega)⟩
  have L : ∀ (g k : Nat) (v3 : Int64) (A : Im) (JA : Jm), k + g = V → A 102 = I 102 → (∀ j, j < 52 → A 103 j = I 102 j) → P 91 112 [(0, .ref 97), (1, .int v1), (2, .int v2), (3, .long v3), (5, .int (nI k))] [] A JA R := by
    intro g
    induction g with
    | zero =>
      intro k v3 A JA hk hA _
      refine sg_X12_mean_91 hc _ _ _ _ _ _ _ ⟨fun _ => ?_, fun c => absurd (by rw [eV]; exact (nle_nI (by omega) (by omega)).mpr (by omega)) c⟩
      exact px_frac9 (by rw [eV]; exact loaf_n9 V (by omega) (by omega)) (fun J2 _ => ⟨Or.inr rfl, x1.symm, hA⟩)
    | succ g ih =>
      intro k v3 A JA hk hA h103
      refine sg_X12_mean_91 hc _ _ _ _ _ _ _ ⟨fun c => absurd ((nle_nI (a := V) (b := k) (by omega) (by omega)).mp (by rw [eV] at c; exact c)) (by omega), fun _ => ?_⟩
      have hsd : (v1 + nI k : Int32).toInt = v1.toInt + (k : Int) := ti_add rfl (nI_toInt (by omega)) (by omega)
      have hrA : BkR (mnN (I 102)) (s9 I) A := by
        unfold BkR
        rw [hA]
        exact hs.2.1
      refine px_runs9 (e := e + 3) (q := I 50) (hE.o hA) g1 g2 g3 (by rw [hA]; exact g6) (by omega) hs.2.2.1 hrA (fun B hF hM hRB _ _ => ?_)
      have b103 : ∀ j, j < 52 → B 103 j = I 102 j := fun j hj => (hF.i (fun z => by rcases z with z | z <;> omega)).trans (h103 j hj)
      have bhi : ∀ j, 52 ≤ j → B 102 j = I 102 j := fun j hj => (hF.i (fun z => by rcases z with z | z <;> omega)).trans (congrFun hA j)
      have b0 : B 102 0 = I 102 0 := (hF.i (fun z => by rcases z with z | z <;> omega)).trans (congrFun hA 0)
      have L108 : ∀ (f i : Nat) (w3 : Int64), i + f = mnN (I 102) → P 108 112 [(0, .ref 97), (1, .int v1), (2, .int v2), (3, .long w3), (5, .int (nI k)), (6, .int (nI i))] [] B JA R := by
        intro f
        induction f with
        | zero =>
          intro i w3 hi
          refine sg_X12_mean_108 hc _ _ _ _ _ _ _ _ ⟨vp_of (a := 0) rfl (by decide) (by decide), fun _ => ?_, fun c => absurd (by rw [t0, b0, hm.2.1]; exact (nle_nI (by omega) (by omega)).mpr (by omega)) c⟩
          have L2 : ∀ (f j : Nat) (D : Im), j + f = 52 → (∀ i, i < j → D 102 i = I 102 i) → (∀ i, 52 ≤ i → D 102 i = I 102 i) → (∀ i, i < 52 → D 103 i = I 102 i) → P 144 112 [(0, .ref 97), (1, .int v1), (2, .int v2), (3, .long w3), (5, .int (nI k)), (6, .int (nI j))] [] D JA R := by
            intro f
            induction f with
            | zero =>
              intro j D hj d1 d2 d3
              refine sg_X12_mean_144 hc _ _ _ _ _ _ _ _ ⟨fun _ => ?_, fun c => absurd ((nle_nI (a := 52) (by omega) (by omega)).mpr (by omega)) c⟩
              rw [nI_s1]
              refine ih (k + 1) w3 D JA (by omega) (funext fun i => ?_) d3
              rcases Nat.lt_or_ge i 52 with z | z
              · exact d1 i (by omega)
              · exact d2 i z
            | succ f ih2 =>
              intro j D hj d1 d2 d3
              refine sg_X12_mean_144 hc _ _ _ _ _ _ _ _ ⟨fun c => absurd ((nle_nI (a := 52) (by omega) (by omega)).mp c) (by omega), fun _ => ⟨vp_nI (by omega) (by omega), vp_nI (by omega) (by omega), ?_⟩⟩
              rw [tn_nI (by omega), nI_s1]
              refine ih2 (j + 1) _ (by omega) (fun i hi => ?_) (fun i hi => (rd_k (by omega)).trans (d2 i hi)) (fun i hi => (rd_ne (by decide)).trans (d3 i hi))
              by_cases z : i = j
              · subst z; rw [rd_eq]; exact d3 i (by omega)
              · rw [rd_k z]; exact d1 i (by omega)
          exact L2 52 0 B (by omega) (fun i hi => absurd hi (by omega)) bhi b103
        | succ f ih3 =>
          intro i w3 hi
          have k46 : (46 : Int32) + nI i = nI (46 + i) := by rw [show (46 : Int32) = nI 46 from rfl]; exact nI_add 46 i
          refine sg_X12_mean_108 hc _ _ _ _ _ _ _ _ ⟨vp_of (a := 0) rfl (by decide) (by decide), fun c => absurd ((nle_nI (a := mnN (I 102)) (b := i) (by omega) (by omega)).mp (by rw [t0, b0, hm.2.1] at c; exact c)) (by omega), fun _ => ?_⟩
          rw [k46, tn_nI (by omega), nI_s1]
          refine ⟨vp_nI (by omega) (by omega), px_sumOf ?_ (fun y _ => ih3 (i + 1) _ (by omega))⟩
          rw [hM.1.2.1 i (by omega)]
          exact hRB.1.hv0 i (by omega)
      exact L108 (mnN (I 102)) 0 v3 (by omega)
  have L62 : ∀ (f j : Nat) (A : Im), j + f = 52 → A 102 = I 102 → (∀ i, i < j → A 103 i = I 102 i) → P 62 112 [(0, .ref 97), (1, .int v1), (2, .int v2), (3, .int (nI j))] [] A J1 R := by
    intro f
    induction f with
    | zero =>
      intro j A hj hA d3
      exact sg_X12_mean_62 hc _ _ _ _ _ _ ⟨fun _ => L V 0 0 A J1 (by omega) hA (fun i hi => d3 i (by omega)), fun c => absurd ((nle_nI (a := 52) (by omega) (by omega)).mpr (by omega)) c⟩
    | succ f ih4 =>
      intro j A hj hA d3
      refine sg_X12_mean_62 hc _ _ _ _ _ _ ⟨fun c => absurd ((nle_nI (a := 52) (by omega) (by omega)).mp c) (by omega), fun _ => ⟨vp_nI (by omega) (by omega), vp_nI (by omega) (by omega), ?_⟩⟩
      rw [tn_nI (by omega), nI_s1]
      refine ih4 (j + 1) _ (by omega) ((uI_ne (by decide)).trans hA) (fun i hi => ?_)
      by_cases z : i = j
      · subst z; rw [rd_eq, hA]
      · rw [rd_k z]; exact d3 i (by omega)
  exact L62 52 0 _ (by omega) c102 (fun i hi => absurd hi (by omega))
end W9N
end PT15x0
section PT15x1
/-! ===== the relation of stores: small pieces, its start ===== -/
section W9T
variable {I I1 : Im} {J J1 : Jm} {R : Rm}
theorem W9.mm (h : W9 I R) : (I 102 0).toInt = (mnN (I 102) : Int) ∧ mnN (I 102) ≤ 6 := ⟨h.1.1.m.2.2, h.1.1.m.1⟩
theorem FrCk.z102 {o : Nat} (ho : o = 9 ∨ o = 15) (hF : FrCk o I J I1 J1) : I1 102 0 = I 102 0 := hF.1 102 0 (fun q => by rcases q with (q | q | q) | q <;> omega)
theorem W9.start (e7 : R 1 7 = 9) (e9 : R 1 9 = 21) (h : I 9 1 = 4 ∧ I 9 3 = 0 ∧ (∀ k, I 10 k = 0) ∧ I 21 0 = 0 ∧ ∀ k, k < 324 → I 102 k = emC k) (hm : I 97 23 = 0) : W9 I R := by
  obtain ⟨h1, h2, h3, h4, h5⟩ := h
  have em : mnN (I 102) = 0 := by
    unfold mnN
    rw [h5 0 (by omega)]; rfl
  have ed : ∀ d, 1 ≤ d → d ≤ 30 → I 102 (3 + d) = 0 := fun d a b => by
    rw [h5 (3 + d) (by omega)]
    unfold emC
    rw [if_neg (by omega), if_neg (by omega)]
  refine ⟨?_, fun j hj hk => ?_⟩
  · rw [e7, e9]
    refine ⟨⟨⟨0, by omega, h5 0 (by omega)⟩, fun d a b => ?_, fun k hk => ?_⟩, ⟨?_, ?_, fun d a b => ?_, fun k hk => ?_⟩, ?_, fun h0 => ?_⟩
    · rw [ed d a b]; decide
    · rw [em] at hk; omega
    · rw [h1, h5 1 (by omega)]; rfl
    · rw [h2, h5 2 (by omega)]; rfl
    · rw [ed d a b]; exact h3 d
    · rw [em] at hk; omega
    · rw [h4, h5 52 (by omega)]; rfl
    · exact absurd (h5 52 (by omega)) h0
  · rw [hm, show (0 : Int32).toInt = 0 from rfl] at hk
    omega
end W9T
end PT15x1
section PT15x2
/-! ===== fill(), fillAt(): what they answer ===== -/
/-- what the store holds and a man has not -/
noncomputable def gf9 (s : StS9) (k : Int32) : Int32 := stR s.1 30 0 &&& (s.2.1 (nn9 k) ^^^ (-1))
noncomputable def fl9 (I : Im) (k : Int32) : Option (List Nat) := fwC (SA (gf9 (s9 I) k)) (lk9 (du9 I) (s9 I).2.1 (nn9 k))
section W9F
variable {I I1 : Im} {J J1 : Jm} {R : Rm} {Q : Qt} {v w : Int32}
/-! the reference -/
end W9F
end PT15x2
section PT15x3
/-! ===== the latest life, carried ===== -/
section LVC
variable {I I2 : Im}
theorem LV9.kp (h : LV9 I) (k : KL9 I I2) : LV9 I2 := by
  unfold LV9 at h ⊢
  rw [k.1, k.2.1, k.2.2]
  exact h
theorem LV9.start (h : I 97 40 = 0) (h2 : I 49 0 = 0) : LV9 I := ⟨h.trans h2.symm, fun z => absurd h2 z⟩
end LVC
end PT15x3
section PT15x4
/-! ===== how many cuts and splits till there is a slice: the numbers ===== -/
noncomputable def tb9 : List (List Nat) := [[1000, 1000, 1000, 1000, 1000, 1000, 1000, 1000, 1000, 1000, 1000, 1000, 1000, 1000, 1000, 1000, 1000, 1000, 1000, 1000, 1000, 1000, 1000, 1000, 1000, 1000, 1000, 1000, 1000, 1000, 1000],
  [1000, 0, 1000, 1000, 1000, 1000, 1000, 1000, 1000, 1000, 1000, 1000, 1000, 1000, 1000, 1000, 1000, 1000, 1000, 1000, 1000, 1000, 1000, 1000, 1000, 1000, 1000, 1000, 1000, 1000, 1000],
  [1000, 1, 0, 1000, 1000, 1000, 1000, 1000, 1000, 1000, 1000, 1000, 1000, 1000, 1000, 1000, 1000, 1000, 1000, 1000, 1000, 1000, 1000, 1000, 1000, 1000, 1000, 1000, 1000, 1000, 1000],
  [1000, 1, 1, 0, 1000, 1000, 1000, 1000, 1000, 1000, 1000, 1000, 1000, 1000, 1000, 1000, 1000, 1000, 1000, 1000, 1000, 1000, 1000, 1000, 1000, 1000, 1000, 1000, 1000, 1000, 1000],
  [1000, 1, 1, 1, 0, 1000, 1000, 1000, 1000, 1000, 1000, 1000, 1000, 1000, 1000, 1000, 1000, 1000, 1000, 1000, 1000, 1000, 1000, 1000, 1000, 1000, 1000, 1000, 1000, 1000, 1000],
  [1000, 1, 2, 2, 1, 0, 1000, 1000, 1000, 1000, 1000, 1000, 1000, 1000, 1000, 1000, 1000, 1000, 1000, 1000, 1000, 1000, 1000, 1000, 1000, 1000, 1000, 1000, 1000, 1000, 1000],
  [1000, 1, 1, 1, 1, 1, 0, 1000, 1000, 1000, 1000, 1000, 1000, 1000, 1000, 1000, 1000, 1000, 1000, 1000, 1000, 1000, 1000, 1000, 1000, 1000, 1000, 1000, 1000, 1000, 1000],
  [1000, 1, 1000, 1000, 1000, 1000, 1000, 0, 1000, 1000, 1000, 1000, 1000, 1000, 1000, 1000, 1000, 1000, 1000, 1000, 1000, 1000, 1000, 1000, 1000, 1000, 1000, 1000, 1000, 1000, 1000],
  [1000, 1, 1, 2, 1, 2, 1, 1000, 0, 1000, 1000, 1000, 1000, 1000, 1000, 1000, 1000, 1000, 1000, 1000, 1000, 1000, 1000, 1000, 1000, 1000, 1000, 1000, 1000, 1000, 1000],
  [1000, 1, 2, 1, 2, 2, 1, 1000, 1000, 0, 1000, 1000, 1000, 1000, 1000, 1000, 1000, 1000, 1000, 1000, 1000, 1000, 1000, 1000, 1000, 1000, 1000, 1000, 1000, 1000, 1000],
  [1000, 1, 1, 2, 2, 1, 1, 1000, 1000, 1000, 0, 1000, 1000, 1000, 1000, 1000, 1000, 1000, 1000, 1000, 1000, 1000, 1000, 1000, 1000, 1000, 1000, 1000, 1000, 1000, 1000],
  [1000, 1, 1000, 1000, 1000, 1000, 1000, 1000, 1000, 1000, 1000, 0, 1000, 1000, 1000, 1000, 1000, 1000, 1000, 1000, 1000, 1000, 1000, 1000, 1000, 1000, 1000, 1000, 1000, 1000, 1000],
  [1000, 1, 1, 1, 1, 2, 1, 1000, 1, 1000, 1000, 1000, 0, 1000, 1000, 1000, 1000, 1000, 1000, 1000, 1000, 1000, 1000, 1000, 1000, 1000, 1000, 1000, 1000, 1000, 1000],
  [1000, 1, 1000, 1000, 1000, 1000, 1000, 1000, 1000, 1000, 1000, 1000, 1000, 0, 1000, 1000, 1000, 1000, 1000, 1000, 1000, 1000, 1000, 1000, 1000, 1000, 1000, 1000, 1000, 1000, 1000],
  [1000, 1, 1, 1000, 1000, 1000, 1000, 1, 1000, 1000, 1000, 1000, 1000, 1000, 0, 1000, 1000, 1000, 1000, 1000, 1000, 1000, 1000, 1000, 1000, 1000, 1000, 1000, 1000, 1000, 1000],
  [1000, 1, 2, 1, 2, 1, 1, 1000, 1000, 1000, 1, 1000, 1000, 1000, 1000, 0, 1000, 1000, 1000, 1000, 1000, 1000, 1000, 1000, 1000, 1000, 1000, 1000, 1000, 1000, 1000],
  [1000, 1, 1, 2, 1, 3, 2, 1000, 1, 1000, 1000, 1000, 1000, 1000, 1000, 1000, 0, 1000, 1000, 1000, 1000, 1000, 1000, 1000, 1000, 1000, 1000, 1000, 1000, 1000, 1000],
  [1000, 1, 1000, 1000, 1000, 1000, 1000, 1000, 1000, 1000, 1000, 1000, 1000, 1000, 1000, 1000, 1000, 0, 1000, 1000, 1000, 1000, 1000, 1000, 1000, 1000, 1000, 1000, 1000, 1000, 1000],
  [1000, 1, 1, 1, 2, 2, 1, 1000, 1000, 1, 1000, 1000, 1000, 1000, 1000, 1000, 1000, 1000, 0, 1000, 1000, 1000, 1000, 1000, 1000, 1000, 1000, 1000, 1000, 1000, 1000],
  [1000, 1, 1000, 1000, 1000, 1000, 1000, 1000, 1000, 1000, 1000, 1000, 1000, 1000, 1000, 1000, 1000, 1000, 1000, 0, 1000, 1000, 1000, 1000, 1000, 1000, 1000, 1000, 1000, 1000, 1000],
  [1000, 1, 1, 2, 1, 1, 2, 1000, 2, 1000, 1, 1000, 1, 1000, 1000, 1000, 1000, 1000, 1000, 1000, 0, 1000, 1000, 1000, 1000, 1000, 1000, 1000, 1000, 1000, 1000],
  [1000, 1, 2, 1, 2, 3, 2, 1, 2, 1000, 1000, 1000, 1, 1000, 1000, 1000, 1000, 1000, 1000, 1000, 1000, 0, 1000, 1000, 1000, 1000, 1000, 1000, 1000, 1000, 1000],
  [1000, 1, 1, 1000, 1000, 1000, 1000, 1000, 1000, 1000, 1000, 1, 1000, 1000, 1000, 1000, 1000, 1000, 1000, 1000, 1000, 1000, 0, 1000, 1000, 1000, 1000, 1000, 1000, 1000, 1000],
  [1000, 1, 1000, 1000, 1000, 1000, 1000, 1000, 1000, 1000, 1000, 1000, 1000, 1000, 1000, 1000, 1000, 1000, 1000, 1000, 1000, 1000, 1000, 0, 1000, 1000, 1000, 1000, 1000, 1000, 1000],
  [1000, 1, 1, 1, 1, 2, 1, 1000, 1, 1000, 1000, 1000, 1, 1000, 1000, 1000, 1000, 1000, 1000, 1000, 1000, 1000, 1000, 1000, 0, 1000, 1000, 1000, 1000, 1000, 1000],
  [1000, 1, 3, 3, 2, 1, 1000, 1000, 1000, 1000, 1000, 1000, 1000, 1000, 1000, 1000, 1000, 1000, 1000, 1000, 1000, 1000, 1000, 1000, 1000, 0, 1000, 1000, 1000, 1000, 1000],
  [1000, 1, 1, 1000, 1000, 1000, 1000, 1000, 1000, 1000, 1000, 1000, 1000, 1, 1000, 1000, 1000, 1000, 1000, 1000, 1000, 1000, 1000, 1000, 1000, 1000, 0, 1000, 1000, 1000, 1000],
  [1000, 1, 2, 1, 3, 3, 2, 1000, 1000, 1, 1000, 1000, 1000, 1000, 1000, 1000, 1000, 1000, 1000, 1000, 1000, 1000, 1000, 1000, 1000, 1000, 1000, 0, 1000, 1000, 1000],
  [1000, 1, 1, 2, 1, 3, 2, 1, 2, 1000, 1000, 1000, 1, 1000, 1, 1000, 1000, 1000, 1000, 1000, 1000, 1000, 1000, 1000, 1000, 1000, 1000, 1000, 0, 1000, 1000],
  [1000, 1, 1000, 1000, 1000, 1000, 1000, 1000, 1000, 1000, 1000, 1000, 1000, 1000, 1000, 1000, 1000, 1000, 1000, 1000, 1000, 1000, 1000, 1000, 1000, 1000, 1000, 1000, 1000, 0, 1000],
  [1000, 1, 1, 1, 2, 1, 1, 1000, 2, 1000, 1, 1000, 1, 1000, 1000, 1, 1000, 1000, 1000, 1000, 1000, 1000, 1000, 1000, 1000, 1000, 1000, 1000, 1000, 1000, 0]]
/-- the fewest till there is a t, from an s on (1000: never); the next slice then -/
noncomputable def e9 (t s : Nat) : Nat := (tb9.getD t []).getD s 1000
section RC9
variable {t s p a b : Nat}
end RC9
section RCX
variable {I : Im} {J : Jm} {R : Rm} {Q : Qt}
end RCX
end PT15x4
section PT15x5
/-! printed by rd.py: the Reader's constructor, all steps but those with the text -/
noncomputable def kRd : List En := [
  (0, .aload_n 0, 1, [], [], 0),
  (1, .invokespecial 3, 3, [3], [], 0),
  (4, .aload_n 0, 1, [], [], 0),
  (5, .sipush 900, 3, [], [900], 0),
  (8, .newarray .byte, 2, [2], [], 0),
  (10, .putfield 9, 3, [6, 0, 4, 1], [], 0),
  (13, .aload_n 0, 1, [], [], 0),
  (14, .iconst 0, 1, [], [0], 0),
  (15, .putfield 15, 3, [6, 1, 0, 0], [], 0),
  (18, .aload_n 0, 1, [], [], 0),
  (19, .bipush 22, 2, [], [22], 0),
  (21, .newarray .long, 2, [1], [], 0),
  (23, .putfield 19, 3, [6, 2, 4, 2], [], 0),
  (26, .aload_n 0, 1, [], [], 0),
  (27, .iconst 0, 1, [], [0], 0),
  (28, .putfield 23, 3, [6, 3, 1, 0], [], 0),
  (31, .aload_n 0, 1, [], [], 0),
  (32, .iconst 0, 1, [], [0], 0),
  (33, .putfield 27, 3, [6, 4, 0, 0], [], 0),
  (36, .aload_n 0, 1, [], [], 0),
  (37, .iconst 0, 1, [], [0], 0),
  (38, .putfield 30, 3, [6, 5, 0, 0], [], 0),
  (41, .aload_n 0, 1, [], [], 0),
  (42, .iconst 0, 1, [], [0], 0),
  (43, .putfield 33, 3, [6, 6, 0, 0], [], 0),
  (46, .aload_n 0, 1, [], [], 0),
  (47, .iconst 0, 1, [], [0], 0),
  (48, .putfield 36, 3, [6, 7, 0, 0], [], 0),
  (51, .aload_n 0, 1, [], [], 0),
  (52, .iconst 0, 1, [], [0], 0),
  (53, .putfield 39, 3, [6, 8, 0, 0], [], 0),
  (56, .aload_n 0, 1, [], [], 0),
  (57, .iconst (-1), 1, [], [(-1)], 0),
  (58, .putfield 42, 3, [6, 9, 0, 0], [], 0),
  (61, .aload_n 0, 1, [], [], 0),
  (62, .lconst 0, 1, [], [], 0),
  (63, .putfield 45, 3, [6, 10, 2, 0], [], 0),
  (66, .aload_n 0, 1, [], [], 0),
  (67, .iconst 0, 1, [], [0], 0),
  (68, .putfield 49, 3, [6, 11, 0, 0], [], 0),
  (71, .aload_n 0, 1, [], [], 0),
  (72, .iconst 0, 1, [], [0], 0),
  (73, .putfield 52, 3, [6, 12, 0, 0], [], 0),
  (76, .aload_n 0, 1, [], [], 0),
  (77, .iconst (-1), 1, [], [(-1)], 0),
  (78, .putfield 55, 3, [6, 13, 0, 0], [], 0),
  (81, .iconst 1, 1, [], [1], 0),
  (82, .istore_n 1, 1, [], [], 0),
  (83, .iconst 0, 1, [], [0], 0),
  (84, .istore_n 2, 1, [], [], 0),
  (85, .iload_n 2, 1, [], [], 0),
  (91, .if_icmp .ge 58, 3, [149], [], 0),
  (96, .iload_n 2, 1, [], [], 0),
  (100, .istore_n 3, 1, [], [], 0),
  (101, .iload_n 3, 1, [], [], 0),
  (102, .bipush 32, 2, [], [32], 0),
  (104, .if_icmp .ne 9, 3, [113], [], 0),
  (107, .iinc 1 1, 3, [], [1], 0),
  (110, .goto 33, 3, [143], [], 0),
  (113, .iload_n 1, 1, [], [], 0),
  (114, .bipush 21, 2, [], [21], 0),
  (116, .if_icmp .gt 27, 3, [143], [], 0),
  (119, .aload_n 0, 1, [], [], 0),
  (120, .getfield 19, 3, [6, 2, 4, 2], [], 0),
  (123, .iload_n 1, 1, [], [], 0),
  (124, .aload_n 0, 1, [], [], 0),
  (125, .getfield 19, 3, [6, 2, 4, 2], [], 0),
  (128, .iload_n 1, 1, [], [], 0),
  (129, .laload, 1, [], [], 0),
  (130, .ldc2_w 70, 3, [], [], 32),
  (133, .lmul, 1, [], [], 0),
  (134, .iload_n 3, 1, [], [], 0),
  (135, .bipush 97, 2, [], [97], 0),
  (137, .isub, 1, [], [], 0),
  (138, .iconst 1, 1, [], [1], 0),
  (139, .iadd, 1, [], [], 0),
  (140, .i2l, 1, [], [], 0),
  (141, .ladd, 1, [], [], 0),
  (142, .lastore, 1, [], [], 0),
  (143, .iinc 2 1, 3, [], [1], 0),
  (146, .goto (-61), 3, [85], [], 0),
  (149, .return_, 1, [], [], 0)]
set_option maxRecDepth 100000 in
theorem rd_okE : ∀ e ∈ kRd, okE RX6 cX6_init 4 1 e = true := List.all_eq_true.mp (by decide +kernel)
set_option maxRecDepth 100000 in
theorem rd_need : ∀ e ∈ kRd, ∀ w ∈ needE RX6 e, w ∈ wsG := need_ok [157, 148, 260, 208, 209, 261, 211, 212, 214, 215, 216, 217, 218, 221, 224, 225, 226, 229, 211, 211, 207] (by decide +kernel) (by decide +kernel)
set_option maxRecDepth 100000 in
theorem wj_cs : Cond.fieldLink RJ0 38 "java/lang/String" "COMPACT_STRINGS" "Z" ∈ wsG := tb_mem 167 rfl rfl
set_option maxRecDepth 100000 in
theorem wj_co : Cond.fieldLink RJ0 15 "java/lang/String" "coder" "B" ∈ wsG := tb_mem 2052 rfl rfl
set_option maxRecDepth 100000 in
theorem wj_va : Cond.fieldLink RJ0 9 "java/lang/String" "value" "[B" ∈ wsG := tb_mem 2051 rfl rfl
set_option maxRecDepth 100000 in
theorem wj_fm : Cond.fieldLink RJ0 1053 "jdk/internal/util/Preconditions" "SIOOBE_FORMATTER" "Ljava/util/function/BiFunction;" ∈ wsG := tb_mem 183 rfl rfl
set_option maxRecDepth 100000 in
theorem wv_coder : ∀ w ∈ ([.methodLink RJ0 335 yJ0_coder_7d493, .instanceMethod yJ0_coder_7d493, .selects RJ0 yJ0_coder_7d493 yJ0_coder_7d493, .initialized RJ0] : List Cond), w ∈ wsG := tb_list [163, 164, 165, 123] (by decide +kernel) (by decide +kernel)
set_option maxRecDepth 100000 in
theorem wv_isLatin1 : ∀ w ∈ ([.methodLink RJ0 492 yJ0_isLatin1_aae02, .instanceMethod yJ0_isLatin1_aae02, .selects RJ0 yJ0_isLatin1_aae02 yJ0_isLatin1_aae02, .initialized RJ0] : List Cond), w ∈ wsG := tb_list [173, 174, 175, 123] (by decide +kernel) (by decide +kernel)
set_option maxRecDepth 100000 in
theorem wv_length : ∀ w ∈ ([.methodLink RX6 60 yJ0_length_8abf5, .instanceMethod yJ0_length_8abf5, .selects RJ0 yJ0_length_8abf5 yJ0_length_8abf5, .initialized RJ0] : List Cond), w ∈ wsG := tb_list [159, 160, 161, 123] (by decide +kernel) (by decide +kernel)
set_option maxRecDepth 100000 in
theorem wv_charAt : ∀ w ∈ ([.methodLink RX6 66 yJ0_charAt_5068e, .instanceMethod yJ0_charAt_5068e, .selects RJ0 yJ0_charAt_5068e yJ0_charAt_5068e, .initialized RJ0] : List Cond), w ∈ wsG := tb_list [169, 170, 171, 123] (by decide +kernel) (by decide +kernel)
set_option maxRecDepth 100000 in
theorem ws_c1 : ∀ w ∈ ([.methodLink RJ0 495 yJ1_charAt_3b067, .static yJ1_charAt_3b067, .initialized RJ1] : List Cond), w ∈ wsG := tb_list [177, 178, 124] (by decide +kernel) (by decide +kernel)
set_option maxRecDepth 100000 in
theorem ws_ci : ∀ w ∈ ([.methodLink RJ1 9 yJ0_checkIndex_df160, .static yJ0_checkIndex_df160, .initialized RJ0] : List Cond), w ∈ wsG := tb_list [180, 181, 123] (by decide +kernel) (by decide +kernel)
set_option maxRecDepth 100000 in
theorem ws_pre : ∀ w ∈ ([.methodLink RJ0 1059 yJ3_checkIndex_8e157, .static yJ3_checkIndex_8e157, .initialized RJ3] : List Cond), w ∈ wsG := tb_list [185, 186, 125] (by decide +kernel) (by decide +kernel)
noncomputable abbrev kc_coder : Cond := .code yJ0_coder_7d493 cJ0_coder_7d493 1 (some .byte)
set_option maxRecDepth 100000 in
theorem wc_coder : kc_coder ∈ wsG := tb_mem 166 rfl rfl
theorem dJ0_coder_7d493_0 : decode cJ0_coder_7d493 0 = .ok (.getstatic 38, 3) := by decide +kernel
theorem dJ0_coder_7d493_3 : decode cJ0_coder_7d493 3 = .ok (.ifCond .eq 10, 3) := by decide +kernel
theorem dJ0_coder_7d493_6 : decode cJ0_coder_7d493 6 = .ok (.aload_n 0, 1) := by decide +kernel
theorem dJ0_coder_7d493_7 : decode cJ0_coder_7d493 7 = .ok (.getfield 15, 3) := by decide +kernel
theorem dJ0_coder_7d493_10 : decode cJ0_coder_7d493 10 = .ok (.goto 4, 3) := by decide +kernel
theorem dJ0_coder_7d493_14 : decode cJ0_coder_7d493 14 = .ok (.ireturn, 1) := by decide +kernel
noncomputable abbrev kc_length : Cond := .code yJ0_length_8abf5 cJ0_length_8abf5 1 (some .int)
set_option maxRecDepth 100000 in
theorem wc_length : kc_length ∈ wsG := tb_mem 162 rfl rfl
theorem dJ0_length_8abf5_0 : decode cJ0_length_8abf5 0 = .ok (.aload_n 0, 1) := by decide +kernel
theorem dJ0_length_8abf5_1 : decode cJ0_length_8abf5 1 = .ok (.getfield 9, 3) := by decide +kernel
theorem dJ0_length_8abf5_4 : decode cJ0_length_8abf5 4 = .ok (.arraylength, 1) := by decide +kernel
theorem dJ0_length_8abf5_5 : decode cJ0_length_8abf5 5 = .ok (.aload_n 0, 1) := by decide +kernel
theorem dJ0_length_8abf5_6 : decode cJ0_length_8abf5 6 = .ok (.invokevirtual 335, 3) := by decide +kernel
theorem dJ0_length_8abf5_9 : decode cJ0_length_8abf5 9 = .ok (.ishr, 1) := by decide +kernel
theorem dJ0_length_8abf5_10 : decode cJ0_length_8abf5 10 = .ok (.ireturn, 1) := by decide +kernel
noncomputable abbrev kc_isLatin1 : Cond := .code yJ0_isLatin1_aae02 cJ0_isLatin1_aae02 1 (some .boolean)
set_option maxRecDepth 100000 in
theorem wc_isLatin1 : kc_isLatin1 ∈ wsG := tb_mem 176 rfl rfl
theorem dJ0_isLatin1_aae02_0 : decode cJ0_isLatin1_aae02 0 = .ok (.getstatic 38, 3) := by decide +kernel
theorem dJ0_isLatin1_aae02_3 : decode cJ0_isLatin1_aae02 3 = .ok (.ifCond .eq 14, 3) := by decide +kernel
theorem dJ0_isLatin1_aae02_6 : decode cJ0_isLatin1_aae02 6 = .ok (.aload_n 0, 1) := by decide +kernel
theorem dJ0_isLatin1_aae02_7 : decode cJ0_isLatin1_aae02 7 = .ok (.getfield 15, 3) := by decide +kernel
theorem dJ0_isLatin1_aae02_10 : decode cJ0_isLatin1_aae02 10 = .ok (.ifCond .ne 7, 3) := by decide +kernel
theorem dJ0_isLatin1_aae02_13 : decode cJ0_isLatin1_aae02 13 = .ok (.iconst 1, 1) := by decide +kernel
theorem dJ0_isLatin1_aae02_14 : decode cJ0_isLatin1_aae02 14 = .ok (.goto 4, 3) := by decide +kernel
theorem dJ0_isLatin1_aae02_18 : decode cJ0_isLatin1_aae02 18 = .ok (.ireturn, 1) := by decide +kernel
noncomputable abbrev kc_ci : Cond := .code yJ0_checkIndex_df160 cJ0_checkIndex_df160 2 none
set_option maxRecDepth 100000 in
theorem wc_ci : kc_ci ∈ wsG := tb_mem 182 rfl rfl
theorem dJ0_checkIndex_df160_0 : decode cJ0_checkIndex_df160 0 = .ok (.iload_n 0, 1) := by decide +kernel
theorem dJ0_checkIndex_df160_1 : decode cJ0_checkIndex_df160 1 = .ok (.iload_n 1, 1) := by decide +kernel
theorem dJ0_checkIndex_df160_2 : decode cJ0_checkIndex_df160 2 = .ok (.getstatic 1053, 3) := by decide +kernel
theorem dJ0_checkIndex_df160_5 : decode cJ0_checkIndex_df160 5 = .ok (.invokestatic 1059, 3) := by decide +kernel
theorem dJ0_checkIndex_df160_8 : decode cJ0_checkIndex_df160 8 = .ok (.pop, 1) := by decide +kernel
theorem dJ0_checkIndex_df160_9 : decode cJ0_checkIndex_df160 9 = .ok (.return_, 1) := by decide +kernel
noncomputable abbrev kc_c1 : Cond := .code yJ1_charAt_3b067 cJ1_charAt_3b067 2 (some .char)
set_option maxRecDepth 100000 in
theorem wc_c1 : kc_c1 ∈ wsG := tb_mem 179 rfl rfl
theorem dJ1_charAt_3b067_0 : decode cJ1_charAt_3b067 0 = .ok (.iload_n 1, 1) := by decide +kernel
theorem dJ1_charAt_3b067_1 : decode cJ1_charAt_3b067 1 = .ok (.aload_n 0, 1) := by decide +kernel
theorem dJ1_charAt_3b067_2 : decode cJ1_charAt_3b067 2 = .ok (.arraylength, 1) := by decide +kernel
theorem dJ1_charAt_3b067_3 : decode cJ1_charAt_3b067 3 = .ok (.invokestatic 9, 3) := by decide +kernel
theorem dJ1_charAt_3b067_6 : decode cJ1_charAt_3b067 6 = .ok (.aload_n 0, 1) := by decide +kernel
theorem dJ1_charAt_3b067_7 : decode cJ1_charAt_3b067 7 = .ok (.iload_n 1, 1) := by decide +kernel
theorem dJ1_charAt_3b067_8 : decode cJ1_charAt_3b067 8 = .ok (.baload, 1) := by decide +kernel
theorem dJ1_charAt_3b067_9 : decode cJ1_charAt_3b067 9 = .ok (.sipush 255, 3) := by decide +kernel
theorem dJ1_charAt_3b067_12 : decode cJ1_charAt_3b067 12 = .ok (.iand, 1) := by decide +kernel
theorem dJ1_charAt_3b067_13 : decode cJ1_charAt_3b067 13 = .ok (.i2c, 1) := by decide +kernel
theorem dJ1_charAt_3b067_14 : decode cJ1_charAt_3b067 14 = .ok (.ireturn, 1) := by decide +kernel
noncomputable abbrev kc_charAt : Cond := .code yJ0_charAt_5068e cJ0_charAt_5068e 2 (some .char)
set_option maxRecDepth 100000 in
theorem wc_charAt : kc_charAt ∈ wsG := tb_mem 172 rfl rfl
theorem dJ0_charAt_5068e_0 : decode cJ0_charAt_5068e 0 = .ok (.aload_n 0, 1) := by decide +kernel
theorem dJ0_charAt_5068e_1 : decode cJ0_charAt_5068e 1 = .ok (.invokevirtual 492, 3) := by decide +kernel
theorem dJ0_charAt_5068e_4 : decode cJ0_charAt_5068e 4 = .ok (.ifCond .eq 12, 3) := by decide +kernel
theorem dJ0_charAt_5068e_7 : decode cJ0_charAt_5068e 7 = .ok (.aload_n 0, 1) := by decide +kernel
theorem dJ0_charAt_5068e_8 : decode cJ0_charAt_5068e 8 = .ok (.getfield 9, 3) := by decide +kernel
theorem dJ0_charAt_5068e_11 : decode cJ0_charAt_5068e 11 = .ok (.iload_n 1, 1) := by decide +kernel
theorem dJ0_charAt_5068e_12 : decode cJ0_charAt_5068e 12 = .ok (.invokestatic 495, 3) := by decide +kernel
theorem dJ0_charAt_5068e_15 : decode cJ0_charAt_5068e 15 = .ok (.ireturn, 1) := by decide +kernel
noncomputable abbrev kc_pre : Cond := .code yJ3_checkIndex_8e157 cJ3_checkIndex_8e157 3 (some .int)
set_option maxRecDepth 100000 in
theorem wc_pre : kc_pre ∈ wsG := tb_mem 187 rfl rfl
theorem dJ3_checkIndex_8e157_0 : decode cJ3_checkIndex_8e157 0 = .ok (.iload_n 0, 1) := by decide +kernel
theorem dJ3_checkIndex_8e157_1 : decode cJ3_checkIndex_8e157 1 = .ok (.ifCond .lt 8, 3) := by decide +kernel
theorem dJ3_checkIndex_8e157_4 : decode cJ3_checkIndex_8e157 4 = .ok (.iload_n 0, 1) := by decide +kernel
theorem dJ3_checkIndex_8e157_5 : decode cJ3_checkIndex_8e157 5 = .ok (.iload_n 1, 1) := by decide +kernel
theorem dJ3_checkIndex_8e157_6 : decode cJ3_checkIndex_8e157 6 = .ok (.if_icmp .lt 10, 3) := by decide +kernel
theorem dJ3_checkIndex_8e157_16 : decode cJ3_checkIndex_8e157 16 = .ok (.iload_n 0, 1) := by decide +kernel
theorem dJ3_checkIndex_8e157_17 : decode cJ3_checkIndex_8e157 17 = .ok (.ireturn, 1) := by decide +kernel
noncomputable def rd_tx : String := "odds store times man due by has known cut split give take bake any when even holds lacks loop end stop"
set_option maxRecDepth 100000 in
theorem wt_tx : Cond.stringRef RX6 58 rd_tx ∈ lw_tbl := List.mem_of_getElem? (i := 158) (by decide +kernel)
set_option maxRecDepth 100000 in
theorem wt_cs : Cond.laysStatic "java/lang/String" "COMPACT_STRINGS" "Z" ∈ lw_tbl := List.mem_of_getElem? (i := 168) (by decide +kernel)
set_option maxRecDepth 100000 in
theorem wt_fm : Cond.laysStatic "jdk/internal/util/Preconditions" "SIOOBE_FORMATTER" "Ljava/util/function/BiFunction;" ∈ lw_tbl := List.mem_of_getElem? (i := 184) (by decide +kernel)
set_option maxRecDepth 100000 in
theorem wt_is : Cond.initialized "java/lang/String" ∈ lw_tbl := List.mem_of_getElem? (i := 123) (by decide +kernel)
set_option maxRecDepth 100000 in
theorem wt_ip : Cond.initialized "jdk/internal/util/Preconditions" ∈ lw_tbl := List.mem_of_getElem? (i := 125) (by decide +kernel)
theorem skp_start {p : Program} {s : State} {m : MethodId} {meth : Method} {c : Code} {b L : Nat} {xs : Nat → Int32} (C0 : lw_At p s m meth c b L xs) : SKp s.heap.size s := by
  obtain ⟨hx, hb, hr, hml, hown, hts, hX, hbl, hlocks, hgv⟩ := C0
  have hs := flat_of_before _ hgv
  have hA : ∀ a : Nat, a < s.heap.size → ¬ s.heap.size ≤ a := fun a h => by omega
  have z0 : ∀ i : Nat, i < 1 → i = 0 := fun i h => by omega
  have hel2 : ∀ j, j < 102 → (flatC (Jvm.Cond.and given_1 narrow_1))[52 + j]? = some (Cond.eq (.elem (.field (.string RX6 58) "java/lang/String" "value" "[B") (.int (Int32.ofNat j))) (.int (rd_by.getD j 0))) := by decide +kernel
  have hel : ∀ j, j < 102 → (Cond.eq (.elem (.field (.string RX6 58) "java/lang/String" "value" "[B") (.int (Int32.ofNat j))) (.int (rd_by.getD j 0))) ∈ flatC (Jvm.Cond.and given_1 narrow_1) := fun j hj => List.mem_of_getElem? (hel2 j hj)
  obtain ⟨adK, adV, hS, hE⟩ := vk_Sof (args := #[Value.ref b]) (s := s) (N := 1) (tm := fun _ => .string RX6 58) (len := [102]) (byt := [rd_by]) (A := fun q => s.heap.size ≤ q)
    (fun i hi => by rw [z0 i hi]; decide) (fun i hi => hs _ (by decide +kernel)) (fun i hi => hs _ (by decide +kernel)) (fun i hi => hs _ (by decide +kernel)) (fun i hi => by rw [z0 i hi]; exact hs _ (by decide +kernel))
    (fun i hi j hj => by rw [z0 i hi] at hj ⊢; exact hs _ (hel j hj)) (fun i j hi hj hn => absurd ((z0 i hi).trans (z0 j hj).symm) hn) hA
  refine ⟨rd_tx, adK 0, adV 0, rd_by, rfl, vk_R.of (hts _ wt_tx) (hE 0 (by decide)), ⟨fun i hi => ?_, fun i j hi hj _ => (z0 i hi).trans (z0 j hj).symm⟩, va_Zof (hts _ wt_cs) (hts _ wt_is) (va_eqi (hs _ (by decide +kernel))) hA, va_Zqof (hts _ wt_fm) (hts _ wt_ip) (hs _ (by decide +kernel)) hA⟩
  rw [z0 i hi]
  exact hS.1 0 (by decide)
/-! ===== the JDK's length() and charAt() of the one text ===== -/
noncomputable def nF : Nat → Prop := fun _ => False
noncomputable def SKc (aK aV : Nat) (byt : List Int32) (U : State) : Prop := vk_S 1 [102] [byt] (fun _ => aK) (fun _ => aV) nF U U.heap ∧ va_Z "java/lang/String" "COMPACT_STRINGS" "Z" (.int 1) nF U U.heap ∧ va_Zq "jdk/internal/util/Preconditions" "SIOOBE_FORMATTER" "Ljava/util/function/BiFunction;" nF U U.heap
theorem SKc.next {aK aV : Nat} {byt : List Int32} {s U : State} (hW : s.WarmedH U.vm) (hq : ∀ a : Nat, a < s.heap.size → U.heap[a]? = s.heap[a]?) (h : SKc aK aV byt s) : SKc aK aV byt U :=
  ⟨(vk_S.moved hW.alike h.1).kept (fun a h1 _ => hq a h1), (va_Z.moved hW.alike h.2.1).kept (fun a h1 _ => hq a h1), (va_Zq.moved hW.alike h.2.2).kept (fun a h1 _ => hq a h1)⟩
theorem SKc.blind {aK aV : Nat} {byt : List Int32} {av : List Value} : FrameBlind (va_Pc av (SKc aK aV byt)) := fun a U g mk q => ⟨q.1, SKc.next (s := U) (U := U.calling g mk a) (State.WarmedH.refl U) (fun _ _ => rfl) q.2⟩
noncomputable def wsY (w : Cond) : List Cond := w :: wsG
theorem wsY_in {w0 : Cond} : ∀ w ∈ wsG, w ∈ wsY w0 := fun _ h => List.mem_cons_of_mem _ h
theorem wsY_good {Ts : List Cond} {w0 : Cond} (hG : ∀ w ∈ wsG, w ∈ Ts) (hq : w0 ∈ wsG) : GoodIn Ts (wsY w0) := by
  intro w hw
  rcases List.mem_cons.mp hw with rfl | h
  · exact ⟨hG _ hq, good_of_word (wsG_good hq)⟩
  · exact ⟨hG _ h, good_of_word (wsG_good h)⟩
noncomputable abbrev QJ (P : Int32 → Prop) : Array Value → State → Outcome → State → Prop := va_Qi (fun x (_ : Unit) => P x) (fun _ _ => True) nF
theorem m_coder (l : Launch) {aK aV : Nat} {byt : List Int32} : Met l yJ0_coder_7d493 (wsY kc_coder) (rmD 1 0 0) (va_Pc [.ref aK] (SKc aK aV byt)) (QJ (fun x => x = 0)) 0 0 nF := by
  refine Met.ofW (cc := cJ0_coder_7d493) (maxL := 1) (ret := some .byte) (by decide) rfl ?_
  intro p e s m args below meth c s₁ B hml hv
  obtain ⟨rfl, hv⟩ := hv
  have hx := B.exec
  have hb := B.bytes
  have hr := B.returns
  have hts := atoms_spec (ws := wsY kc_coder) B.pre
  have hG := fun w h => hts w (wsY_in w h)
  have hown : s.vm.findClass RJ0 = some m.cls := findClass_of_methodNamed B.named
  have hlocks := B.notSynchronized
  have hl := lv_entry ([.ref aK]) (n := 1) (Nat.le_of_ble_eq_true rfl)
  rw [lg_entry_eq]
  have hS : va_S nF s.heap s.heap [] := va_S.rf
  have l0 := lv_at hl 0 (i := 0) (v := .ref aK) rfl
  refine va_gets hx hb hv.2.1 hS hown (hG _ wj_cs) (fun _ h => h) dJ0_coder_7d493_0 ?_
  refine lv_if_eq hx hb dJ0_coder_7d493_3 (tgt := 13) (by decide) (fun h => absurd h (by decide)) (fun _ => ?_)
  refine lv_aload_n hx hb dJ0_coder_7d493_6 rfl l0 ?_
  refine vk_getf hx hb (hv.1.1 0 (by decide)).2.1 hS hown (hG _ wj_co) (fun _ h => h) dJ0_coder_7d493_7 ?_
  refine lv_goto hx hb dJ0_coder_7d493_10 (tgt := 14) (by decide) ?_
  exact W.zret (ty := .byte) hx hb hr rfl (fun t ht hW => ⟨⟨0, (), rfl, rfl, trivial⟩, hS.F ht⟩) hS.2.2 dJ0_coder_7d493_14
theorem m_isLatin1 (l : Launch) {aK aV : Nat} {byt : List Int32} : Met l yJ0_isLatin1_aae02 (wsY kc_isLatin1) (rmD 1 0 0) (va_Pc [.ref aK] (SKc aK aV byt)) (QJ (fun x => x = 1)) 0 0 nF := by
  refine Met.ofW (cc := cJ0_isLatin1_aae02) (maxL := 1) (ret := some .boolean) (by decide) rfl ?_
  intro p e s m args below meth c s₁ B hml hv
  obtain ⟨rfl, hv⟩ := hv
  have hx := B.exec
  have hb := B.bytes
  have hr := B.returns
  have hts := atoms_spec (ws := wsY kc_isLatin1) B.pre
  have hG := fun w h => hts w (wsY_in w h)
  have hown : s.vm.findClass RJ0 = some m.cls := findClass_of_methodNamed B.named
  have hlocks := B.notSynchronized
  have hl := lv_entry ([.ref aK]) (n := 1) (Nat.le_of_ble_eq_true rfl)
  rw [lg_entry_eq]
  have hS : va_S nF s.heap s.heap [] := va_S.rf
  have l0 := lv_at hl 0 (i := 0) (v := .ref aK) rfl
  refine va_gets hx hb hv.2.1 hS hown (hG _ wj_cs) (fun _ h => h) dJ0_isLatin1_aae02_0 ?_
  refine lv_if_eq hx hb dJ0_isLatin1_aae02_3 (tgt := 17) (by decide) (fun h => absurd h (by decide)) (fun _ => ?_)
  refine lv_aload_n hx hb dJ0_isLatin1_aae02_6 rfl l0 ?_
  refine vk_getf hx hb (hv.1.1 0 (by decide)).2.1 hS hown (hG _ wj_co) (fun _ h => h) dJ0_isLatin1_aae02_7 ?_
  refine lv_if_ne hx hb dJ0_isLatin1_aae02_10 (tgt := 17) (by decide) (fun h => absurd rfl h) (fun _ => ?_)
  refine lv_iconst hx hb dJ0_isLatin1_aae02_13 (v := 1) (by decide) ?_
  refine lv_goto hx hb dJ0_isLatin1_aae02_14 (tgt := 18) (by decide) ?_
  exact W.zret (ty := .boolean) hx hb hr rfl (fun t ht hW => ⟨⟨1, (), rfl, rfl, trivial⟩, hS.F ht⟩) hS.2.2 dJ0_isLatin1_aae02_18
theorem m_length (l : Launch) {aK aV : Nat} {byt : List Int32} : Met l yJ0_length_8abf5 (wsY kc_length) (rmD 2 0 0) (va_Pc [.ref aK] (SKc aK aV byt)) (QJ (fun x => x = 102)) 0 0 nF := by
  refine Met.ofW (cc := cJ0_length_8abf5) (maxL := 1) (ret := some .int) (by decide) rfl ?_
  intro p e s m args below meth c s₁ B hml hv
  obtain ⟨rfl, hv⟩ := hv
  have hx := B.exec
  have hb := B.bytes
  have hr := B.returns
  have hts := atoms_spec (ws := wsY kc_length) B.pre
  have hG := fun w h => hts w (wsY_in w h)
  have hown : s.vm.findClass RJ0 = some m.cls := findClass_of_methodNamed B.named
  have hlocks := B.notSynchronized
  have hl := lv_entry ([.ref aK]) (n := 1) (Nat.le_of_ble_eq_true rfl)
  rw [lg_entry_eq]
  have hS : va_S nF s.heap s.heap [] := va_S.rf
  have l0 := lv_at hl 0 (i := 0) (v := .ref aK) rfl
  have hT : va_T .byte aV 102 (fun j => .int (byt.getD j 0)) nF s s.heap := (hv.1.1 0 (by decide)).2.2.2
  refine lv_aload_n hx hb dJ0_length_8abf5_0 rfl l0 ?_
  refine vk_getf hx hb (hv.1.1 0 (by decide)).2.2.1 hS hown (hG _ wj_va) (fun _ h => h) dJ0_length_8abf5_1 ?_
  refine va_tlen hx hb hT hS (v := 102) (by decide) dJ0_length_8abf5_4 ?_
  refine lv_aload_n hx hb dJ0_length_8abf5_5 rfl l0 ?_
  refine va_calli (va_runV (As := []) (b := aK) (rest := [.int 102]) ⟨hx, hb, hml, hown, hts⟩ (m_coder l (aK := aK) (aV := aV) (byt := byt))
    (cwV 0 hts (by unfold wsV; exact good_app (good_list wsY_in wv_coder) (wsY_good wsY_in wc_coder)) rfl rfl rfl ⟨rfl, by decide +kernel⟩ ⟨by decide, by decide⟩)
    ⟨SKc.blind, vk_recv (i := 0) hv.1 (by decide) hS, fun U hU hW => ⟨rfl, SKc.next hW (fun a _ => by rw [hU]) hv⟩⟩ rfl rfl hl.1 rfl (Nat.le_of_ble_eq_true rfl) dJ0_length_8abf5_6 ⟨Nat.le_refl _, Nat.le_refl _⟩) hS (fun _ _ h => h) (fun _ h => h) (fun x u t H1 locs1 ht hal hp hB hz hk hS1 => ?_)
  subst hp
  refine lv_ishr hx hb dJ0_length_8abf5_9 ?_
  exact W.iret hx hb hr (fun t ht hW => ⟨⟨102, (), rfl, rfl, trivial⟩, hS1.F ht⟩) hS1.2.2 dJ0_length_8abf5_10
theorem m_pre (l : Launch) {i : Int32} {v : Value} (h0 : ¬ i < 0) (h1 : i < 102) (hv0 : v = .null ∨ ∃ t, v = .ref t) : Met l yJ3_checkIndex_8e157 (wsY kc_pre) (rmD 1 0 0) (va_Pc [.int i, .int 102, v] (fun _ => True)) (QJ (fun _ => True)) 0 0 nF := by
  refine Met.ofW (cc := cJ3_checkIndex_8e157) (maxL := 3) (ret := some .int) (by decide) rfl ?_
  intro p e s m args below meth c s₁ B hml hv
  obtain ⟨rfl, hv⟩ := hv
  have hx := B.exec
  have hb := B.bytes
  have hr := B.returns
  have hlocks := B.notSynchronized
  have hl := lv_entry ([.int i, .int 102, v]) (n := 3) (by rcases hv0 with rfl | ⟨t, rfl⟩ <;> exact Nat.le_of_ble_eq_true rfl)
  rw [lg_entry_eq]
  have hS : va_S nF s.heap s.heap [] := va_S.rf
  have l0 := lv_at hl 0 (i := 0) (v := .int i) rfl
  have l1 := lv_at hl 1 (i := 1) (v := .int 102) rfl
  refine lv_iload_n hx hb dJ3_checkIndex_8e157_0 rfl l0 ?_
  refine lv_if_lt hx hb dJ3_checkIndex_8e157_1 (tgt := 9) (by decide) (fun h => absurd h h0) (fun _ => ?_)
  refine lv_iload_n hx hb dJ3_checkIndex_8e157_4 rfl l0 ?_
  refine lv_iload_n hx hb dJ3_checkIndex_8e157_5 rfl l1 ?_
  refine lv_icmp_lt hx hb dJ3_checkIndex_8e157_6 (tgt := 16) (by decide) (fun _ => ?_) (fun h => absurd h1 h)
  refine lv_iload_n hx hb dJ3_checkIndex_8e157_16 rfl l0 ?_
  exact W.iret hx hb hr (fun t ht hW => ⟨⟨i, (), rfl, trivial, trivial⟩, hS.F ht⟩) hS.2.2 dJ3_checkIndex_8e157_17
theorem m_ci (l : Launch) {aK aV : Nat} {byt : List Int32} {i : Int32} (h0 : ¬ i < 0) (h1 : i < 102) : Met l yJ0_checkIndex_df160 (wsY kc_ci) (rmD 2 0 0) (va_Pc [.int i, .int 102] (SKc aK aV byt)) (va_Qv (fun (_ : Unit) => True) (fun _ _ => True) nF) 0 0 nF := by
  refine Met.ofW (cc := cJ0_checkIndex_df160) (maxL := 2) (ret := none) (by decide) rfl ?_
  intro p e s m args below meth c s₁ B hml hv
  obtain ⟨rfl, hv⟩ := hv
  have hx := B.exec
  have hb := B.bytes
  have hr := B.returns
  have hts := atoms_spec (ws := wsY kc_ci) B.pre
  have hG := fun w h => hts w (wsY_in w h)
  have hown : s.vm.findClass RJ0 = some m.cls := findClass_of_methodNamed B.named
  have hlocks := B.notSynchronized
  have hl := lv_entry ([.int i, .int 102]) (n := 2) (Nat.le_of_ble_eq_true rfl)
  rw [lg_entry_eq]
  have hS : va_S nF s.heap s.heap [] := va_S.rf
  have l0 := lv_at hl 0 (i := 0) (v := .int i) rfl
  have l1 := lv_at hl 1 (i := 1) (v := .int 102) rfl
  refine lv_iload_n hx hb dJ0_checkIndex_df160_0 rfl l0 ?_
  refine lv_iload_n hx hb dJ0_checkIndex_df160_1 rfl l1 ?_
  have key : ∀ v : Value, (v = .null ∨ ∃ t, v = .ref t) → va_Z "jdk/internal/util/Preconditions" "SIOOBE_FORMATTER" "Ljava/util/function/BiFunction;" v nF s s.heap → W p l e (rmD 2 0 0) s m ([.int i, .int 102] : List Value).toArray below meth c s.heap [] 0 0 (MQ below (va_Qv (fun (_ : Unit) => True) (fun _ _ => True) nF) ([.int i, .int 102] : List Value).toArray s 0 0 nF) (F0 m 2 ((lg_sl ([.int i, .int 102] : List Value) ++ List.replicate (2 - (lg_sl ([.int i, .int 102] : List Value)).length) Slot.unset).toArray) [.int 102, .int i]) := by
    intro v hv0 hZ
    refine va_gets hx hb hZ hS hown (hG _ wj_fm) (fun _ h => h) dJ0_checkIndex_df160_2 ?_
    refine va_calli (va_runS (As := [.int i, .int 102, v]) (rest := []) ⟨hx, hb, hml, hown, hts⟩ (m_pre l h0 h1 hv0)
      (va_cwS 3 hts (by unfold va_wsS; exact good_app (good_list wsY_in ws_pre) (wsY_good wsY_in wc_pre)) rfl rfl rfl (by decide +kernel) ⟨by decide, by decide⟩)
      ⟨fun a U g mk q => q, fun U hU hW => ⟨rfl, trivial⟩⟩ rfl rfl hl.1 rfl (Nat.le_of_ble_eq_true rfl) dJ0_checkIndex_df160_5 ⟨Nat.le_refl _, Nat.le_refl _⟩) hS (fun _ _ h => h) (fun _ h => h) (fun x u t H1 locs1 ht hal hp hB hz hk hS1 => ?_)
    refine lv_pop hx hb dJ0_checkIndex_df160_8 rfl ?_
    exact W.vret hx hb hr (fun t ht hW => ⟨⟨(), rfl, trivial, trivial⟩, hS1.F ht⟩) hS1.2.2 dJ0_checkIndex_df160_9
  rcases hv.2.2 with hZ | ⟨t, hZ⟩
  · exact key .null (Or.inl rfl) hZ
  · exact key (.ref t) (Or.inr ⟨t, rfl⟩) hZ
theorem m_c1 (l : Launch) {aK aV : Nat} {byt : List Int32} {i : Int32} (h0 : ¬ i < 0) (h1 : i < 102) : Met l yJ1_charAt_3b067 (wsY kc_c1) (rmD 3 0 0) (va_Pc [.ref aV, .int i] (SKc aK aV byt)) (QJ (fun x => x = byt.getD i.toNatClampNeg 0 &&& 255)) 0 0 nF := by
  refine Met.ofW (cc := cJ1_charAt_3b067) (maxL := 2) (ret := some .char) (by decide) rfl ?_
  intro p e s m args below meth c s₁ B hml hv
  obtain ⟨rfl, hv⟩ := hv
  have hx := B.exec
  have hb := B.bytes
  have hr := B.returns
  have hts := atoms_spec (ws := wsY kc_c1) B.pre
  have hown : s.vm.findClass RJ1 = some m.cls := findClass_of_methodNamed B.named
  have hlocks := B.notSynchronized
  have hl := lv_entry ([.ref aV, .int i]) (n := 2) (Nat.le_of_ble_eq_true rfl)
  rw [lg_entry_eq]
  have hS : va_S nF s.heap s.heap [] := va_S.rf
  have l0 := lv_at hl 0 (i := 0) (v := .ref aV) rfl
  have l1 := lv_at hl 1 (i := 1) (v := .int i) rfl
  have hT : va_T .byte aV 102 (fun j => .int (byt.getD j 0)) nF s s.heap := (hv.1.1 0 (by decide)).2.2.2
  refine lv_iload_n hx hb dJ1_charAt_3b067_0 rfl l1 ?_
  refine lv_aload_n hx hb dJ1_charAt_3b067_1 rfl l0 ?_
  refine va_tlen hx hb hT hS (v := 102) (by decide) dJ1_charAt_3b067_2 ?_
  refine va_callv (va_runS (As := [.int i, .int 102]) (rest := []) ⟨hx, hb, hml, hown, hts⟩ (m_ci l (aK := aK) (aV := aV) (byt := byt) h0 h1)
    (va_cwS 2 hts (by unfold va_wsS; exact good_app (good_list wsY_in ws_ci) (wsY_good wsY_in wc_ci)) rfl rfl rfl (by decide +kernel) ⟨by decide, by decide⟩)
    ⟨SKc.blind, fun U hU hW => ⟨rfl, SKc.next hW (fun a _ => by rw [hU]) hv⟩⟩ rfl rfl hl.1 rfl (Nat.le_of_ble_eq_true rfl) dJ1_charAt_3b067_3 ⟨Nat.le_refl _, Nat.le_refl _⟩) hS (fun _ _ h => h) (fun _ h => h) (fun u t H1 locs1 ht hal hp hB hz hk hS1 => ?_)
  refine lv_aload_n hx hb dJ1_charAt_3b067_6 rfl l0 ?_
  refine lv_iload_n hx hb dJ1_charAt_3b067_7 rfl l1 ?_
  have hin : vp_in i 102 := by
    have e1 : ¬ i.toInt < 0 := fun z => h0 (Int32.lt_iff_toInt_lt.mpr z)
    have e2 : i.toInt < 102 := Int32.lt_iff_toInt_lt.mp h1
    exact vp_in_iff.mpr ⟨by omega, by omega⟩
  refine va_tb hx hb hT hS1 hin rfl dJ1_charAt_3b067_8 ?_
  refine lv_sipush hx hb dJ1_charAt_3b067_9 (v := 255) (by decide) ?_
  refine lv_iand hx hb dJ1_charAt_3b067_12 ?_
  refine lv_i2c hx hb dJ1_charAt_3b067_13 (sc_c2 _) ?_
  exact W.zret (ty := .char) hx hb hr (sc_nar _) (fun t ht hW => ⟨⟨_, (), rfl, rfl, trivial⟩, hS1.F ht⟩) hS1.2.2 dJ1_charAt_3b067_14
theorem m_charAt (l : Launch) {aK aV : Nat} {byt : List Int32} {i : Int32} (h0 : ¬ i < 0) (h1 : i < 102) : Met l yJ0_charAt_5068e (wsY kc_charAt) (rmD 4 0 0) (va_Pc [.ref aK, .int i] (SKc aK aV byt)) (QJ (fun x => x = byt.getD i.toNatClampNeg 0 &&& 255)) 0 0 nF := by
  refine Met.ofW (cc := cJ0_charAt_5068e) (maxL := 2) (ret := some .char) (by decide) rfl ?_
  intro p e s m args below meth c s₁ B hml hv
  obtain ⟨rfl, hv⟩ := hv
  have hx := B.exec
  have hb := B.bytes
  have hr := B.returns
  have hts := atoms_spec (ws := wsY kc_charAt) B.pre
  have hG := fun w h => hts w (wsY_in w h)
  have hown : s.vm.findClass RJ0 = some m.cls := findClass_of_methodNamed B.named
  have hlocks := B.notSynchronized
  have hl := lv_entry ([.ref aK, .int i]) (n := 2) (Nat.le_of_ble_eq_true rfl)
  rw [lg_entry_eq]
  have hS : va_S nF s.heap s.heap [] := va_S.rf
  have l0 := lv_at hl 0 (i := 0) (v := .ref aK) rfl
  have l1 := lv_at hl 1 (i := 1) (v := .int i) rfl
  refine lv_aload_n hx hb dJ0_charAt_5068e_0 rfl l0 ?_
  refine va_calli (va_runV (As := []) (b := aK) (rest := []) ⟨hx, hb, hml, hown, hts⟩ (m_isLatin1 l (aK := aK) (aV := aV) (byt := byt))
    (cwV 0 hts (by unfold wsV; exact good_app (good_list wsY_in wv_isLatin1) (wsY_good wsY_in wc_isLatin1)) rfl rfl rfl ⟨rfl, by decide +kernel⟩ ⟨by decide, by decide⟩)
    ⟨SKc.blind, vk_recv (i := 0) hv.1 (by decide) hS, fun U hU hW => ⟨rfl, SKc.next hW (fun a _ => by rw [hU]) hv⟩⟩ rfl rfl hl.1 rfl (Nat.le_of_ble_eq_true rfl) dJ0_charAt_5068e_1 ⟨Nat.le_refl _, Nat.le_refl _⟩) hS (fun _ _ h => h) (fun _ h => h) (fun x u t H1 locs1 ht hal hp hB hz hk hS1 => ?_)
  subst hp
  refine lv_if_eq hx hb dJ0_charAt_5068e_4 (tgt := 16) (by decide) (fun h => absurd h (by decide)) (fun _ => ?_)
  refine lv_aload_n hx hb dJ0_charAt_5068e_7 rfl l0 ?_
  refine vk_getf hx hb (hv.1.1 0 (by decide)).2.2.1 hS1 hown (hG _ wj_va) (fun _ h => h) dJ0_charAt_5068e_8 ?_
  refine lv_iload_n hx hb dJ0_charAt_5068e_11 rfl l1 ?_
  refine va_calli (va_runS (As := [.ref aV, .int i]) (rest := []) ⟨hx, hb, hml, hown, hts⟩ (m_c1 l (aK := aK) (aV := aV) (byt := byt) h0 h1)
    (va_cwS 2 hts (by unfold va_wsS; exact good_app (good_list wsY_in ws_c1) (wsY_good wsY_in wc_c1)) rfl rfl rfl (by decide +kernel) ⟨by decide, by decide⟩)
    ⟨SKc.blind, fun U hU hW => ⟨rfl, SKc.next hW (fun a ha => by rw [hU]; exact hk a ha (fun z => z)) hv⟩⟩ rfl rfl hl.1 rfl (Nat.le_of_ble_eq_true rfl) dJ0_charAt_5068e_12 ⟨Nat.le_refl _, Nat.le_refl _⟩) hS1 (fun _ _ h => h) (fun _ h => h) (fun x u t H2 locs2 ht2 hal2 hp2 hB2 hz2 hk2 hS2 => ?_)
  exact W.zret (ty := .char) hx hb hr (by rw [hp2]; exact sc_nar _) (fun t ht hW => ⟨⟨x, (), rfl, hp2, trivial⟩, hS2.F ht⟩) hS2.2.2 dJ0_charAt_5068e_15
end PT15x5
section PT15x6
/-! ===== the plate: the scribe's table ===== -/
noncomputable def wc (f : Nat → Int32) (n : Nat) (I : Im) (M k : Nat) : Prop := M.testBit k = false ∧ smN f n (M ||| 2 ^ k) ≤ 2329089562800 ∧ I 48 (M ||| 2 ^ k) = 0
theorem p2_12 {n : Nat} (h : n ≤ 12) : 2 ^ n ≤ 4096 := Nat.pow_le_pow_right (by decide) h
theorem px_winningPlace {d n M : Nat} {f : Nat → Int32} {Q : Qt} {v1 : Int32} {I : Im} {J : Jm} {R : Rm} (hn : (I 45 1).toInt = n) (hn12 : n ≤ 12) (hJ : ∀ m, m < 2 ^ n → (J 47 m).toInt = smN f n m) (hv : v1.toInt = M) (hM : M < 2 ^ n) (hQ : ∀ x : Int32, LW n (wc f n I M) x.toInt → Q x 0 I J R) : AM (d + 1) 92 112 [.ref 45, .int v1] I J R Q := by
  have h4096 := p2_12 hn12
  refine am_X9_winningPlace (fun P hc => ?_)
  have L : ∀ m k : Nat, k ≤ n → n - k < m → (∀ j, j < k → ¬ wc f n I M j) → P 2 112 [(0, .ref 45), (1, .int v1), (2, .int (nI k))] [] I J R := by
    intro m
    induction m with
    | zero => intro k h1 h2; omega
    | succ m ih =>
      intro k hk hm hc0
      have hkI : (nI k).toInt = k := nI_toInt (by omega)
      have next : k < n → ¬ wc f n I M k → P 2 112 [(0, .ref 45), (1, .int v1), (2, .int (nI k + 1))] [] I J R := fun hlt q => by
        rw [nI_k1]
        exact ih (k + 1) (by omega) (by omega) (fun j hj => by
          by_cases e : j = k
          · rw [e]; exact q
          · exact hc0 j (by omega))
      refine sg_X9_winningPlace_2 hc _ _ _ _ _ ⟨fun c1 => ?_, fun c1 => ?_⟩
      · have d1 := ci_le hn hkI c1
        exact hQ _ (Or.inl ⟨rfl, fun j hj => hc0 j (by omega)⟩)
      · have d1 := ci_nle hn hkI c1
        have hkn : k < n := by omega
        have hor := orI (v1 := v1) (v2 := nI k) (by omega) (by omega)
        have hif := orI_iff (v1 := v1) (v2 := nI k) (by omega) (by omega)
        rw [hv, hkI, Int.toNat_natCast, Int.toNat_natCast] at hor hif
        have hX := or_lt hM hkn
        refine ⟨fun c2 => next hkn (fun q => ?_), fun c2 => ?_⟩
        · have := hif.mp c2
          rw [q.1] at this; cases this
        · have hb : M.testBit k = false := by
            cases e : M.testBit k with
            | false => rfl
            | true => exact absurd (hif.mpr e) c2
          rw [hor, tn_nI (by omega)]
          have hXi : (nI (M ||| 2 ^ k)).toInt = ((M ||| 2 ^ k : Nat) : Int) := nI_toInt (by omega)
          refine ⟨vp_of hXi (by omega) (by omega), fun c3 => next hkn (fun q => ?_), fun c3 => ⟨vp_of hXi (by omega) (by omega), fun c4 => next hkn (fun q => c4 q.2.2), fun c4 => ?_⟩⟩
          · rw [lg_cmp_gt] at c3
            have d2 := cl_lt (show (2329089562800 : Int64).toInt = 2329089562800 from rfl) (hJ _ hX) c3
            have := q.2.1
            omega
          · rw [lg_cmp_gt] at c3
            have d2 := cl_nlt (show (2329089562800 : Int64).toInt = 2329089562800 from rfl) (hJ _ hX) c3
            refine hQ _ (Or.inr ⟨by omega, by omega, ?_, ?_⟩)
            · rw [hkI, Int.toNat_natCast]; exact ⟨hb, d2, c4⟩
            · rw [hkI, Int.toNat_natCast]; exact hc0
  refine sg_X9_winningPlace_0 hc _ _ _ _ ?_
  exact L (n + 1) 0 (by omega) (by omega) (fun j hj => by omega)
theorem LW.none {n : Nat} {c : Nat → Prop} {x : Int} (h : LW n c x) : x = -1 ↔ ∀ k, k < n → ¬ c k := by
  rcases h with ⟨h1, h2⟩ | ⟨h1, h2, h3, h4⟩
  · exact ⟨fun _ => h2, fun _ => h1⟩
  · exact ⟨fun q => by omega, fun q => absurd h3 (q _ (by omega))⟩
theorem LW.mono {n : Nat} {c e : Nat → Prop} {x : Int} (h : LW n c x) (q : ∀ k, k < n → (c k ↔ e k)) : LW n e x := by
  rcases h with ⟨h1, h2⟩ | ⟨h1, h2, h3, h4⟩
  · exact Or.inl ⟨h1, fun k hk => fun z => h2 k hk ((q k hk).mpr z)⟩
  · exact Or.inr ⟨h1, h2, (q _ (by omega)).mp h3, fun k hk => fun z => h4 k hk ((q k (by omega)).mpr z)⟩
theorem px_firstWinning {d n : Nat} {f : Nat → Int32} {Q : Qt} {I : Im} {J : Jm} {R : Rm} (hB0 : Bd I) (hn : (I 45 1).toInt = n) (hn12 : n ≤ 12) (hJ : ∀ m, m < 2 ^ n → (J 47 m).toInt = smN f n m) (hQ : ∀ (x : Int32) (I2 : Im), Bd I2 → (∀ o, ¬ o = 48 → I2 o = I o) → (∃ W, WinR f n W ∧ LW n (fun k => smN f n (2 ^ k) ≤ 2329089562800 ∧ ¬ W (2 ^ k)) x.toInt) → Q x 0 I2 J R) : AM (d + 2) 91 112 [.ref 45] I J R Q := by
  have h4096 := p2_12 hn12
  refine am_X9_firstWinning (fun P hc => ?_)
  have L : ∀ (m : Nat) (N : Im), Bd N → m < 2 ^ n → (∀ o, ¬ o = 48 → N o = I o) → (∀ M, m < M → M < 2 ^ n → smN f n M ≤ 2329089562800 → (N 48 M = 0 ↔ ∀ k, k < n → ¬ wc f n N M k)) → P 9 112 [(0, .ref 45), (1, .int (nI m))] [] N J R := by
    intro m
    induction m with
    | zero =>
      intro N hB hm hN hT
      have hnN : (N 45 1).toInt = n := by rw [hN 45 (by decide)]; exact hn
      refine sg_X9_firstWinning_9 hc _ _ _ _ ⟨fun c1 => ?_, fun c1 => absurd (show nI 0 ≤ 0 by decide) c1⟩
      refine px_winningPlace (M := 0) hnN hn12 hJ rfl (by omega) (fun x hx => ?_)
      refine hQ x N hB hN ⟨fun M => ¬ N 48 M = 0, fun M h1 h2 h3 => ?_, hx.mono (fun k hk => ?_)⟩
      · show ¬ N 48 M = 0 ↔ ∃ k, k < n ∧ M.testBit k = false ∧ smN f n (M ||| 2 ^ k) ≤ 2329089562800 ∧ ¬ ¬ N 48 (M ||| 2 ^ k) = 0
        rw [hT M h1 h2 h3]
        constructor
        · intro q
          refine Classical.byContradiction (fun z => q (fun k hk w => z ⟨k, hk, w.1, w.2.1, fun y => y w.2.2⟩))
        · rintro ⟨k, hk, a, b, c⟩ q
          exact q k hk ⟨a, b, Classical.byContradiction c⟩
      · unfold wc
        rw [Nat.zero_or, Nat.zero_testBit]
        exact ⟨fun q => ⟨q.2.1, fun z => z q.2.2⟩, fun q => ⟨rfl, q.1, Classical.byContradiction q.2⟩⟩
    | succ m ih =>
      intro N hB hm hN hT
      have hnN : (N 45 1).toInt = n := by rw [hN 45 (by decide)]; exact hn
      have hmI : (nI (m + 1)).toInt = ((m + 1 : Nat) : Int) := nI_toInt (by omega)
      have hdec : nI (m + 1) + (-1) = nI m := Int32.toInt_inj.mp (by
        rw [ti_add hmI (show (-1 : Int32).toInt = -1 from rfl) (by omega), nI_toInt (by omega)]; omega)
      refine sg_X9_firstWinning_9 hc _ _ _ _ ⟨fun c1 => ?_, fun c1 => ?_⟩
      · have := ci_le hmI (show (0 : Int32).toInt = 0 from rfl) c1
        omega
      · rw [tn_nI (by omega), hdec]
        refine ⟨vp_of hmI (by omega) (by omega), fun c2 => ?_, fun c2 => ?_⟩
        · rw [lg_cmp_gt] at c2
          have d2 := cl_lt (show (2329089562800 : Int64).toInt = 2329089562800 from rfl) (hJ _ hm) c2
          refine ih N hB (by omega) hN (fun M h1 h2 h3 => ?_)
          by_cases e : M = m + 1
          · subst e; omega
          · exact hT M (by omega) h2 h3
        · have wr : ∀ v : Int32, (v = 0 ↔ ∀ k, k < n → ¬ wc f n N (m + 1) k) → P 9 112 [(0, .ref 45), (1, .int (nI m))] [] (uI N 48 (m + 1) v) J R := fun v hv => by
            refine ih _ (Bd.a0 hB (show isA 112 48 2 = true from rfl) (show bna 48 = none from rfl)) (by omega) (fun o ho => ?_) (fun M h1 h2 h3 => ?_)
            · rw [uI_ne ho]; exact hN o ho
            · have e1 : ∀ M', ¬ M' = m + 1 → uI N 48 (m + 1) v 48 M' = N 48 M' := fun M' q => by simp [uI, upd, q]
              have e2 : ∀ k, k < n → (wc f n (uI N 48 (m + 1) v) M k ↔ wc f n N M k) := fun k hk => by
                unfold wc
                constructor
                · rintro ⟨a, b, c⟩
                  have := or_gt a
                  rw [e1 _ (by omega)] at c
                  exact ⟨a, b, c⟩
                · rintro ⟨a, b, c⟩
                  have := or_gt a
                  refine ⟨a, b, ?_⟩
                  rw [e1 _ (by omega)]; exact c
              by_cases e : M = m + 1
              · subst e
                rw [rd_eq, hv]
                exact ⟨fun q k hk z => q k hk ((e2 k hk).mp z), fun q k hk z => q k hk ((e2 k hk).mpr z)⟩
              · rw [e1 M e, hT M (by omega) h2 h3]
                exact ⟨fun q k hk z => q k hk ((e2 k hk).mp z), fun q k hk z => q k hk ((e2 k hk).mpr z)⟩
          refine px_winningPlace (M := m + 1) hnN hn12 hJ hmI hm (fun x hx => ⟨fun c3 => ⟨vp_of hmI (by omega) (by omega), wr _ ?_⟩, fun c3 => ⟨vp_of hmI (by omega) (by omega), wr _ ?_⟩⟩)
          · refine ⟨fun q => absurd q (by decide), fun q => absurd (Int32.toInt_inj.mp (hx.none.mpr q)) c3⟩
          · refine ⟨fun _ => hx.none.mp (congrArg Int32.toInt c3), fun _ => by decide⟩
  refine sg_X9_firstWinning_0 hc _ _ _ ?_
  have hp : 0 < 2 ^ n := Nat.pow_pos (by decide)
  have e : (1 <<< ((I 45 1) &&& 31)) - 1 = nI (2 ^ n - 1) := by
    have e1 : I 45 1 = nI n := Int32.toInt_inj.mp (by rw [hn, nI_toInt (by omega)])
    rw [e1, sh1_N n (by omega)]
    refine Int32.toInt_inj.mp ?_
    rw [ti_sub (nI_toInt (by omega)) (show (1 : Int32).toInt = 1 from rfl) (by omega), nI_toInt (by omega)]
    omega
  rw [e]
  exact L _ I hB0 (by omega) (fun _ _ => rfl) (fun M h1 h2 => by omega)
theorem prt_l {s : Int32} (h : 1 ≤ s.toInt) : ((2329089562800 : Int64) / Int32.toInt64 s).toInt = prt s := by
  have h2 := i32 s
  unfold prt
  rw [if_pos h]
  rw [Int64.toInt_div_of_ne_left _ _ (by decide), show (2329089562800 : Int64).toInt = 2329089562800 from rfl, show (Int32.toInt64 s).toInt = s.toInt from tl_i2l rfl, Int.tdiv_eq_ediv_of_nonneg (by decide)]
/-- a slice more -/
theorem px_addSlice {d j : Nat} {f : Nat → Int32} {Q : Qt} {v1 : Int32} {I : Im} {J : Jm} {R : Rm} (hB0 : Bd I) (hn : (I 45 1).toInt = j) (hj : j ≤ 11) (hJ : ∀ m, m < 2 ^ j → (J 47 m).toInt = smN f j m) (hv : 1 ≤ v1.toInt) (hf : f j = v1) (hQ : ∀ (I2 : Im) (J2 : Jm), Bd I2 → (I2 45 1).toInt = j + 1 → (∀ k, I2 46 k = if k = j then v1 else I 46 k) → (∀ m, m < 2 ^ (j + 1) → (J2 47 m).toInt = smN f (j + 1) m) → Q 0 0 I2 J2 R) : AM (d + 2) 90 112 [.ref 45, .int v1] I J R Q := by
  have h2048 : 2 ^ j ≤ 2048 := Nat.pow_le_pow_right (by decide) hj
  have hp : 0 < 2 ^ j := Nat.pow_pos (by decide)
  have h2 : 2 ^ (j + 1) = 2 ^ j + 2 ^ j := by rw [Nat.pow_succ]; omega
  have hI : I 45 1 = nI j := Int32.toInt_inj.mp (by rw [hn, nI_toInt (by omega)])
  have hsj := smN_in f j
  have hpr := prt_in v1
  refine am_X9_addSlice (fun P hc => ?_)
  have L : ∀ m p : Nat, p ≤ 2 ^ j → 2 ^ j - p < m → ∀ N : Jm, (∀ q, q < 2 ^ j → (N 47 q).toInt = smN f j q) → (∀ q, q < p → (N 47 (2 ^ j + q)).toInt = smN f j q + prt v1) → P 9 112 [(0, .ref 45), (1, .int v1), (2, .int (nI (2 ^ j))), (3, .int (nI p))] [] I N R := by
    intro m
    induction m with
    | zero => intro p h1 h2; omega
    | succ m ih =>
      intro p hp1 hm N hN1 hN2
      have hpI : (nI p).toInt = p := nI_toInt (by omega)
      have hPI : (nI (2 ^ j)).toInt = ((2 ^ j : Nat) : Int) := nI_toInt (by omega)
      refine sg_X9_addSlice_9 hc _ _ _ _ _ _ ⟨fun c1 => ?_, fun c1 => ?_⟩
      · have d1 := ci_le hPI hpI c1
        refine ⟨vp_of hn (by omega) (by omega), ?_⟩
        have hB4 : Bd (uI I 46 (Int32.toNatClampNeg (I 45 1)) v1) := Bd.a0 hB0 (show isA 112 46 0 = true from rfl) (show bna 46 = none from rfl)
        have e6 : (((uI I 46 (Int32.toNatClampNeg (I 45 1)) v1) 45 1) : Int32).toInt = j := Eq.trans (congrArg Int32.toInt (rd_ne (by first | decide | omega))) hn
        have e7 : ((((uI I 46 (Int32.toNatClampNeg (I 45 1)) v1) 45 1) + 1) : Int32).toInt = (j : Int) + 1 := ti_add e6 rfl (by omega)
        refine hQ _ _ (Bd.o1 hB4 (show isO 112 45 9 = true from rfl) (by decide) (show bnd 9 1 = some _ from rfl) e7 (by omega)) ?_ (fun k => ?_) (fun q hq => ?_)
        · rw [rd_eq]; exact e7
        · rw [rd_ne (by first | decide | omega), hI, tn_nI (by omega)]
          by_cases q : k = j
          · rw [if_pos q, q, rd_eq]
          · rw [if_neg q]; simp [uI, upd, q]
        · by_cases q2 : q < 2 ^ j
          · rw [smN_old q2]; exact hN1 q q2
          · obtain ⟨r, rfl⟩ : ∃ r, q = 2 ^ j + r := ⟨q - 2 ^ j, by omega⟩
            rw [smN_new (by omega), hf]; exact hN2 r (by omega)
      · have d1 := ci_nle hPI hpI c1
        have hlt : p < 2 ^ j := by omega
        refine ⟨vp_of hpI (by omega) (by omega), ?_⟩
        refine w_X11_crumbs ⟨fun c2 => ⟨(fun z => by have z2 : (v1.toInt : Int) = 0 := cl_eq (tl_i2l rfl) rfl z; omega), ?_⟩, fun c2 => absurd (ci_nle (show (1 : Int32).toInt = 1 from rfl) rfl c2) (by omega)⟩
        have e11 : nI (2 ^ j) + nI p = nI (2 ^ j + p) := nI_add _ _
        rw [e11, tn_nI (by omega), tn_nI (by omega), nI_k1]
        refine ⟨vp_of (nI_toInt (by omega)) (by omega) (by omega), ?_⟩
        have hs1 := hN1 p hlt
        have hs2 := hsj p
        have hval : ((N 47 p) + ((Int32.toInt64 1) * ((2329089562800 : Int64) / Int32.toInt64 v1))).toInt = smN f j p + prt v1 := by
          rw [show (Int32.toInt64 1) * ((2329089562800 : Int64) / Int32.toInt64 v1) = (2329089562800 : Int64) / Int32.toInt64 v1 from Int64.one_mul _]
          refine tl_add hs1 (prt_l hv) ?_
          omega
        have ne : ∀ q, ¬ q = 2 ^ j + p → uJ N 47 (2 ^ j + p) ((N 47 p) + ((Int32.toInt64 1) * ((2329089562800 : Int64) / Int32.toInt64 v1))) 47 q = N 47 q := fun q h => by simp [uJ, vp_updL, h]
        refine ih (p + 1) (by omega) (by omega) _ (fun q hq => ?_) (fun q hq => ?_)
        · rw [ne q (by omega)]; exact hN1 q hq
        · by_cases e : q = p
          · subst e
            rw [show uJ N 47 (2 ^ j + q) ((N 47 q) + ((Int32.toInt64 1) * ((2329089562800 : Int64) / Int32.toInt64 v1))) 47 (2 ^ j + q) = (N 47 q) + ((Int32.toInt64 1) * ((2329089562800 : Int64) / Int32.toInt64 v1)) by simp [uJ, vp_updL]]
            exact hval
          · rw [ne _ (by omega)]; exact hN2 q (by omega)
  refine sg_X9_addSlice_0 hc _ _ _ _ ?_
  rw [hI, sh1_N j (by omega)]
  exact L _ 0 (by omega) (Nat.lt_succ_self _) J hJ (fun q hq => by omega)
theorem px_lay {d : Nat} {Q : Qt} {v1 : Int32} {I : Im} {J : Jm} {R : Rm} (hB0 : Bd I) (h0 : 0 ≤ v1.toInt) (h12 : pcn v1 30 ≤ 12) (hJ0 : J 47 0 = 0) (hQ : ∀ (I2 : Im) (J2 : Jm) (n : Nat), Bd I2 → (n : Int) = pcn v1 30 → (I2 45 1).toInt = n → (∀ k, k < n → I2 46 k = msF v1 30 k) → (∀ m, m < 2 ^ n → (J2 47 m).toInt = smN (msF v1 30) n m) → Q 0 0 I2 J2 R) : AM (d + 3) 89 112 [.ref 45, .int v1] I J R Q := by
  refine am_X9_lay (fun P hc => ?_)
  have L : ∀ (m dd c : Nat) (N : Im) (JN : Jm), dd ≤ 30 → 30 - dd < m → Bd N → (c : Int) = pcn v1 dd → (N 45 1).toInt = c → (∀ k, k < c → N 46 k = msF v1 dd k) → (∀ q, q < 2 ^ c → (JN 47 q).toInt = smN (msF v1 dd) c q) → P 7 112 [(0, .ref 45), (1, .int v1), (2, .int (nI (dd + 1)))] [] N JN R := by
    intro m
    induction m with
    | zero => intro dd c N JN h1 h2; omega
    | succ m ih =>
      intro dd c N JN hdd hm hB hcn hsz hmb hJ
      have h2I : (nI (dd + 1)).toInt = ((dd + 1 : Nat) : Int) := nI_toInt (by omega)
      have fin : pcn v1 30 = pcn v1 dd → Q 0 0 N JN R := fun e => hQ N JN c hB (by omega) hsz (fun k hk => by rw [hmb k hk, msF_le hdd (by omega)]) (fun q hq => by rw [hJ q hq]; exact smN_c (fun k hk => (msF_le hdd (by omega)).symm))
      refine sg_X9_lay_7 hc _ _ _ _ _ ⟨fun c1 => ?_, fun c1 => ⟨fun c2 => ?_, fun c2 => ?_⟩⟩
      · have d1 := ci_lt (show (30 : Int32).toInt = 30 from rfl) h2I c1
        exact fin (by rw [show dd = 30 by omega])
      · have d2 := ci_le (show (12 : Int32).toInt = 12 from rfl) hsz c2
        have := pcn_le (s := v1) hdd
        exact fin (by omega)
      · have d1 := ci_nlt (show (30 : Int32).toInt = 30 from rfl) h2I c1
        have d2 := ci_nle (show (12 : Int32).toInt = 12 from rfl) hsz c2
        have hb := pcb_tb (v := v1) (i := dd) h0 (by omega)
        have hst : pcn v1 (dd + 1) = pcn v1 dd + pcb v1 (Int32.ofNat dd) := rfl
        have hsub : nI (dd + 1) - 1 = nI dd := Int32.toInt_inj.mp (by
          rw [ti_sub h2I (show (1 : Int32).toInt = 1 from rfl) (by omega), nI_toInt (by omega)]; omega)
        have hif := isIn_iff (v1 := v1) (v2 := nI dd) h0 (by rw [nI_toInt (by omega)]; omega)
        rw [nI_toInt (by omega), Int.toNat_natCast] at hif
        refine w_X11_isIn ⟨fun c9 => ⟨Or.inl rfl, fun _ => ⟨fun _ => ?_, fun q => absurd rfl q⟩⟩, fun c9 => ⟨Or.inr rfl, fun _ => ⟨fun q => absurd q (by decide), fun _ => ?_⟩⟩⟩
        · rw [hsub] at c9
          rw [if_neg (by rw [hif.mp c9]; decide)] at hb
          rw [nI_k1]
          exact ih (dd + 1) c N JN (by omega) (by omega) hB (by omega) hsz (fun k hk => by rw [hmb k hk, msF_old (by omega)]) (fun q hq => by rw [hJ q hq]; exact smN_c (fun k hk => (msF_old (by omega)).symm))
        · rw [hsub] at c9
          have ht : v1.toInt.toNat.testBit dd = true := by
            cases e : v1.toInt.toNat.testBit dd with
            | true => rfl
            | false => exact absurd (hif.mpr e) c9
          rw [if_pos ht] at hb
          have hf : msF v1 (dd + 1) c = nI (dd + 1) := by
            have := msF_new (v := v1) (d := dd) hb
            rwa [show (pcn v1 dd).toNat = c by omega] at this
          refine px_addSlice (f := msF v1 (dd + 1)) hB hsz (by omega) (fun q hq => by rw [hJ q hq]; exact smN_c (fun k hk => (msF_old (by omega)).symm)) (by rw [h2I]; omega) hf (fun I2 J2 hB2 hs2 hk2 hJ2 => ?_)
          rw [nI_k1]
          exact ih (dd + 1) (c + 1) I2 J2 (by omega) (by omega) hB2 (by omega) (by rw [hs2]; omega) (fun k hk => by
            rw [hk2]
            by_cases e : k = c
            · rw [if_pos e, e]; exact hf.symm
            · rw [if_neg e, hmb k (by omega), msF_old (by omega)]) hJ2
  refine sg_X9_lay_0 hc _ _ _ _ ?_
  have hB24 : Bd (uI I 45 1 0) := Bd.o1 hB0 (show isO 112 45 9 = true from rfl) (by decide) (show bnd 9 1 = some _ from rfl) (show (0 : Int32).toInt = 0 from rfl) (by omega)
  exact L 31 0 0 _ J (by omega) (by omega) hB24 rfl (by rw [rd_eq]; rfl) (fun k hk => by omega) (fun q hq => by
    rw [show q = 0 by omega, hJ0]; rfl)
/-! ===== and the reference's ===== -/
noncomputable def rc (f : Nat → Int32) (n : Nat) (N : Im) (M k : Nat) : Prop := M.testBit k = false ∧ smN f n (M ||| 2 ^ k) ≤ 2329089562800 ∧ (N 110 (M ||| 2 ^ k)).toInt < 0
noncomputable def LWk (kk n : Nat) (c : Nat → Prop) (y : Int) : Prop := (y = -1 ∧ ∀ k, kk ≤ k → k < n → ¬ c k) ∨ ((kk : Int) ≤ y ∧ y < n ∧ c y.toNat ∧ ∀ k, kk ≤ k → k < y.toNat → ¬ c k)
theorem LWk.z {n : Nat} {c : Nat → Prop} {y : Int} (h : LWk 0 n c y) : LW n c y := by
  rcases h with ⟨h1, h2⟩ | ⟨h1, h2, h3, h4⟩
  · exact Or.inl ⟨h1, fun k hk => h2 k (by omega) hk⟩
  · exact Or.inr ⟨by omega, h2, h3, fun k hk => h4 k (by omega) hk⟩
theorem LWk.no {kk n : Nat} {c : Nat → Prop} {y : Int} (h : LWk (kk + 1) n c y) (hc : ¬ c kk) : LWk kk n c y := by
  rcases h with ⟨h1, h2⟩ | ⟨h1, h2, h3, h4⟩
  · refine Or.inl ⟨h1, fun k hk hn => ?_⟩
    by_cases e : k = kk
    · rw [e]; exact hc
    · exact h2 k (by omega) hn
  · refine Or.inr ⟨by omega, h2, h3, fun k hk hn => ?_⟩
    by_cases e : k = kk
    · rw [e]; exact hc
    · exact h4 k (by omega) hn
theorem LWk.yes {kk n : Nat} {c : Nat → Prop} (hk : kk < n) (hc : c kk) : LWk kk n c (kk : Int) := Or.inr ⟨by omega, by omega, by rw [Int.toNat_natCast]; exact hc, fun k h1 h2 => by omega⟩
/-- what stands at a plate -/
noncomputable def stY (f : Nat → Int32) (x : Int32) (y : Int) : Prop := (y = -1 ∧ x = -1) ∨ (0 ≤ y ∧ x = f y.toNat)
noncomputable def EM (f : Nat → Int32) (n : Nat) (N : Im) (M : Nat) : Prop := ∃ y, LW n (rc f n N M) y ∧ stY f (N 110 M) y
theorem EM_up {f : Nat → Int32} {n : Nat} {N N2 : Im} {M : Nat} (h : ∀ M', M ≤ M' → N2 110 M' = N 110 M') (q : EM f n N M) : EM f n N2 M := by
  obtain ⟨y, h1, h2⟩ := q
  refine ⟨y, h1.mono (fun k hk => ?_), by rw [h M (Nat.le_refl _)]; exact h2⟩
  unfold rc
  rw [h (M ||| 2 ^ k) Nat.left_le_or]
theorem stY_lt {f : Nat → Int32} {n : Nat} {x : Int32} {y : Int} (hf : ∀ k, k < n → 1 ≤ (f k).toInt) (hy : y < n) (h : stY f x y) : x.toInt < 0 ↔ y = -1 := by
  rcases h with ⟨a, b⟩ | ⟨a, b⟩
  · rw [b]; exact ⟨fun _ => a, fun _ => by decide⟩
  · have := hf y.toNat (by omega)
    rw [b]; exact ⟨fun q => by omega, fun q => by omega⟩
theorem LW.lt {n : Nat} {c : Nat → Prop} {y : Int} (h : LW n c y) : y < n := by
  rcases h with ⟨h1, h2⟩ | ⟨h1, h2, h3, h4⟩ <;> omega
theorem EM_win {f : Nat → Int32} {n : Nat} {N : Im} {M : Nat} (hf : ∀ k, k < n → 1 ≤ (f k).toInt) (q : EM f n N M) : ¬ (N 110 M).toInt < 0 ↔ ∃ k, k < n ∧ M.testBit k = false ∧ smN f n (M ||| 2 ^ k) ≤ 2329089562800 ∧ ¬ ¬ (N 110 (M ||| 2 ^ k)).toInt < 0 := by
  obtain ⟨y, h1, h2⟩ := q
  rw [stY_lt hf h1.lt h2, h1.none]
  constructor
  · intro z
    refine Classical.byContradiction (fun w => z (fun k hk c => w ⟨k, hk, c.1, c.2.1, fun e => e c.2.2⟩))
  · rintro ⟨k, hk, a, b, c⟩ z
    exact z k hk ⟨a, b, Classical.byContradiction c⟩
end PT15x6
section PT15x7
/-! ===== the reference's table ===== -/
set_option maxHeartbeats 400000 in
/-- from the last member to the first -/
theorem pl_D {d : Nat} {Q : Nat → Qt} {P : Kt} (hc : Cl (AM (d + 1)) true false 0 (fun _ => 0) 1 112 kX12_plates Q P) {J : Jm} {R : Rm} {f : Nat → Int32} {n m : Nat} {v4 : Int64} {N : Im} (hn12 : n ≤ 12) (hm : m < 2 ^ n) (h4096 : 2 ^ n ≤ 4096) (hmb : ∀ k, k < n → N 109 k = f k) (hf : ∀ k, k < n → 1 ≤ (f k).toInt) (hv4 : v4.toInt = 2329089562800 - smN f n m) (fin : ∀ (N2 : Im), Bd N2 → (∀ o j, ¬ (o = 110 ∧ j = m) → N2 o j = N o j) → (∃ y, LWk 0 n (rc f n N m) y ∧ stY f (N2 110 m) y) → P 45 112 [(0, .ref 97), (2, .int (nI n)), (3, .int (nI m + (-1)))] [] N2 J R) : ∀ (kk : Nat) (v6 : Int32) (N2 : Im), Bd N2 → kk ≤ n → v6.toInt = (kk : Int) - 1 → (∀ o j, ¬ (o = 110 ∧ j = m) → N2 o j = N o j) → (∃ y, LWk kk n (rc f n N m) y ∧ stY f (N2 110 m) y) → P 109 112 [(0, .ref 97), (2, .int (nI n)), (3, .int (nI m)), (4, .long v4), (6, .int v6)] [] N2 J R := by
  intro kk
  induction kk with
  | zero =>
    intro v6 N2 hB2 _ h6 hN2 hy
    exact sg_X12_plates_109 hc _ _ _ _ _ _ _ ⟨fun c3 => fin N2 hB2 hN2 hy, fun c3 => absurd (ci_nlt h6 (show (0 : Int32).toInt = 0 from rfl) c3) (by omega)⟩
  | succ kk ihk =>
    intro v6 N2 hB2 hkk h6 hN2 hy
    have e6 : v6 = nI kk := Int32.toInt_inj.mp (by rw [h6, nI_toInt (by omega)]; omega)
    subst e6
    obtain ⟨y, y1, y2⟩ := hy
    have hmI : (nI m).toInt = (m : Int) := nI_toInt (by omega)
    have hkkI : (nI kk).toInt = (kk : Int) := nI_toInt (by omega)
    have hdec : (nI kk + (-1)).toInt = (kk : Int) - 1 := by rw [ti_add hkkI (show (-1 : Int32).toInt = -1 from rfl) (by omega)]; omega
    have hkn : kk ≤ n := by omega
    have no : ¬ rc f n N m kk → P 109 112 [(0, .ref 97), (2, .int (nI n)), (3, .int (nI m)), (4, .long v4), (6, .int (nI kk + (-1)))] [] N2 J R := fun q => ihk _ N2 hB2 hkn hdec hN2 ⟨y, y1.no q, y2⟩
    have hif := isOf_iff (v1 := nI m) (v2 := nI kk) (by omega) (by omega)
    have hor := orI (v1 := nI m) (v2 := nI kk) (by omega) (by omega)
    rw [hmI, hkkI, Int.toNat_natCast, Int.toNat_natCast] at hif hor
    have hX := or_lt (M := m) (k := kk) (n := n) (by omega) (by omega)
    have hXI : (nI (m ||| 2 ^ kk)).toInt = ((m ||| 2 ^ kk : Nat) : Int) := nI_toInt (by omega)
    have hX1 : vp_in (nI (m ||| 2 ^ kk)) 4096 := vp_of hXI (by omega) (by omega)
    have hk1 : vp_in (nI kk) 12 := vp_of hkkI (by omega) (by omega)
    have hm1 : vp_in (nI m) 4096 := vp_of hmI (by omega) (by omega)
    have t1 : Int32.toNatClampNeg (nI kk) = kk := tn_nI (by omega)
    have t2 : Int32.toNatClampNeg (nI m) = m := tn_nI (by omega)
    have t3 : Int32.toNatClampNeg (nI (m ||| 2 ^ kk)) = m ||| 2 ^ kk := tn_nI (by omega)
    have h109 : N2 109 kk = f kk := by rw [hN2 109 kk (by omega)]; exact hmb kk (by omega)
    have hs := hf kk (by omega)
    have hne : ¬ Int32.toInt64 (f kk) = 0 := fun z => by
      have z2 : ((f kk).toInt : Int) = 0 := cl_eq (tl_i2l rfl) rfl z
      omega
    refine sg_X12_plates_109 hc _ _ _ _ _ _ _ ⟨fun c3 => absurd (ci_lt hkkI (show (0 : Int32).toInt = 0 from rfl) c3) (by omega), fun c3 => ?_⟩
    refine w_X12_isOf ⟨fun c4 => ⟨Or.inl rfl, fun _ => ⟨fun q => absurd rfl q, fun _ => ?_⟩⟩, fun c4 => ⟨Or.inr rfl, fun _ => ⟨fun _ => ?_, fun q => absurd q (by decide)⟩⟩⟩
    · have hb : m.testBit kk = false := by
        cases e : m.testBit kk with
        | false => rfl
        | true => exact absurd (hif.mpr e) c4
      have hsm := smN_or (f := f) hb n
      rw [if_pos (show kk < n by omega)] at hsm
      have hgt := or_gt hb
      refine ⟨hk1, ?_⟩
      rw [t1, h109]
      refine w_X12_partsOf ⟨hne, ?_⟩
      refine ⟨fun c5 => ?_, fun c5 => ?_⟩
      · rw [lg_cmp_gt] at c5
        have d5 := cl_lt hv4 (prt_l hs) c5
        exact no (fun q => by have := q.2.1; omega)
      · rw [lg_cmp_gt] at c5
        have d5 := cl_nlt hv4 (prt_l hs) c5
        rw [hor, t3, hN2 110 (m ||| 2 ^ kk) (by omega)]
        refine ⟨hX1, fun c6 => ?_, fun c6 => ⟨hk1, hm1, ?_⟩⟩
        · have d6 := ci_le (show (0 : Int32).toInt = 0 from rfl) rfl c6
          exact no (fun q => by have := q.2.2; omega)
        · have d6 := ci_nle (show (0 : Int32).toInt = 0 from rfl) rfl c6
          rw [h109, t2]
          refine ihk _ _ (Bd.a0 hB2 (show isA 112 110 0 = true from rfl) (show bna 110 = none from rfl)) hkn hdec (fun o j hoj => ?_) ⟨(kk : Int), LWk.yes (by omega) ⟨hb, by omega, d6⟩, Or.inr ⟨by omega, ?_⟩⟩
          · rw [← hN2 o j hoj]
            by_cases e : o = 110
            · subst e
              have : ¬ j = m := fun z => hoj ⟨rfl, z⟩
              simp [uI, upd, this]
            · rw [uI_ne e]
          · rw [rd_eq, Int.toNat_natCast]
    · exact no (fun q => by have z := q.1; rw [hif.mp c4] at z; cases z)
set_option maxHeartbeats 400000 in
/-- the room that is left -/
theorem pl_C {d : Nat} {Q : Nat → Qt} {P : Kt} (hc : Cl (AM (d + 1)) true false 0 (fun _ => 0) 1 112 kX12_plates Q P) {J : Jm} {R : Rm} {f : Nat → Int32} {n m : Nat} {N : Im} (hn12 : n ≤ 12) (hm : m < 2 ^ n) (h4096 : 2 ^ n ≤ 4096) (hmb : ∀ k, k < n → N 109 k = f k) (hf : ∀ k, k < n → 1 ≤ (f k).toInt) (fin : ∀ v4 : Int64, v4.toInt = 2329089562800 - smN f n m → P 109 112 [(0, .ref 97), (2, .int (nI n)), (3, .int (nI m)), (4, .long v4), (6, .int (nI n - 1))] [] (uI N 110 m (-1)) J R) : ∀ (g k : Nat) (v4 : Int64), n - k < g → k ≤ n → v4.toInt = 2329089562800 - smN f k m → P 57 112 [(0, .ref 97), (2, .int (nI n)), (3, .int (nI m)), (4, .long v4), (6, .int (nI k))] [] N J R := by
  intro g
  induction g with
  | zero => intro k v4 q1 q2; omega
  | succ g ihg =>
    intro k v4 hg hk hv4
    have hnI : (nI n).toInt = (n : Int) := nI_toInt (by omega)
    have hmI : (nI m).toInt = (m : Int) := nI_toInt (by omega)
    have hkI : (nI k).toInt = (k : Int) := nI_toInt (by omega)
    have hm1 : vp_in (nI m) 4096 := vp_of hmI (by omega) (by omega)
    have t2 : Int32.toNatClampNeg (nI m) = m := tn_nI (by omega)
    refine sg_X12_plates_57 hc _ _ _ _ _ _ _ ⟨fun c2 => ⟨hm1, ?_⟩, fun c2 => ?_⟩
    · have d2 := ci_le hnI hkI c2
      have hkn : k = n := by omega
      rw [t2]
      rw [hkn] at hv4
      exact fin v4 hv4
    · have d2 := ci_nle hnI hkI c2
      have hkn : k < n := by omega
      have hif := isOf_iff (v1 := nI m) (v2 := nI k) (by omega) (by omega)
      rw [hmI, hkI, Int.toNat_natCast, Int.toNat_natCast] at hif
      have hs := hf k hkn
      have hb1 := smN_in f k m
      have hb2 := prt_in (f k)
      have hk1 : vp_in (nI k) 12 := vp_of hkI (by omega) (by omega)
      have t1 : Int32.toNatClampNeg (nI k) = k := tn_nI (by omega)
      have hne : ¬ Int32.toInt64 (f k) = 0 := fun z => by
        have z2 : ((f k).toInt : Int) = 0 := cl_eq (tl_i2l rfl) rfl z
        omega
      have hst : smN f (k + 1) m = smN f k m + (if m.testBit k then prt (f k) else 0) := rfl
      refine w_X12_isOf ⟨fun c4 => ⟨Or.inl rfl, fun _ => ⟨fun _ => ?_, fun q => absurd rfl q⟩⟩, fun c4 => ⟨Or.inr rfl, fun _ => ⟨fun q => absurd q (by decide), fun _ => ⟨hk1, ?_⟩⟩⟩⟩
      · rw [nI_k1]
        refine ihg (k + 1) _ (by omega) (by omega) ?_
        rw [if_neg (fun q => c4 (hif.mpr q))] at hst
        rw [tl_sub hv4 (show (0 : Int64).toInt = 0 from rfl) (by omega)]
        omega
      · rw [t1, hmb k hkn, nI_k1]
        refine w_X12_partsOf ⟨hne, ?_⟩
        refine ihg (k + 1) _ (by omega) (by omega) ?_
        rw [if_pos (hif.mp c4)] at hst
        rw [tl_sub hv4 (prt_l hs) (by omega)]
        omega
theorem EM_at {f : Nat → Int32} {n m : Nat} {N N2 : Im} (hN2 : ∀ o j, ¬ (o = 110 ∧ j = m) → N2 o j = N o j) (h : ∃ y, LWk 0 n (rc f n N m) y ∧ stY f (N2 110 m) y) : EM f n N2 m := by
  obtain ⟨y, y1, y2⟩ := h
  refine ⟨y, y1.z.mono (fun j hj => ?_), y2⟩
  unfold rc
  constructor
  · rintro ⟨a, b, c⟩
    have := or_gt a
    exact ⟨a, b, by rw [hN2 110 (m ||| 2 ^ j) (by omega)]; exact c⟩
  · rintro ⟨a, b, c⟩
    have := or_gt a
    rw [hN2 110 (m ||| 2 ^ j) (by omega)] at c
    exact ⟨a, b, c⟩
set_option maxHeartbeats 400000 in
/-- from the fullest plate down -/
theorem pl_B {d : Nat} {Q : Nat → Qt} {P : Kt} (hc : Cl (AM (d + 1)) true false 0 (fun _ => 0) 1 112 kX12_plates Q P) {J : Jm} {R : Rm} {f : Nat → Int32} {n : Nat} (hn12 : n ≤ 12) (h4096 : 2 ^ n ≤ 4096) (hf : ∀ k, k < n → 1 ≤ (f k).toInt) (fin : ∀ N : Im, Bd N → (∀ M, M < 2 ^ n → EM f n N M) → Q 112 (N 110 0) 0 N J R) : ∀ (m : Nat) (v3 : Int32) (N : Im), Bd N → v3.toInt = (m : Int) - 1 → m ≤ 2 ^ n → (∀ k, k < n → N 109 k = f k) → (∀ M, m ≤ M → M < 2 ^ n → EM f n N M) → P 45 112 [(0, .ref 97), (2, .int (nI n)), (3, .int v3)] [] N J R := by
  have hnI : (nI n).toInt = (n : Int) := nI_toInt (by omega)
  intro m
  induction m with
  | zero =>
    intro v3 N hB h3 hm hmb hT
    exact sg_X12_plates_45 hc _ _ _ _ _ ⟨fun c1 => ⟨vp_of (show (0 : Int32).toInt = 0 from rfl) (by omega) (by omega), fin N hB (fun M q => hT M (Nat.zero_le _) q)⟩, fun c1 => absurd (ci_nlt h3 (show (0 : Int32).toInt = 0 from rfl) c1) (by omega)⟩
  | succ m ih =>
    intro v3 N hB h3 hm hmb hT
    have e3 : v3 = nI m := Int32.toInt_inj.mp (by rw [h3, nI_toInt (by omega)]; omega)
    subst e3
    have hmI : (nI m).toInt = (m : Int) := nI_toInt (by omega)
    have hdec : (nI m + (-1)).toInt = (m : Int) - 1 := by rw [ti_add hmI (show (-1 : Int32).toInt = -1 from rfl) (by omega)]; omega
    have hm2 : m < 2 ^ n := by omega
    have hm3 : m ≤ 2 ^ n := by omega
    refine sg_X12_plates_45 hc _ _ _ _ _ ⟨fun c1 => absurd (ci_lt hmI (show (0 : Int32).toInt = 0 from rfl) c1) (by omega), fun c1 => ?_⟩
    have step : ∀ (N2 : Im), Bd N2 → (∀ o j, ¬ (o = 110 ∧ j = m) → N2 o j = N o j) → (∃ y, LWk 0 n (rc f n N m) y ∧ stY f (N2 110 m) y) → P 45 112 [(0, .ref 97), (2, .int (nI n)), (3, .int (nI m + (-1)))] [] N2 J R := fun N2 hB2 hN2 hy => by
      refine ih _ N2 hB2 hdec hm3 (fun j hj => by rw [hN2 109 j (by omega)]; exact hmb j hj) (fun M q1 q2 => ?_)
      by_cases e : M = m
      · rw [e]; exact EM_at hN2 hy
      · exact EM_up (fun M' q => hN2 110 M' (by omega)) (hT M (by omega) q2)
    have frame : ∀ o j, ¬ (o = 110 ∧ j = m) → uI N 110 m (-1) o j = N o j := fun o j hoj => by
      by_cases e : o = 110
      · subst e
        have : ¬ j = m := fun z => hoj ⟨rfl, z⟩
        simp [uI, upd, this]
      · rw [uI_ne e]
    refine pl_C hc hn12 hm2 h4096 hmb hf (fun v4 hv4 => ?_) (n + 1) 0 _ (by omega) (Nat.zero_le _) (by
      show (2329089562800 : Int64).toInt = 2329089562800 - 0
      decide)
    exact pl_D hc hn12 hm2 h4096 hmb hf hv4 step n _ _ (Bd.a0 hB (show isA 112 110 0 = true from rfl) (show bna 110 = none from rfl)) (Nat.le_refl _) (by rw [ti_sub hnI (show (1 : Int32).toInt = 1 from rfl) (by omega)]) frame ⟨-1, Or.inl ⟨rfl, fun j q1 q2 => by omega⟩, Or.inl ⟨rfl, rd_eq⟩⟩
set_option maxHeartbeats 400000 in
theorem px_plates {d : Nat} {Q : Qt} {v1 : Int32} {I : Im} {J : Jm} {R : Rm} (hB0 : Bd I) (h0 : 0 ≤ v1.toInt) (h12 : pcn v1 30 ≤ 12) (hQ : ∀ (x : Int32) (I2 : Im), Bd I2 → (∃ (n : Nat) (W : Nat → Prop) (y : Int), (n : Int) = pcn v1 30 ∧ WinR (msF v1 30) n W ∧ LW n (fun k => smN (msF v1 30) n (2 ^ k) ≤ 2329089562800 ∧ ¬ W (2 ^ k)) y ∧ stY (msF v1 30) x y) → Q x 0 I2 J R) : AM (d + 2) 299 112 [.ref 97, .int v1] I J R Q := by
  refine am_X12_plates (fun P hc => ?_)
  have B : ∀ n : Nat, (n : Int) = pcn v1 30 → ∀ N : Im, Bd N → (∀ k, k < n → N 109 k = msF v1 30 k) → P 45 112 [(0, .ref 97), (2, .int (nI n)), (3, .int (nI (2 ^ n) - 1))] [] N J R := by
    intro n hn N hBN hmN
    have hn12 : n ≤ 12 := by omega
    have h4096 := p2_12 hn12
    have hp : 0 < 2 ^ n := Nat.pow_pos (by decide)
    have hf : ∀ k, k < n → 1 ≤ (msF v1 30 k).toInt := fun k hk => (msF_in v1 30 k (by omega) (by omega)).1
    refine pl_B hc hn12 h4096 hf (fun N2 hB2 hE => ?_) (2 ^ n) _ N hBN (by
      rw [ti_sub (nI_toInt (by omega)) (show (1 : Int32).toInt = 1 from rfl) (by omega)]) (Nat.le_refl _) hmN (fun M q1 q2 => by omega)
    obtain ⟨y, h1, h2⟩ := hE 0 hp
    refine hQ _ N2 hB2 ⟨n, fun M => ¬ (N2 110 M).toInt < 0, y, hn, fun M q1 q2 q3 => EM_win hf (hE M q2), h1.mono (fun k hk => ?_), h2⟩
    unfold rc
    rw [Nat.zero_or, Nat.zero_testBit]
    exact ⟨fun q => ⟨q.2.1, fun z => z q.2.2⟩, fun q => ⟨rfl, q.1, Classical.byContradiction q.2⟩⟩
  have A : ∀ (m dd c : Nat) (N : Im), dd ≤ 30 → 30 - dd < m → Bd N → (c : Int) = pcn v1 dd → (∀ k, k < c → N 109 k = msF v1 dd k) → P 4 112 [(0, .ref 97), (1, .int v1), (2, .int (nI c)), (3, .int (nI (dd + 1)))] [] N J R := by
    intro m
    induction m with
    | zero => intro dd c N h1 h2; omega
    | succ m ih =>
      intro dd c N hdd hm hB hcn hmb
      have h2I : (nI (dd + 1)).toInt = ((dd + 1 : Nat) : Int) := nI_toInt (by omega)
      have hle := pcn_le (s := v1) hdd
      have hcI : (nI c).toInt = (c : Int) := nI_toInt (by omega)
      refine sg_X12_plates_4 hc _ _ _ _ _ _ ⟨fun c1 => ?_, fun c1 => ?_⟩
      · have d1 := ci_lt (show (30 : Int32).toInt = 30 from rfl) h2I c1
        have e : dd = 30 := by omega
        subst e
        rw [sh1_N c (by omega)]
        exact B c hcn N hB hmb
      · have d1 := ci_nlt (show (30 : Int32).toInt = 30 from rfl) h2I c1
        have hb := pcb_tb (v := v1) (i := dd) h0 (by omega)
        have hst : pcn v1 (dd + 1) = pcn v1 dd + pcb v1 (Int32.ofNat dd) := rfl
        have hle2 := pcn_le (s := v1) (a := dd + 1) (b := 30) (by omega)
        have hsub : nI (dd + 1) - 1 = nI dd := Int32.toInt_inj.mp (by
          rw [ti_sub h2I (show (1 : Int32).toInt = 1 from rfl) (by omega), nI_toInt (by omega)]; omega)
        have hif := isOf_iff (v1 := v1) (v2 := nI dd) h0 (by rw [nI_toInt (by omega)]; omega)
        rw [nI_toInt (by omega), Int.toNat_natCast] at hif
        rw [hsub]
        refine w_X12_isOf ⟨fun c4 => ⟨Or.inl rfl, fun _ => ⟨fun q => absurd rfl q, fun _ => ?_⟩⟩, fun c4 => ⟨Or.inr rfl, fun _ => ⟨fun _ => ?_, fun q => absurd q (by decide)⟩⟩⟩
        · rw [if_neg (fun q => c4 (hif.mpr q))] at hb
          rw [nI_k1]
          exact ih (dd + 1) c N (by omega) (by omega) hB (by omega) (fun k hk => by rw [hmb k hk, msF_old (by omega)])
        · rw [if_pos (hif.mp c4)] at hb
          have hf : msF v1 (dd + 1) c = nI (dd + 1) := by
            have := msF_new (v := v1) (d := dd) hb
            rwa [show (pcn v1 dd).toNat = c by omega] at this
          refine ⟨vp_of hcI (by omega) (by omega), ?_⟩
          rw [tn_nI (by omega), nI_k1, nI_k1]
          refine ih (dd + 1) (c + 1) _ (by omega) (by omega) (Bd.a0 hB (show isA 112 109 0 = true from rfl) (show bna 109 = none from rfl)) (by omega) (fun k hk => ?_)
          by_cases e : k = c
          · subst e; rw [rd_eq]; exact hf.symm
          · rw [msF_old (by omega), ← hmb k (by omega)]
            simp [uI, upd, e]
  refine sg_X12_plates_0 hc _ _ _ _ ?_
  exact A 31 0 0 I (by omega) (by omega) hB0 rfl (fun k hk => by omega)
end PT15x7
section PT15x8
/-! ===== what plate and plateMove answer, on both sides ===== -/
noncomputable def isPS (v : Int32) : Prop := 0 ≤ v.toInt ∧ v.toInt ≤ 1073741823 ∧ pcn v 30 ≤ 12
/-- the place of the first slice by which who begins wins -/
noncomputable def GP (v : Int32) (y : Int) : Prop := ∃ (n : Nat) (W : Nat → Prop), (n : Int) = pcn v 30 ∧ WinR (msF v 30) n W ∧ LW n (fun k => smN (msF v 30) n (2 ^ k) ≤ 2329089562800 ∧ ¬ W (2 ^ k)) y
theorem GP.eq {v : Int32} {x y : Int} (h : GP v x) (g : GP v y) : x = y := by
  obtain ⟨n, W, h1, h2, h3⟩ := h
  obtain ⟨m, V, g1, g2, g3⟩ := g
  have e : m = n := by omega
  subst e
  exact LW.win h2 g2 h3 g3
noncomputable def PL1 (v x : Int32) : Prop := (¬ isPS v ∧ x.toInt = -1) ∨ (isPS v ∧ ∃ y, GP v y ∧ x.toInt = if y = -1 then 0 else 1)
noncomputable def PL2 (v x : Int32) : Prop := (¬ isPS v ∧ x.toInt = -1) ∨ (isPS v ∧ ∃ y, GP v y ∧ stY (msF v 30) x y)
theorem PL1.eq {v a b : Int32} (h : PL1 v a) (g : PL1 v b) : a.toInt = b.toInt := by
  rcases h with ⟨h1, h2⟩ | ⟨h1, y, h2, h3⟩
  · rcases g with ⟨g1, g2⟩ | ⟨g1, z, g2, g3⟩
    · rw [h2, g2]
    · exact absurd g1 h1
  · rcases g with ⟨g1, g2⟩ | ⟨g1, z, g2, g3⟩
    · exact absurd h1 g1
    · rw [h3, g3, h2.eq g2]
theorem PL2.eq {v a b : Int32} (h : PL2 v a) (g : PL2 v b) : a.toInt = b.toInt := by
  rcases h with ⟨h1, h2⟩ | ⟨h1, y, h2, h3⟩
  · rcases g with ⟨g1, g2⟩ | ⟨g1, z, g2, g3⟩
    · rw [h2, g2]
    · exact absurd g1 h1
  · rcases g with ⟨g1, g2⟩ | ⟨g1, z, g2, g3⟩
    · exact absurd h1 g1
    · have e := h2.eq g2
      subst e
      rcases h3 with ⟨a1, a2⟩ | ⟨a1, a2⟩
      · rcases g3 with ⟨b1, b2⟩ | ⟨b1, b2⟩
        · rw [a2, b2]
        · omega
      · rcases g3 with ⟨b1, b2⟩ | ⟨b1, b2⟩
        · omega
        · rw [a2, b2]
theorem GP.in {v : Int32} {y : Int} (h : GP v y) : y = -1 ∨ (0 ≤ y ∧ y < pcn v 30) := by
  obtain ⟨n, W, h1, h2, h3⟩ := h
  rcases h3 with ⟨a, b⟩ | ⟨a, b, c⟩
  · exact Or.inl a
  · exact Or.inr ⟨a, by omega⟩
theorem stY_le {v x : Int32} {y : Int} (g : GP v y) (h : stY (msF v 30) x y) : x.toInt ≤ 0 ↔ y = -1 := by
  rcases h with ⟨a, b⟩ | ⟨a, b⟩
  · rw [b]; exact ⟨fun _ => a, fun _ => by decide⟩
  · have h2 := g.in
    have := (msF_in v 30 y.toNat (by omega) (by omega)).1
    rw [b]; exact ⟨fun q => by omega, fun q => by omega⟩
theorem gx_X11_plate {d : Nat} {Q : Qt} {v1 : Int32} {I : Im} {J : Jm} {R : Rm} (hB0 : Bd I) (hR0 : RI R) (hJ0 : J 47 0 = 0) (hQ : ∀ (x : Int32) (y : Int64) (I2 : Im) (J2 : Jm), Bd I2 → (J2 47 0 = 0 ∧ PL1 v1 x) → Q x y I2 J2 R) : AM (d + 4) 140 112 [.ref 1, .int v1] I J R Q := by
  refine w_X11_plate ?_
  refine kpp rfl (sp_X11_isPlateSet hB0 hR0 (fun x1 y6 I2 J3 hB4 p5 eI eJ eR => ?_))
  subst eI eJ
  intro o7
  have p6 := p5.2
  refine ⟨fun c9 => ?_, fun c9 => ?_⟩
  · have d10 := ci_ne (rfl : x1.toInt = x1.toInt) (show (0 : Int32).toInt = 0 from rfl) c9
    have ps : isPS v1 := p6.2.2.1 (by have := p6.1; have := p6.2.1; omega)
    refine px_lay hB4 ps.1 ps.2.2 hJ0 (fun I12 J13 n hB14 hn hsz hmb hJ => ?_)
    refine px_firstWinning hB14 hsz (by have := ps.2.2; omega) hJ (fun x17 I18 hB20 hfr hw => ?_)
    obtain ⟨W, w1, w2⟩ := hw
    have hz : J13 47 0 = 0 := Int64.toInt_inj.mp (by rw [hJ 0 (Nat.pow_pos (by decide)), smN_0]; rfl)
    have gp : GP v1 x17.toInt := ⟨n, W, hn, w1, w2⟩
    have o0 : Bd (uI I18 1 0 0) := Bd.o0 hB20 (show isO 112 1 11 = true from rfl) (by decide) (show bnd 11 0 = none from rfl)
    refine ⟨fun c24 => ?_, fun c24 => ?_⟩
    · have d25 := ci_ne (rfl : x17.toInt = x17.toInt) (show (-1 : Int32).toInt = -1 from rfl) c24
      exact w_X11_answer (hQ _ _ _ _ o0 ⟨hz, Or.inr ⟨ps, _, gp, by rw [if_neg d25]; rfl⟩⟩)
    · have d25 := ci_eq (rfl : x17.toInt = x17.toInt) (show (-1 : Int32).toInt = -1 from rfl) c24
      exact w_X11_answer (hQ _ _ _ _ o0 ⟨hz, Or.inr ⟨ps, _, gp, by rw [if_pos d25]; rfl⟩⟩)
  · have d29 := ci_eq (rfl : x1.toInt = x1.toInt) (show (0 : Int32).toInt = 0 from rfl) c9
    refine w_X11_refuse (hQ _ _ _ _ (Bd.o0 hB0 (show isO 112 1 11 = true from rfl) (by decide) (show bnd 11 0 = none from rfl)) ⟨hJ0, Or.inl ⟨fun q => ?_, rfl⟩⟩)
    have := p6.2.2.2 q
    omega
theorem gx_X11_plateMove {d : Nat} {Q : Qt} {v1 : Int32} {I : Im} {J : Jm} {R : Rm} (hB0 : Bd I) (hR0 : RI R) (hJ0 : J 47 0 = 0) (hQ : ∀ (x : Int32) (y : Int64) (I2 : Im) (J2 : Jm), Bd I2 → (J2 47 0 = 0 ∧ PL2 v1 x) → Q x y I2 J2 R) : AM (d + 4) 141 112 [.ref 1, .int v1] I J R Q := by
  refine w_X11_plateMove ?_
  refine kpp rfl (sp_X11_isPlateSet hB0 hR0 (fun x1 y6 I2 J3 hB4 p5 eI eJ eR => ?_))
  subst eI eJ
  intro o7
  have p6 := p5.2
  refine ⟨fun c9 => ?_, fun c9 => ?_⟩
  · have d10 := ci_ne (rfl : x1.toInt = x1.toInt) (show (0 : Int32).toInt = 0 from rfl) c9
    have ps : isPS v1 := p6.2.2.1 (by have := p6.1; have := p6.2.1; omega)
    refine px_lay hB4 ps.1 ps.2.2 hJ0 (fun I12 J13 n hB14 hn hsz hmb hJ => ?_)
    refine px_firstWinning hB14 hsz (by have := ps.2.2; omega) hJ (fun x17 I18 hB20 hfr hw => ?_)
    obtain ⟨W, w1, w2⟩ := hw
    have hz : J13 47 0 = 0 := Int64.toInt_inj.mp (by rw [hJ 0 (Nat.pow_pos (by decide)), smN_0]; rfl)
    have gp : GP v1 x17.toInt := ⟨n, W, hn, w1, w2⟩
    have gi := gp.in
    have h12 := ps.2.2
    refine ⟨fun c24 => ?_, fun c24 => ?_⟩
    · have d25 := ci_ne (rfl : x17.toInt = x17.toInt) (show (-1 : Int32).toInt = -1 from rfl) c24
      refine ⟨vp_of (rfl : x17.toInt = x17.toInt) (by omega) (by omega), ?_⟩
      refine w_X11_answer (hQ _ _ _ _ (Bd.o0 hB20 (show isO 112 1 11 = true from rfl) (by decide) (show bnd 11 0 = none from rfl)) ⟨hz, Or.inr ⟨ps, _, gp, Or.inr ⟨by omega, ?_⟩⟩⟩)
      rw [hfr 46 (by decide)]
      exact hmb _ (by show x17.toInt.toNat < n; omega)
    · have d25 := ci_eq (rfl : x17.toInt = x17.toInt) (show (-1 : Int32).toInt = -1 from rfl) c24
      exact w_X11_refuse (hQ _ _ _ _ (Bd.o0 hB20 (show isO 112 1 11 = true from rfl) (by decide) (show bnd 11 0 = none from rfl)) ⟨hz, Or.inr ⟨ps, _, gp, Or.inl ⟨d25, rfl⟩⟩⟩)
  · have d29 := ci_eq (rfl : x1.toInt = x1.toInt) (show (0 : Int32).toInt = 0 from rfl) c9
    refine w_X11_refuse (hQ _ _ _ _ (Bd.o0 hB0 (show isO 112 1 11 = true from rfl) (by decide) (show bnd 11 0 = none from rfl)) ⟨hJ0, Or.inl ⟨fun q => ?_, rfl⟩⟩)
    have := p6.2.2.2 q
    omega
theorem stY_m {v x : Int32} {y : Int} (g : GP v y) (h : stY (msF v 30) x y) (hx : x.toInt < 0) : stY (msF v 30) (-1) y := by
  have := (stY_le g h).mp (by omega)
  exact Or.inl ⟨this, rfl⟩

set_option maxHeartbeats 2000000 in
theorem gx_X12_plate {d : Nat} {Q : Qt} {v1 : Int32} {I : Im} {J : Jm} {R : Rm} (hB0 : Bd I) (hR0 : RI R) (hQ : ∀ (x : Int32) (y : Int64) (I2 : Im) (J2 : Jm), Bd I2 → (PL1 v1 x) → Q x y I2 J2 R) : AM (d + 4) 297 112 [.ref 97, .int v1] I J R Q := by
  have i_v1 := i32 v1
  refine w_X12_plate ?_
  have hB1 : Bd (uI I 97 1 0) := Bd.o0 hB0 (show isO 112 97 12 = true from rfl) (by decide) (show bnd 12 1 = none from rfl)
  have hB2 : Bd (uI (uI I 97 1 0) 97 0 0) := Bd.o0 hB1 (show isO 112 97 12 = true from rfl) (by decide) (show bnd 12 0 = none from rfl)
  refine w_X12_isSet ?_
  refine w_X12_isIn ?_
  refine ⟨fun c3 => ?_, fun c3 => ?_⟩
  · skip
    rw [lg_cmp_lt] at c3
    have d4 : ((v1.toInt) : Int) < (0) := cl_lt (tl_i2l rfl) rfl c3
    refine ⟨Or.inl rfl, ?_⟩
    intro o5
    refine ⟨fun c6 => ?_, fun c6 => ?_⟩
    · skip
      refine ⟨Or.inl rfl, ?_⟩
      intro o7
      refine ⟨fun c8 => ?_, fun c8 => ?_⟩
      · exact absurd c8 (by decide)
      · skip
        refine w_X12_refuse ?_
        have hB9 : Bd (uI (uI (uI I 97 1 0) 97 0 0) 97 0 5) := Bd.o0 hB2 (show isO 112 97 12 = true from rfl) (by decide) (show bnd 12 0 = none from rfl)
        exact hQ _ _ _ _ hB9 (Or.inl ⟨fun q => by have q1 := q.1; have q2 := q.2.1; have q3 := q.2.2; omega, rfl⟩)
    · exact absurd c6 (by decide)
  · skip
    rw [lg_cmp_lt] at c3
    have d10 : ((0) : Int) ≤ (v1.toInt) := cl_nlt (tl_i2l rfl) rfl c3
    refine ⟨fun c11 => ?_, fun c11 => ?_⟩
    · skip
      rw [lg_cmp_gt] at c11
      have d12 : ((1073741823) : Int) < (v1.toInt) := cl_lt rfl (tl_i2l rfl) c11
      refine ⟨Or.inl rfl, ?_⟩
      intro o13
      refine ⟨fun c14 => ?_, fun c14 => ?_⟩
      · skip
        refine ⟨Or.inl rfl, ?_⟩
        intro o15
        refine ⟨fun c16 => ?_, fun c16 => ?_⟩
        · exact absurd c16 (by decide)
        · skip
          refine w_X12_refuse ?_
          have hB17 : Bd (uI (uI (uI I 97 1 0) 97 0 0) 97 0 5) := Bd.o0 hB2 (show isO 112 97 12 = true from rfl) (by decide) (show bnd 12 0 = none from rfl)
          exact hQ _ _ _ _ hB17 (Or.inl ⟨fun q => by have q1 := q.1; have q2 := q.2.1; have q3 := q.2.2; omega, rfl⟩)
      · exact absurd c14 (by decide)
    · skip
      rw [lg_cmp_gt] at c11
      have d18 : ((v1.toInt) : Int) ≤ (1073741823) := cl_nlt rfl (tl_i2l rfl) c11
      refine ⟨Or.inr rfl, ?_⟩
      intro o19
      refine ⟨fun c20 => ?_, fun c20 => ?_⟩
      · exact absurd c20 (by decide)
      · skip
        refine sp_X12_sizeOf hB2 hR0 (fun x21 y26 I22 J23 hB24 p25 => ?_)
        obtain ⟨heI22, p25⟩ := p25
        subst heI22
        have i27 := i32 x21
        refine ⟨fun c28 => ?_, fun c28 => ?_⟩
        · skip
          have d29 : ((12) : Int) < (x21.toInt) := ci_lt rfl rfl c28
          refine ⟨Or.inl rfl, ?_⟩
          intro o30
          refine ⟨fun c31 => ?_, fun c31 => ?_⟩
          · exact absurd c31 (by decide)
          · skip
            refine w_X12_refuse ?_
            have hB32 : Bd (uI (uI (uI I 97 1 0) 97 0 0) 97 0 5) := Bd.o0 hB2 (show isO 112 97 12 = true from rfl) (by decide) (show bnd 12 0 = none from rfl)
            exact hQ _ _ _ _ hB32 (Or.inl ⟨fun q => by have q1 := q.1; have q2 := q.2.1; have q3 := q.2.2; omega, rfl⟩)
        · skip
          have d33 : ((x21.toInt) : Int) ≤ (12) := ci_nlt rfl rfl c28
          refine ⟨Or.inr rfl, ?_⟩
          intro o34
          refine ⟨fun c35 => ?_, fun c35 => ?_⟩
          · skip
            refine px_plates hB2 d10 (by omega) (fun x36 I37 hB39 p40 => ?_)
            have ps : isPS v1 := ⟨d10, by omega, by omega⟩
            obtain ⟨n, W, y, hn, w1, w2, w3⟩ := p40
            have gp : GP v1 y := ⟨n, W, hn, w1, w2⟩
            have i42 := i32 x36
            refine ⟨fun c43 => ?_, fun c43 => ?_⟩
            · skip
              have d44 : ((x36.toInt) : Int) ≤ (0) := ci_le rfl rfl c43
              exact hQ _ _ _ _ hB39 (Or.inr ⟨ps, y, gp, by rw [if_pos ((stY_le gp w3).mp (by omega))]; rfl⟩)
            · skip
              have d45 : ((0) : Int) < (x36.toInt) := ci_nle rfl rfl c43
              exact hQ _ _ _ _ hB39 (Or.inr ⟨ps, y, gp, by rw [if_neg (fun q => by have := (stY_le gp w3).mpr q; omega)]; rfl⟩)
          · exact absurd c35 (by decide)

set_option maxHeartbeats 2000000 in
theorem gx_X12_plateMove {d : Nat} {Q : Qt} {v1 : Int32} {I : Im} {J : Jm} {R : Rm} (hB0 : Bd I) (hR0 : RI R) (hQ : ∀ (x : Int32) (y : Int64) (I2 : Im) (J2 : Jm), Bd I2 → (PL2 v1 x) → Q x y I2 J2 R) : AM (d + 4) 298 112 [.ref 97, .int v1] I J R Q := by
  have i_v1 := i32 v1
  refine w_X12_plateMove ?_
  have hB1 : Bd (uI I 97 1 0) := Bd.o0 hB0 (show isO 112 97 12 = true from rfl) (by decide) (show bnd 12 1 = none from rfl)
  have hB2 : Bd (uI (uI I 97 1 0) 97 0 0) := Bd.o0 hB1 (show isO 112 97 12 = true from rfl) (by decide) (show bnd 12 0 = none from rfl)
  refine w_X12_isSet ?_
  refine w_X12_isIn ?_
  refine ⟨fun c3 => ?_, fun c3 => ?_⟩
  · skip
    rw [lg_cmp_lt] at c3
    have d4 : ((v1.toInt) : Int) < (0) := cl_lt (tl_i2l rfl) rfl c3
    refine ⟨Or.inl rfl, ?_⟩
    intro o5
    refine ⟨fun c6 => ?_, fun c6 => ?_⟩
    · skip
      refine ⟨Or.inl rfl, ?_⟩
      intro o7
      refine ⟨fun c8 => ?_, fun c8 => ?_⟩
      · skip
        refine w_X12_refuse ?_
        have hB9 : Bd (uI (uI (uI I 97 1 0) 97 0 0) 97 0 5) := Bd.o0 hB2 (show isO 112 97 12 = true from rfl) (by decide) (show bnd 12 0 = none from rfl)
        exact hQ _ _ _ _ hB9 (Or.inl ⟨fun q => by have q1 := q.1; have q2 := q.2.1; have q3 := q.2.2; omega, rfl⟩)
      · exact absurd c8 (by decide)
    · exact absurd c6 (by decide)
  · skip
    rw [lg_cmp_lt] at c3
    have d10 : ((0) : Int) ≤ (v1.toInt) := cl_nlt (tl_i2l rfl) rfl c3
    refine ⟨fun c11 => ?_, fun c11 => ?_⟩
    · skip
      rw [lg_cmp_gt] at c11
      have d12 : ((1073741823) : Int) < (v1.toInt) := cl_lt rfl (tl_i2l rfl) c11
      refine ⟨Or.inl rfl, ?_⟩
      intro o13
      refine ⟨fun c14 => ?_, fun c14 => ?_⟩
      · skip
        refine ⟨Or.inl rfl, ?_⟩
        intro o15
        refine ⟨fun c16 => ?_, fun c16 => ?_⟩
        · skip
          refine w_X12_refuse ?_
          have hB17 : Bd (uI (uI (uI I 97 1 0) 97 0 0) 97 0 5) := Bd.o0 hB2 (show isO 112 97 12 = true from rfl) (by decide) (show bnd 12 0 = none from rfl)
          exact hQ _ _ _ _ hB17 (Or.inl ⟨fun q => by have q1 := q.1; have q2 := q.2.1; have q3 := q.2.2; omega, rfl⟩)
        · exact absurd c16 (by decide)
      · exact absurd c14 (by decide)
    · skip
      rw [lg_cmp_gt] at c11
      have d18 : ((v1.toInt) : Int) ≤ (1073741823) := cl_nlt rfl (tl_i2l rfl) c11
      refine ⟨Or.inr rfl, ?_⟩
      intro o19
      refine ⟨fun c20 => ?_, fun c20 => ?_⟩
      · exact absurd c20 (by decide)
      · skip
        refine sp_X12_sizeOf hB2 hR0 (fun x21 y26 I22 J23 hB24 p25 => ?_)
        obtain ⟨heI22, p25⟩ := p25
        subst heI22
        have i27 := i32 x21
        refine ⟨fun c28 => ?_, fun c28 => ?_⟩
        · skip
          have d29 : ((12) : Int) < (x21.toInt) := ci_lt rfl rfl c28
          refine ⟨Or.inl rfl, ?_⟩
          intro o30
          refine ⟨fun c31 => ?_, fun c31 => ?_⟩
          · skip
            refine w_X12_refuse ?_
            have hB32 : Bd (uI (uI (uI I 97 1 0) 97 0 0) 97 0 5) := Bd.o0 hB2 (show isO 112 97 12 = true from rfl) (by decide) (show bnd 12 0 = none from rfl)
            exact hQ _ _ _ _ hB32 (Or.inl ⟨fun q => by have q1 := q.1; have q2 := q.2.1; have q3 := q.2.2; omega, rfl⟩)
          · exact absurd c31 (by decide)
        · skip
          have d33 : ((x21.toInt) : Int) ≤ (12) := ci_nlt rfl rfl c28
          refine ⟨Or.inr rfl, ?_⟩
          intro o34
          refine ⟨fun c35 => ?_, fun c35 => ?_⟩
          · exact absurd c35 (by decide)
          · skip
            refine px_plates hB2 d10 (by omega) (fun x36 I37 hB39 p40 => ?_)
            have ps : isPS v1 := ⟨d10, by omega, by omega⟩
            obtain ⟨n, W, y, hn, w1, w2, w3⟩ := p40
            have gp : GP v1 y := ⟨n, W, hn, w1, w2⟩
            have i42 := i32 x36
            refine w_X12_answer ?_
            refine ⟨fun c43 => ?_, fun c43 => ?_⟩
            · skip
              have d44 : ((0) : Int) ≤ (x36.toInt) := ci_le rfl rfl c43
              exact hQ _ _ _ _ hB39 (Or.inr ⟨ps, y, gp, w3⟩)
            · skip
              have d45 : ((x36.toInt) : Int) < (0) := ci_nle rfl rfl c43
              refine w_X12_refuse ?_
              have hB46 : Bd (uI I37 97 0 8) := Bd.o0 hB39 (show isO 112 97 12 = true from rfl) (by decide) (show bnd 12 0 = none from rfl)
              exact hQ _ _ _ _ hB46 (Or.inr ⟨ps, y, gp, stY_m gp w3 (by omega)⟩)


set_option maxHeartbeats 2000000 in
theorem gx_X11_luck {d : Nat} {Q : Qt} {v1 : Int32} {v2 : Int32} {v3 : Int32} {v4 : Int32} {I : Im} {J : Jm} {R : Rm} (hB0 : Bd I) (hR0 : RI R) (hJ0 : J 47 0 = 0) (hQ : ∀ (x : Int32) (y : Int64) (I2 : Im) (J2 : Jm), Bd I2 → (J2 47 0 = 0 ∧ ((0 ≤ x.toInt ∧ x.toInt ≤ 1 ∧ (x.toInt = 1 → 0 ≤ v1.toInt ∧ v1.toInt ≤ 1073741823 ∧ pcn v1 30 ≤ 12 ∧ 0 ≤ v2.toInt ∧ v2.toInt ≤ 12 ∧ 1 ≤ v3.toInt ∧ v3.toInt ≤ 99 ∧ 1 ≤ v4.toInt ∧ v4.toInt ≤ 30 ∧ v2.toInt ≤ pcn v1 30) ∧ (0 ≤ v1.toInt ∧ v1.toInt ≤ 1073741823 ∧ pcn v1 30 ≤ 12 ∧ 0 ≤ v2.toInt ∧ v2.toInt ≤ 12 ∧ 1 ≤ v3.toInt ∧ v3.toInt ≤ 99 ∧ 1 ≤ v4.toInt ∧ v4.toInt ≤ 30 ∧ v2.toInt ≤ pcn v1 30 → x.toInt = 1)))) → Q x y I2 J2 R) : AM (d + 4) 142 112 [.ref 1, .int v1, .int v2, .int v3, .int v4] I J R Q := by
  have i_v1 := i32 v1
  have i_v2 := i32 v2
  have i_v3 := i32 v3
  have i_v4 := i32 v4
  refine w_X11_luck ?_
  refine kpp rfl (sp_X11_isPlateSet hB0 hR0 (fun x1 y6 I2 J3 hB4 p5 eI1 eJ1 eR1 => ?_))
  subst eJ1
  intro o7
  obtain ⟨heI2, p5⟩ := p5
  subst heI2
  have i8 := i32 x1
  refine ⟨fun c9 => ?_, fun c9 => ?_⟩
  · skip
    have d10 : ((x1.toInt) : Int) = (0) := ci_eq rfl rfl c9
    refine w_X11_deny ?_
    have hB11 : Bd (uI I 1 0 5) := Bd.o0 hB0 (show isO 112 1 11 = true from rfl) (by decide) (show bnd 11 0 = none from rfl)
    refine ⟨Or.inl rfl, ?_⟩
    intro o12
    refine ⟨Or.inl rfl, ?_⟩
    exact hQ _ _ _ _ hB11 ⟨hJ0, (by have q0 : (0 : Int32).toInt = 0 := rfl; omega)⟩
  · skip
    have d13 : ¬ ((x1.toInt) : Int) = (0) := ci_ne rfl rfl c9
    refine ⟨fun c14 => ?_, fun c14 => ?_⟩
    · skip
      have d15 : ((v2.toInt) : Int) < (0) := ci_lt rfl rfl c14
      refine w_X11_deny ?_
      have hB16 : Bd (uI I 1 0 5) := Bd.o0 hB0 (show isO 112 1 11 = true from rfl) (by decide) (show bnd 11 0 = none from rfl)
      refine ⟨Or.inl rfl, ?_⟩
      intro o17
      refine ⟨Or.inl rfl, ?_⟩
      exact hQ _ _ _ _ hB16 ⟨hJ0, (by have q0 : (0 : Int32).toInt = 0 := rfl; omega)⟩
    · skip
      have d18 : ((0) : Int) ≤ (v2.toInt) := ci_nlt rfl rfl c14
      refine ⟨fun c19 => ?_, fun c19 => ?_⟩
      · skip
        have d20 : ((12) : Int) < (v2.toInt) := ci_lt rfl rfl c19
        refine w_X11_deny ?_
        have hB21 : Bd (uI I 1 0 5) := Bd.o0 hB0 (show isO 112 1 11 = true from rfl) (by decide) (show bnd 11 0 = none from rfl)
        refine ⟨Or.inl rfl, ?_⟩
        intro o22
        refine ⟨Or.inl rfl, ?_⟩
        exact hQ _ _ _ _ hB21 ⟨hJ0, (by have q0 : (0 : Int32).toInt = 0 := rfl; omega)⟩
      · skip
        have d23 : ((v2.toInt) : Int) ≤ (12) := ci_nlt rfl rfl c19
        refine w_X11_isShare ?_
        refine ⟨fun c24 => ?_, fun c24 => ?_⟩
        · skip
          have d25 : ((v3.toInt) : Int) < (1) := ci_lt rfl rfl c24
          refine ⟨Or.inl rfl, ?_⟩
          intro o26
          refine ⟨fun c27 => ?_, fun c27 => ?_⟩
          · exact absurd c27 (by decide)
          · skip
            refine w_X11_deny ?_
            have hB28 : Bd (uI I 1 0 5) := Bd.o0 hB0 (show isO 112 1 11 = true from rfl) (by decide) (show bnd 11 0 = none from rfl)
            refine ⟨Or.inl rfl, ?_⟩
            intro o29
            refine ⟨Or.inl rfl, ?_⟩
            exact hQ _ _ _ _ hB28 ⟨hJ0, (by have q0 : (0 : Int32).toInt = 0 := rfl; omega)⟩
        · skip
          have d30 : ((1) : Int) ≤ (v3.toInt) := ci_nlt rfl rfl c24
          refine ⟨fun c31 => ?_, fun c31 => ?_⟩
          · skip
            have d32 : ((99) : Int) < (v3.toInt) := ci_lt rfl rfl c31
            refine ⟨Or.inl rfl, ?_⟩
            intro o33
            refine ⟨fun c34 => ?_, fun c34 => ?_⟩
            · exact absurd c34 (by decide)
            · skip
              refine w_X11_deny ?_
              have hB35 : Bd (uI I 1 0 5) := Bd.o0 hB0 (show isO 112 1 11 = true from rfl) (by decide) (show bnd 11 0 = none from rfl)
              refine ⟨Or.inl rfl, ?_⟩
              intro o36
              refine ⟨Or.inl rfl, ?_⟩
              exact hQ _ _ _ _ hB35 ⟨hJ0, (by have q0 : (0 : Int32).toInt = 0 := rfl; omega)⟩
          · skip
            have d37 : ((v3.toInt) : Int) ≤ (99) := ci_nlt rfl rfl c31
            refine ⟨fun c38 => ?_, fun c38 => ?_⟩
            · skip
              have d39 : ((v4.toInt) : Int) < (1) := ci_lt rfl rfl c38
              refine ⟨Or.inl rfl, ?_⟩
              intro o40
              refine ⟨fun c41 => ?_, fun c41 => ?_⟩
              · exact absurd c41 (by decide)
              · skip
                refine w_X11_deny ?_
                have hB42 : Bd (uI I 1 0 5) := Bd.o0 hB0 (show isO 112 1 11 = true from rfl) (by decide) (show bnd 11 0 = none from rfl)
                refine ⟨Or.inl rfl, ?_⟩
                intro o43
                refine ⟨Or.inl rfl, ?_⟩
                exact hQ _ _ _ _ hB42 ⟨hJ0, (by have q0 : (0 : Int32).toInt = 0 := rfl; omega)⟩
            · skip
              have d44 : ((1) : Int) ≤ (v4.toInt) := ci_nlt rfl rfl c38
              refine ⟨fun c45 => ?_, fun c45 => ?_⟩
              · skip
                have d46 : ((30) : Int) < (v4.toInt) := ci_lt rfl rfl c45
                refine ⟨Or.inl rfl, ?_⟩
                intro o47
                refine ⟨fun c48 => ?_, fun c48 => ?_⟩
                · exact absurd c48 (by decide)
                · skip
                  refine w_X11_deny ?_
                  have hB49 : Bd (uI I 1 0 5) := Bd.o0 hB0 (show isO 112 1 11 = true from rfl) (by decide) (show bnd 11 0 = none from rfl)
                  refine ⟨Or.inl rfl, ?_⟩
                  intro o50
                  refine ⟨Or.inl rfl, ?_⟩
                  exact hQ _ _ _ _ hB49 ⟨hJ0, (by have q0 : (0 : Int32).toInt = 0 := rfl; omega)⟩
              · skip
                have d51 : ((v4.toInt) : Int) ≤ (30) := ci_nlt rfl rfl c45
                refine ⟨Or.inr rfl, ?_⟩
                intro o52
                refine ⟨fun c53 => ?_, fun c53 => ?_⟩
                · skip
                  refine kpp rfl (sp_J6_bitCount_0f7a4 hB0 hR0 (fun x54 y59 I55 J56 hB57 p58 eI2 eJ2 eR2 => ?_))
                  subst eJ2
                  obtain ⟨heI55, p58⟩ := p58
                  subst heI55
                  have i60 := i32 x54
                  refine ⟨fun c61 => ?_, fun c61 => ?_⟩
                  · skip
                    have d62 : ((v2.toInt) : Int) ≤ (x54.toInt) := ci_le rfl rfl c61
                    refine px_lay hB0 (by omega) (by omega) hJ0 (fun I64 J65 n hB66 hn hsz hmb hJ => ?_)
                    have hz : J65 47 0 = 0 := Int64.toInt_inj.mp (by rw [hJ 0 (Nat.pow_pos (by decide)), smN_0]; rfl)
                    refine w_X11_crumbs ?_
                    refine ⟨fun c69 => ?_, fun c69 => ?_⟩
                    · skip
                      have d70 : ((1) : Int) ≤ (v4.toInt) := ci_le rfl rfl c69
                      refine ⟨(fun z => by have z2 : (v4.toInt : Int) = 0 := cl_eq (tl_i2l rfl) rfl z; omega), ?_⟩
                      refine kpp rfl (sp_X9_countWithin hB66 hR0 (fun x71 y76 I72 J73 hB74 p75 eI3 eJ3 eR3 => ?_))
                      subst eJ3
                      refine kp6 rfl hR0 rfl (sp_X11_choices hB74 hR0 (by have z : (v2 : Int32).toInt = v2.toInt := rfl; omega) (fun x77 y82 I78 J79 hB80 p81 k6_4 => ?_))
                      refine kp6 rfl hR0 rfl (sp_X11_tell hB80 hR0 (fun x83 y88 I84 J85 hB86 p87 k6_5 => ?_))
                      intro o89
                      have i90 := i32 x83
                      refine ⟨o89, ?_⟩
                      exact hQ _ _ _ _ hB86 ⟨((congrFun k6_5 0).trans ((congrFun k6_4 0).trans hz)), (by have q0 : (x83 : Int32).toInt = x83.toInt := rfl; omega)⟩
                    · skip
                      have d91 : ((v4.toInt) : Int) < (1) := ci_nle rfl rfl c69
                      refine kpp rfl (sp_X9_countWithin hB66 hR0 (fun x92 y97 I93 J94 hB95 p96 eI6 eJ6 eR6 => ?_))
                      subst eJ6
                      refine kp6 rfl hR0 rfl (sp_X11_choices hB95 hR0 (by have z : (v2 : Int32).toInt = v2.toInt := rfl; omega) (fun x98 y103 I99 J100 hB101 p102 k6_7 => ?_))
                      refine kp6 rfl hR0 rfl (sp_X11_tell hB101 hR0 (fun x104 y109 I105 J106 hB107 p108 k6_8 => ?_))
                      intro o110
                      have i111 := i32 x104
                      refine ⟨o110, ?_⟩
                      exact hQ _ _ _ _ hB107 ⟨((congrFun k6_8 0).trans ((congrFun k6_7 0).trans hz)), (by have q0 : (x104 : Int32).toInt = x104.toInt := rfl; omega)⟩
                  · skip
                    have d112 : ((x54.toInt) : Int) < (v2.toInt) := ci_nle rfl rfl c61
                    refine w_X11_deny ?_
                    have hB113 : Bd (uI I 1 0 8) := Bd.o0 hB0 (show isO 112 1 11 = true from rfl) (by decide) (show bnd 11 0 = none from rfl)
                    refine ⟨Or.inl rfl, ?_⟩
                    intro o114
                    refine ⟨Or.inl rfl, ?_⟩
                    exact hQ _ _ _ _ hB113 ⟨hJ0, (by have q0 : (0 : Int32).toInt = 0 := rfl; omega)⟩
                · exact absurd c53 (by decide)
end PT15x8
