/-! ===== mean(): what it tells, both sides ===== -/
noncomputable def hsU_q10 (st : StS9) : Nat → Int
  | 0 => 0
  | i + 1 => hsU_q10 st i + hvR (st.2.1 i) 30 0
noncomputable def mnU_q10 (G : Nat → StS9) (M : Nat) : Nat → Int
  | 0 => 0
  | k + 1 => mnU_q10 G M k + hsU_q10 (G k) M
theorem hsU_b_q10 {st : StS9} : ∀ M, 0 ≤ hsU_q10 st M ∧ hsU_q10 st M ≤ (M : Int) * 69872686884000 := by
  intro M
  induction M with
  | zero => exact ⟨Int.le_refl _, by show (0 : Int) ≤ ((0 : Nat) : Int) * _; omega⟩
  | succ i ih =>
    have := hvR_b (h := st.2.1 i) 30 0 (by decide) (by decide)
    have e : hsU_q10 st (i + 1) = hsU_q10 st i + hvR (st.2.1 i) 30 0 := rfl
    rw [e]; omega
theorem mnU_b_q10 {G : Nat → StS9} {M : Nat} (hM : M ≤ 6) : ∀ k, 0 ≤ mnU_q10 G M k ∧ mnU_q10 G M k ≤ (k : Int) * 419236121304000 := by
  intro k
  induction k with
  | zero => exact ⟨Int.le_refl _, by show (0 : Int) ≤ ((0 : Nat) : Int) * _; omega⟩
  | succ k ih =>
    have := hsU_b_q10 (st := G k) M
    have e : mnU_q10 G M (k + 1) = mnU_q10 G M k + hsU_q10 (G k) M := rfl
    rw [e]; omega
theorem mnU_c_q10 {G H : Nat → StS9} {M : Nat} : ∀ k, (∀ j, j < k → G j = H j) → mnU_q10 G M k = mnU_q10 H M k := by
  intro k
  induction k with
  | zero => intro _; rfl
  | succ k ih =>
    intro h
    show mnU_q10 G M k + hsU_q10 (G k) M = mnU_q10 H M k + hsU_q10 (H k) M
    rw [ih (fun j hj => h j (by omega)), h k (by omega)]
theorem ltm9_q10 {x : Int64} {a : Int} (h : x.toInt = a) (ha : 0 ≤ a) : -9223372036854775808 < x.toInt := by omega
theorem ltp9_q10 {x : Int64} {V : Nat} (h : x.toInt = (V : Int) * 2329089562800) (hV : 1 ≤ V) : 0 < x.toInt := by omega
section FRM
variable {I I1 : Im} {J J1 : Jm} {R : Rm} {v1 v2 x : Int32} {Q : Qt} {M : Nat}
theorem px_allHoldings_q10 {e o : Nat} {s : StS9} (hO : isO 112 o 0 = true) (hm : I o 4 = nI M) (hM : M ≤ 6) (h : BkA o M s I) (hQ : ∀ y : Int64, y.toInt = hsU_q10 s M → Q 0 y I J R) : AM (e + 3) 10 112 [.ref o] I J R Q := by
  refine am_X0_allHoldings (fun P hc => sg_X0_allHoldings_0 hc _ _ _ _ ?_)
  have L : ∀ (f i : Nat) (y : Int64), i + f = M → y.toInt = hsU_q10 s i → P 4 112 [(0, .ref o), (1, .long y), (3, .int (nI i))] [] I J R := by
    intro f
    induction f with
    | zero =>
      intro i y hi hy
      have ei : i = M := by omega
      subst ei
      exact sg_X0_allHoldings_4 hc _ _ _ _ _ _ (bif_t hO ⟨fun _ => hQ y hy, fun c => absurd (by rw [hm]; all_goals exact Int32.le_refl _) c⟩)
    | succ f ih =>
      intro i y hi hy
      have hb := hsU_b_q10 (st := s) i
      have hh := hvR_b (h := s.2.1 i) 30 0 (by decide) (by decide)
      refine sg_X0_allHoldings_4 hc _ _ _ _ _ _ (bif_t hO ⟨fun c => absurd ((nle_nI (a := M) (b := i) (by omega) (by omega)).mp (by rw [hm] at c; exact c)) (by omega), fun _ => bif_t hO ?_⟩)
      have hk : (0 : Int32) ≤ nI i ∧ nI i < I o 4 := ⟨(nle_nI (a := 0) (by omega) (by omega)).mpr (by omega), by rw [hm]; exact (nlt_nI (by omega) (by omega)).mpr (by omega)⟩
      refine px_holding (M := M) (s := s) hO hk ⟨by rw [hm, nI_toInt (by omega)], hM⟩ h (fun y2 hy2 => ?_)
      have en : nn9 (nI i) = i := tn_nI (by omega)
      rw [en] at hy2
      rw [nI_k1]
      refine ih (i + 1) _ (by omega) ?_
      rw [tl_add hy hy2 (by omega)]; rfl
  exact L M 0 0 (by omega) rfl
/-- the run of a seed, by what lay in the rounds' row before -/
noncomputable def gM9_q10 (s : DS) (I : Im) (v1 : Int32) (qs : Nat → Nat → Int32) (k : Nat) : StS9 := (rn9 s (I 102 0) (I 102 1) (du9 I) 1000000 0 (qs k) 0 (s9 I, v1 + nI k, 0, 0, 0)).2.2.1
noncomputable abbrev HMF9_q10 (R : Rm) (v1 v2 : Int32) (I : Im) (J : Jm) (x : Int32) (J1 : Jm) : Prop := ∃ a c, FrX 1 1 2 (okM9 v1 v2 I) a c J J1 x ∧ (okM9 v1 v2 I → ∃ s qs, DG9 (R 1 9) (I 102) I s ∧ a = mnU_q10 (gM9_q10 s I v1 qs) (mnN (I 102)) v2.toInt.toNat ∧ c = v2.toInt * 2329089562800)
theorem lf_m9_q10 : ∀ V, V < 21 → 1 ≤ V → ((2329089562800 : Int64) * Int32.toInt64 (nI V)).toInt = (V : Int) * 2329089562800 ∧ (Int32.toInt64 (nI V) * (2329089562800 : Int64)).toInt = (V : Int) * 2329089562800 := by decide +kernel
set_option maxHeartbeats 1000000 in
theorem cf_mean {d : Nat} (hB0 : Bd I) (hR : RI R) (em : I (R 1 7) 4 = I 102 0) (h : W9 I R) : AM (d + 7) 146 112 [.ref 1, .int v1, .int v2] I J R (fun x _ _ J2 _ => HMF9_q10 R v1 v2 I J x J2) := by
  have hO := hR.now.1
  have hS := hR.spare.1
  have hP := hR.plan.1
  obtain ⟨he, hne⟩ := sp_e hR
  have n7 := now_9 hR
  have n9 := n9_p hR
  obtain ⟨q1, q2, q3⟩ := h.1
  have hm := q1.m
  have i0 : (0 : Int32).toInt = 0 := rfl
  have i1 : (1 : Int32).toInt = 1 := rfl
  have i20 : (20 : Int32).toInt = 20 := rfl
  have i9 : (9999 : Int32).toInt = 9999 := rfl
  refine am_X11_mean (fun P hc => ?_)
  have no : ∀ z : Int32, ¬ okM9 v1 v2 I → AM (d + 6) 150 112 [.ref 1, .int z] I J R (fun x1 _ I1 J1 _ => (x1 = 0 ∨ x1 = 1) → (((x1 : Int32) = 0 ∨ (x1 : Int32) = 1) ∧ HMF9_q10 R v1 v2 I J x1 J1)) := fun z hz => w_X11_deny ⟨Or.inl rfl, fun _ => ⟨Or.inl rfl, 0, 0, FrX.n hz, fun w => absurd w hz⟩⟩
  have L : okM9 v1 v2 I → ∀ V : Nat, v2 = nI V → 1 ≤ V → V ≤ 20 → ∀ s, DG9 (R 1 9) (I 102) I s → ∀ (g k : Nat) (v3 : Int64) (qs : Nat → Nat → Int32) (M : Im) (JM : Jm), k + g = V → Bd M → (∀ c, ¬ (R 1 8 ≤ c ∧ c ≤ R 1 8 + 5) → ¬ c = 51 → ¬ c = 52 → M c = I c) → v3.toInt = mnU_q10 (gM9_q10 s I v1 qs) (mnN (I 102)) k → P 61 112 [(0, .ref 1), (1, .int v1), (2, .int v2), (3, .long v3), (5, .int (nI k))] [] M JM R := by
    intro hok V eV hV1 hV2 s hg g
    obtain ⟨⟨o1, o2⟩, ⟨o3, o4⟩, o5, h52⟩ := id hok
    rw [le_i] at o1 o2 o3 o4
    have hE := h.ev hB0 h52 hg
    have hs := h.hs
    obtain ⟨g1, g2, g3, g4, g5, g6, g7⟩ := id hg
    have hV : ∀ a, a < dL s → VC9 (I 102 0) (dC s a) := fun a ha => by
      rcases (g2.2.2.2 a ha).2.2 with q | ⟨t, ht, q⟩
      · exact ⟨fun z => by rw [q] at z; exact absurd z (by decide), fun z => by rw [q] at z; exact absurd z (by decide)⟩
      · have := (hE.2.2.2.2 t ht).2.2
        rw [q] at this; exact this
    have tV : v2.toInt.toNat = V := by rw [eV, nI_toInt (by omega)]; omega
    have iV : v2.toInt = (V : Int) := by rw [eV]; exact nI_toInt (by omega)
    induction g with
    | zero =>
      intro k v3 qs M JM hk hB hM h3
      have ek : k = V := by omega
      subst ek
      have hb := mnU_b_q10 (G := gM9_q10 s I v1 qs) hm.1 k
      obtain ⟨f1, -⟩ := lf_m9_q10 k (by omega) hV1
      refine sg_X11_mean_61 hc _ _ _ _ _ _ _ ⟨fun _ => ?_, fun c => absurd (by rw [eV]; all_goals exact Int32.le_refl _) c⟩
      rw [eV]
      refine px_tell (ltm9_q10 h3 hb.1) (ltp9_q10 f1 hV1) (fun _ => ⟨Or.inr rfl, _, _, FrX.yc h3 f1 ?_, fun _ => ⟨s, qs, hg, ?_, ?_⟩⟩)
      · rw [← eV]; exact hok
      · rw [← eV, tV]
      · rw [← eV, iV]
    | succ g ih =>
      intro k v3 qs M JM hk hB hM h3
      refine sg_X11_mean_61 hc _ _ _ _ _ _ _ ⟨fun c => absurd ((nle_nI (a := V) (b := k) (by omega) (by omega)).mp (by rw [eV] at c; exact c)) (by omega), fun _ => ?_⟩
      refine ⟨hR.spare.2, hR.now.2, bif_t hS (kx (px_cpB (Q := fun _ _ I2 J2 _ => (∀ c, ¬ (R 1 8 ≤ c ∧ c ≤ R 1 8 + 5) → I2 c = M c) ∧ I2 (R 1 8) 4 = M (R 1 7) 4 ∧ CpB9 (R 1 8) (R 1 7) M I2) hS hO (by omega) (fun I2 J2 f1 _ y4 _ y1 y3 yst yn => ⟨f1, y4, y1, y3, yst, fun k hk => (yn k hk).2⟩)) (sp_X0_copyFrom hB hR hS hO (fun x12 y17 I13 J14 hB15 p16 fg => ?_)))⟩
      obtain ⟨f1, y4, ycp⟩ := fg
      have c0 : ∀ c, ¬ (R 1 8 ≤ c ∧ c ≤ R 1 8 + 5) → ¬ c = 51 → ¬ c = 52 → I13 c = I c := fun c a1 a2 a3 => (f1 c a1).trans (hM c a1 a2 a3)
      have hb13 : BA99 (R 1 8) (I 102) I13 := (q2.cp (I2 := M) (congrFun (hM (R 1 7) (by omega) (by omega) (by omega)) 1) (congrFun (hM (R 1 7) (by omega) (by omega) (by omega)) 3) (fun c hc => hM c (by omega) (by omega) (by omega))).cy hm.1 ycp
      have m13 : I13 (R 1 8) 4 = I 102 0 := y4.trans ((congrFun (hM (R 1 7) (by omega) (by omega) (by omega)) 4).trans em)
      have s13 : SDc s (R 1 9) I13 := g5.cp (fun c a1 a2 => c0 c (by omega) (by omega) (by omega))
      refine ⟨hR.spare.2, hR.plan.2, ?_⟩
      have run : AM (d + 6) 41 112 [.ref 51, .ref (R 1 8), .ref (R 1 9), .int (v1 + nI k)] I13 J14 R (fun _ _ I2 J2 _ => BkA (R 1 8) (mnN (I 102)) (rn9 s (I 102 0) (I 102 1) (du9 I) 1000000 0 (I13 52) 0 (s9 I, v1 + nI k, 0, 0, 0)).2.2.1 I2 ∧ FrLf 51 (R 1 8) I13 J14 I2 J2) :=
        px_run4 (du := du9 I) (od := I 102 1) (m := I 102 0) (M := mnN (I 102)) (st := s9 I) (s := s) rfl hS hP (by omega) (by omega) g1 g2 s13 hV m13 hE.2.1 hb13.1 (fun k hk => ⟨(hb13.2.2.2 k hk).1, (hb13.2.2.2 k hk).2.1⟩) hE.2.2.1 ⟨hb13.2.2.1, fun k hk => (hb13.2.2.2 k hk).2.2, hb13.2.1⟩ (fun I2 hA _ _ _ hF => ⟨hA.1, hF⟩)
      refine kx run (sp_X4_run hB15 hR (show isO 112 51 4 = true from rfl) hS hP (fun x18 y23 I19 J20 hB21 p22 hF => ?_))
      obtain ⟨hBk, hF⟩ := hF
      refine ⟨hR.spare.2, bif_t hS ?_⟩
      have m19 : I19 (R 1 8) 4 = nI (mnN (I 102)) := ((hF.i (fun q => by rcases q with (q | q | q) | q | q <;> omega)).trans m13).trans hm.2.1
      have hb := mnU_b_q10 (G := gM9_q10 s I v1 qs) hm.1 k
      have hu := hsU_b_q10 (st := (rn9 s (I 102 0) (I 102 1) (du9 I) 1000000 0 (I13 52) 0 (s9 I, v1 + nI k, 0, 0, 0)).2.2.1) (mnN (I 102))
      have hm6 := hm.1
      refine px_allHoldings_q10 hS m19 hm.1 hBk (fun y hy => ?_)
      rw [nI_k1]
      refine ih (k + 1) _ (fun j => if j = k then I13 52 else qs j) _ _ (by omega) hB21 (fun c a1 a2 a3 => (hF.c (fun k q => by rcases q with (q | q | q) | q | q <;> omega)).trans (c0 c a1 a2 a3)) ?_
      have eG : gM9_q10 s I v1 (fun j => if j = k then I13 52 else qs j) k = (rn9 s (I 102 0) (I 102 1) (du9 I) 1000000 0 (I13 52) 0 (s9 I, v1 + nI k, 0, 0, 0)).2.2.1 := by
        show (rn9 s (I 102 0) (I 102 1) (du9 I) 1000000 0 (if k = k then I13 52 else qs k) 0 (s9 I, v1 + nI k, 0, 0, 0)).2.2.1 = _
        rw [if_pos rfl]
      have eU : mnU_q10 (gM9_q10 s I v1 (fun j => if j = k then I13 52 else qs j)) (mnN (I 102)) k = mnU_q10 (gM9_q10 s I v1 qs) (mnN (I 102)) k := mnU_c_q10 k (fun j hj => by
        show (rn9 s (I 102 0) (I 102 1) (du9 I) 1000000 0 (if j = k then I13 52 else qs j) 0 (s9 I, v1 + nI j, 0, 0, 0)).2.2.1 = gM9_q10 s I v1 qs j
        rw [if_neg (by omega)]
        all_goals rfl)
      show (v3 + y).toInt = mnU_q10 (gM9_q10 s I v1 (fun j => if j = k then I13 52 else qs j)) (mnN (I 102)) k + hsU_q10 (gM9_q10 s I v1 (fun j => if j = k then I13 52 else qs j) k) (mnN (I 102))
      rw [eG, eU]
      exact tl_add h3 hy (by omega)
  refine sg_X11_mean_0 hc _ _ _ _ _ ⟨fun c => no 5 (fun z => ile.mpr z.1.1 c), fun c1 => ⟨fun c => no 5 (fun z => ile.mpr z.1.2 c), fun c2 => ⟨fun c => no 5 (fun z => ile.mpr z.2.1.1 c), fun c3 => ⟨fun c => no 5 (fun z => ile.mpr z.2.1.2 c), fun c4 => ?_⟩⟩⟩⟩
  have l1 := ile.mp c1
  have l2 := ile.mp c2
  have l3 := ile.mp c3
  have l4 := ile.mp c4
  have l1' := l1
  have l2' := l2
  have l3' := l3
  have l4' := l4
  rw [le_i] at l1' l2' l3' l4'
  have ea : ((v1 + v2) - 1 : Int32).toInt = v1.toInt + v2.toInt - 1 := ti_sub (ti_add rfl rfl (by omega)) i1 (by omega)
  refine ⟨fun c5 => ⟨hR.plan.2, bif_t hP ⟨fun c6 => ?_, fun c6 => no 8 (fun z => z.2.2.2 (by rw [← q3.1]; exact c6))⟩⟩, fun c5 => no 5 (fun z => c5 (by rw [le_i, ea, i9]; have := z.2.2.1; omega))⟩
  rw [le_i, ea, i9] at c5
  have h52 : ¬ I 102 52 = 0 := fun z => c6 (q3.1.trans z)
  obtain ⟨s, hg⟩ := q3.2 h52
  exact L ⟨⟨l1, l2⟩, ⟨l3, l4⟩, by omega, h52⟩ v2.toInt.toNat (nI_ofN (by omega)) (by omega) (by omega) s hg v2.toInt.toNat 0 0 (fun _ _ => 0) I J (by omega) hB0 (fun _ _ _ _ => rfl) rfl
set_option maxHeartbeats 1000000 in
theorem mf_mean {e : Nat} (hB : Bd I) (hR : RI R) (h : W9 I R) (e102 : I1 102 = I 102) (H1 : HMF9_q10 R v1 v2 I J x J1) : AM (e + 84) 315 112 [.ref 97, .int v1, .int v2] I1 J1 R (fun x2 _ _ J2 _ => ∃ a c, FrX 1 1 2 (okM9 v1 v2 I) a c J J1 x ∧ FrX 97 2 3 (okM9 v1 v2 I) a c J1 J2 x2) := by
  obtain ⟨a0, c9, hX, hH⟩ := H1
  obtain ⟨q1, q2, q3⟩ := h.1
  have hm := q1.m
  have i0 : (0 : Int32).toInt = 0 := rfl
  have i1 : (1 : Int32).toInt = 1 := rfl
  have i20 : (20 : Int32).toInt = 20 := rfl
  have i9 : (9999 : Int32).toInt = 9999 := rfl
  have it : (10000 : Int32).toInt = 10000 := rfl
  have t52 : Int32.toNatClampNeg 52 = 52 := rfl
  have t0 : Int32.toNatClampNeg 0 = 0 := rfl
  have v52 : vp_in 52 1620 := vp_of (a := 52) rfl (by decide) (by decide)
  have c102 : uI (uI I1 97 1 0) 97 0 0 102 = I 102 := by rw [uI_ne (by decide), uI_ne (by decide)]; exact e102
  have fail : ¬ okM9 v1 v2 I → ∀ z : Int32, AM (e + 83) 177 112 [.ref 97, .int z] (uI (uI I1 97 1 0) 97 0 0) J1 R (fun x1 _ _ J2 _ => (x1 = 0 ∨ x1 = 1) → (((x1 : Int32) = 0 ∨ (x1 : Int32) = 1) ∧ ∃ a c, FrX 1 1 2 (okM9 v1 v2 I) a c J J1 x ∧ FrX 97 2 3 (okM9 v1 v2 I) a c J1 J2 x1)) := fun hn z => w_X12_no ⟨Or.inl rfl, fun _ => ⟨Or.inl rfl, a0, c9, hX, FrX.n hn⟩⟩
  refine am_X12_mean (fun P hc => sg_X12_mean_0 hc _ _ _ _ _ (px_isInI (lo := 1) (hi := 20) (fun l3 l4 _ => ⟨fun z => absurd z (by decide), fun _ => ?_⟩) (fun m1 _ => ⟨fun _ => fail (fun z => m1.elim (fun y => ile.mpr z.2.1.1 y) (fun y => y z.2.1.2)) 5, fun z => absurd rfl z⟩)))
  have l3' := l3
  have l4' := l4
  rw [le_i] at l3' l4'
  have e10 : (10000 - v2 : Int32).toInt = 10000 - v2.toInt := ti_sub it rfl (by omega)
  refine px_isInI (lo := 0) (hi := 10000 - v2) (fun l1 l2 _ => ⟨fun _ => ⟨v52, ?_⟩, fun z => absurd z (by decide)⟩) (fun m1 _ => ⟨fun z => absurd rfl z, fun _ => fail (fun z => m1.elim (fun y => ile.mpr z.1.1 y) (fun y => y (by rw [le_i, e10]; have := z.2.2.1; omega))) 5⟩)
  have l1' := l1
  have l2' := l2
  rw [le_i] at l1'
  rw [le_i, e10] at l2'
  rw [t52, c102]
  refine ⟨fun h52 => ?_, fun c52 => fail (fun z => z.2.2.2 c52) 8⟩
  have hok : okM9 v1 v2 I := ⟨⟨l1, by rw [le_i, i9]; omega⟩, ⟨l3, l4⟩, by omega, h52⟩
  obtain ⟨s, qs, hg, ea, ec⟩ := hH hok
  have hE := h.ev hB h52 hg
  have hs := h.hs
  obtain ⟨g1, g2, g3, g4, g5, g6, g7⟩ := id hg
  obtain ⟨V, hV, eV⟩ : ∃ V : Nat, (1 ≤ V ∧ V ≤ 20) ∧ v2 = nI V := ⟨v2.toInt.toNat, by omega, Int32.toInt_inj.mp (by rw [nI_toInt (by omega)]; omega)⟩
  have iV : v2.toInt = (V : Int) := by rw [eV]; exact nI_toInt (by omega)
  have tV : v2.toInt.toNat = V := by omega
  rw [tV] at ea
  rw [iV] at ec
  obtain ⟨-, f2⟩ := lf_m9_q10 V (by omega) hV.1
  have L : ∀ (g k : Nat) (v3 : Int64) (A : Im) (JA : Jm), k + g = V → A 102 = I 102 → (∀ j, j < 52 → A 103 j = I 102 j) → v3.toInt = mnU_q10 (gM9_q10 s I v1 qs) (mnN (I 102)) k → P 91 112 [(0, .ref 97), (1, .int v1), (2, .int v2), (3, .long v3), (5, .int (nI k))] [] A JA R := by
    intro g
    induction g with
    | zero =>
      intro k v3 A JA hk hA _ h3
      have ek : k = V := by omega
      subst ek
      have hb := mnU_b_q10 (G := gM9_q10 s I v1 qs) hm.1 k
      refine sg_X12_mean_91 hc _ _ _ _ _ _ _ ⟨fun _ => ?_, fun c => absurd (by rw [eV]; all_goals exact Int32.le_refl _) c⟩
      have f2' : (Int32.toInt64 v2 * (2329089562800 : Int64)).toInt = c9 := by rw [eV, ec]; exact f2
      exact px_frac (ltm9_q10 h3 hb.1) (ltp9_q10 (f2'.trans ec) hV.1) (fun _ => ⟨Or.inr rfl, a0, c9, hX, FrX.ym (h3.trans ea.symm) f2' hok⟩)
    | succ g ih =>
      intro k v3 A JA hk hA h103 h3
      refine sg_X12_mean_91 hc _ _ _ _ _ _ _ ⟨fun c => absurd ((nle_nI (a := V) (b := k) (by omega) (by omega)).mp (by rw [eV] at c; exact c)) (by omega), fun _ => ?_⟩
      have hsd : (v1 + nI k : Int32).toInt = v1.toInt + (k : Int) := ti_add rfl (nI_toInt (by omega)) (by omega)
      have hrA : BkR (mnN (I 102)) (s9 I) A := by
        unfold BkR
        rw [hA]
        exact hs.2.1
      refine px_runs9 (e := e + 3) (q := qs k) (hE.o hA) g1 g2 g3 (by rw [hA]; exact g6) (by omega) hs.2.2.1 hrA (fun B hF hM hRB _ _ => ?_)
      have b103 : ∀ j, j < 52 → B 103 j = I 102 j := fun j hj => (hF.i (fun z => by rcases z with z | z <;> omega)).trans (h103 j hj)
      have bhi : ∀ j, 52 ≤ j → B 102 j = I 102 j := fun j hj => (hF.i (fun z => by rcases z with z | z <;> omega)).trans (congrFun hA j)
      have b0 : B 102 0 = I 102 0 := (hF.i (fun z => by rcases z with z | z <;> omega)).trans (congrFun hA 0)
      have hbk := mnU_b_q10 (G := gM9_q10 s I v1 qs) hm.1 k
      have hm6 := hm.1
      have L108 : ∀ (f i : Nat) (w3 : Int64), i + f = mnN (I 102) → w3.toInt = mnU_q10 (gM9_q10 s I v1 qs) (mnN (I 102)) k + hsU_q10 (gM9_q10 s I v1 qs k) i → P 108 112 [(0, .ref 97), (1, .int v1), (2, .int v2), (3, .long w3), (5, .int (nI k)), (6, .int (nI i))] [] B JA R := by
        intro f
        induction f with
        | zero =>
          intro i w3 hi h3w
          have ei : i = mnN (I 102) := by omega
          rw [ei] at h3w
          refine sg_X12_mean_108 hc _ _ _ _ _ _ _ _ ⟨vp_of (a := 0) rfl (by decide) (by decide), fun _ => ?_, fun c => absurd (by rw [t0, b0, hm.2.1]; exact (nle_nI (by omega) (by omega)).mpr (by omega)) c⟩
          have L2 : ∀ (f j : Nat) (D : Im), j + f = 52 → (∀ i, i < j → D 102 i = I 102 i) → (∀ i, 52 ≤ i → D 102 i = I 102 i) → (∀ i, i < 52 → D 103 i = I 102 i) → P 144 112 [(0, .ref 97), (1, .int v1), (2, .int v2), (3, .long w3), (5, .int (nI k)), (6, .int (nI j))] [] D JA R := by
            intro f
            induction f with
            | zero =>
              intro j D hj d1 d2 d3
              refine sg_X12_mean_144 hc _ _ _ _ _ _ _ _ ⟨fun _ => ?_, fun c => absurd ((nle_nI (a := 52) (by omega) (by omega)).mpr (by omega)) c⟩
              rw [nI_s1]
              refine ih (k + 1) w3 D JA (by omega) (funext fun i => ?_) d3 h3w
              rcases Nat.lt_or_ge i 52 with z | z
              · exact d1 i (by omega)
              · exact d2 i z
            | succ f ih2 =>
              intro j D hj d1 d2 d3
              refine sg_X12_mean_144 hc _ _ _ _ _ _ _ _ ⟨fun c => absurd ((nle_nI (a := 52) (by omega) (by omega)).mp c) (by omega), fun _ => ⟨vp_nI (by omega) (by omega), vp_nI (by omega) (by omega), ?_⟩⟩
              rw [tn_nI (by omega), nI_s1]
              refine ih2 (j + 1) _ (by omega) (fun i hi => ?_) (fun i hi => (rd_k (by omega)).trans (d2 i hi)) (fun i hi => (rd_ne (by decide)).trans (d3 i hi))
              by_cases z : i = j
              · subst z; rw [rd_eq]; exact d3 i (by omega)
              · rw [rd_k z]; exact d1 i (by omega)
          exact L2 52 0 B (by omega) (fun i hi => absurd hi (by omega)) bhi b103
        | succ f ih3 =>
          intro i w3 hi h3w
          have hbu := hsU_b_q10 (st := gM9_q10 s I v1 qs k) i
          have k46 : (46 : Int32) + nI i = nI (46 + i) := by rw [show (46 : Int32) = nI 46 from rfl]; exact nI_add 46 i
          refine sg_X12_mean_108 hc _ _ _ _ _ _ _ _ ⟨vp_of (a := 0) rfl (by decide) (by decide), fun c => absurd ((nle_nI (a := mnN (I 102)) (b := i) (by omega) (by omega)).mp (by rw [t0, b0, hm.2.1] at c; exact c)) (by omega), fun _ => ?_⟩
          rw [k46, tn_nI (by omega), nI_s1]
          have eh : B 102 (46 + i) = (gM9_q10 s I v1 qs k).2.1 i := hM.1.2.1 i (by omega)
          have hh := hvR_b (h := (gM9_q10 s I v1 qs k).2.1 i) 30 0 (by decide) (by decide)
          refine ⟨vp_nI (by omega) (by omega), px_sumOf ?_ (fun y hy => ih3 (i + 1) _ (by omega) ?_)⟩
          · rw [eh]
            exact hRB.1.hv0 i (by omega)
          · rw [eh] at hy
            rw [tl_add h3w hy (by omega)]
            show _ = mnU_q10 (gM9_q10 s I v1 qs) (mnN (I 102)) k + (hsU_q10 (gM9_q10 s I v1 qs k) i + hvR ((gM9_q10 s I v1 qs k).2.1 i) 30 0)
            omega
      exact L108 (mnN (I 102)) 0 v3 (by omega) (h3.trans (Int.add_zero _).symm)
  have L62 : ∀ (f j : Nat) (A : Im), j + f = 52 → A 102 = I 102 → (∀ i, i < j → A 103 i = I 102 i) → P 62 112 [(0, .ref 97), (1, .int v1), (2, .int v2), (3, .int (nI j))] [] A J1 R := by
    intro f
    induction f with
    | zero =>
      intro j A hj hA d3
      exact sg_X12_mean_62 hc _ _ _ _ _ _ ⟨fun _ => L V 0 0 A J1 (by omega) hA (fun i hi => d3 i (by omega)) rfl, fun c => absurd ((nle_nI (a := 52) (by omega) (by omega)).mpr (by omega)) c⟩
    | succ f ih4 =>
      intro j A hj hA d3
      refine sg_X12_mean_62 hc _ _ _ _ _ _ ⟨fun c => absurd ((nle_nI (a := 52) (by omega) (by omega)).mp c) (by omega), fun _ => ⟨vp_nI (by omega) (by omega), vp_nI (by omega) (by omega), ?_⟩⟩
      rw [tn_nI (by omega), nI_s1]
      refine ih4 (j + 1) _ (by omega) ((uI_ne (by decide)).trans hA) (fun i hi => ?_)
      by_cases z : i = j
      · subst z; rw [rd_eq, hA]
      · rw [rd_k z]; exact d3 i (by omega)
  exact L62 52 0 _ (by omega) c102 (fun i hi => absurd hi (by omega))
end FRM
