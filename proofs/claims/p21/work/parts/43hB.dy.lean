/-! ===== the reference's days() ===== -/
noncomputable abbrev WG : Nat → Nat → Prop := fun c k => (c = 97 ∧ (k ∈ msD ∨ k = 27)) ∨ (c = 102 ∧ ((52 ≤ k ∧ k < 324) ∨ 1350 ≤ k))
noncomputable abbrev FrG (I : Im) (J : Jm) (I2 : Im) (J2 : Jm) : Prop := FrW WG VM I J I2 J2
theorem FrW.eg {I I2 : Im} {J J2 : Jm} (h : FrE I J I2 J2) : FrG I J I2 J2 := h.up (fun _ _ q => q.elim (fun z => Or.inl ⟨z.1, z.2.elim (fun y => Or.inl ((show ∀ k, k ∈ msB → k ∈ msD by decide) _ y)) (fun y => Or.inr y)⟩) (fun z => Or.inr ⟨z.1, Or.inr z.2⟩)) (fun _ _ q => q)
section RDG
variable {d m : Nat} {T : Nat → Int32} {N : Nat → Int64} {I : Im} {J : Jm} {R : Rm} {Q : Qt}
theorem px_mdN {v : Int32} {f : Nat} (hf : f ≤ 900) (h8 : I 97 8 = nI f) (hv : v < 0 ∨ nI f < v ∨ 300 < v) (hQ : ∀ I2, FrW (WM [0, 1]) nV I J I2 J → Q (-1) 0 I2 J R) : AM (d + 12) 237 112 [.ref 97, .int v] I J R Q := by
  have hF : FrW (WM [0, 1]) nV I J (uI (uI I 97 1 0) 97 0 0) J := (FrW.rf.u ⟨rfl, by decide⟩).u ⟨rfl, by decide⟩
  refine am_X12_days (fun P hc => sg_X12_days_0 hc _ _ _ _ (px_startN hf ?_ ?_ (fun I2 hF2 _ => ⟨fun z => absurd rfl z, fun _ => hQ I2 (hF.tr (hF2.up (fun _ _ q => ⟨q.1, (show ∀ k, k ∈ [0] → k ∈ [0, 1] by decide) _ q.2⟩) (fun _ _ q => q)))⟩)))
  · rw [hF.i (by decide)]; exact h8
  · exact hv.elim Or.inl (fun z => Or.inr (z.elim Or.inl (fun y => Or.inr (fun x => ile.mpr x y))))
theorem px_mdY {n f : Nat} (hf : f ≤ 900) (hn : n ≤ f) (h300 : n ≤ 300) (h8 : I 97 8 = nI f) (hB : Byt T) (hT : ∀ i, i < f → I 101 i = T i) (hm : MnR N m I J) (hE : ∀ q I2 J2, dyB T n N m (n + 1) ds0 0 = .error q → FrG I J I2 J2 → I2 97 8 = 0 → FtK q I2 → (∀ k, k < 1350 → I2 102 k = I 102 k) → Q (-1) 0 I2 J2 R)
    (hK : ∀ s b I2 J2, dyB T n N m (n + 1) ds0 0 = .ok (s, b) → DOk s → DSp s → FrG I J I2 J2 → I2 97 8 = 0 → I2 97 10 = 0 → I2 97 11 = -1 → MDs s I2 → I2 102 52 = 1 → I2 102 53 = nI (dN s) → (∀ j, j < 9 * dN s → I2 102 (54 + j) = I2 102 (1350 + j)) → Q (nI (dN s)) 0 I2 J2 R) : AM (d + 12) 237 112 [.ref 97, .int (nI n)] I J R Q := by
  have hF : FrW (WM [0, 1]) nV I J (uI (uI I 97 1 0) 97 0 0) J := (FrW.rf.u ⟨rfl, by decide⟩).u ⟨rfl, by decide⟩
  refine am_X12_days (fun P hc => sg_X12_days_0 hc _ _ _ _ (px_startY (T := T) hf hn ?_ ?_ hB ?_ (fun I2 J2 hF2 h28 h2 _ => ⟨fun _ => ?_, fun z => absurd z (by decide)⟩)))
  · exact (nle_nI (b := 300) (by omega) (by omega)).mpr h300
  · rw [hF.i (by decide)]; exact h8
  · intro i hi; rw [hF.i (by intro q; exact absurd q.1 (by decide))]; exact hT i hi
  have hFs : FrG I J I2 J2 := (hF.up (fun _ _ q => Or.inl ⟨q.1, Or.inl ((show ∀ k, k ∈ [0, 1] → k ∈ msD by decide) _ q.2)⟩) nV.up).tr (hF2.up (fun _ _ q => Or.inl ⟨q.1, Or.inl ((show ∀ k, k ∈ [8, 9, 12, 14, 15, 16, 17, 18] → k ∈ msD by decide) _ q.2)⟩) (fun _ _ q => q))
  have e102 : I2 102 = I 102 := (hF2.c (WM.no (by decide))).trans (hF.c (WM.no (by decide)))
  have hFa : FrG I J (uI I2 97 27 0) J2 := hFs.u (Or.inl ⟨rfl, Or.inr rfl⟩)
  have hMa : Mr T n 0 (uI I2 97 27 0) J2 := h2.o (fun k hk => rd_k (by omega)) (uI_ne (by decide)) rfl
  have a8 : uI I2 97 27 0 97 8 = 0 := (rd_k (by decide)).trans h28
  have lo : ∀ k, k < 1350 → uI I2 97 27 0 102 k = I 102 k := fun k _ => by rw [rd_ne (by decide), e102]
  have hma : MnR N m (uI I2 97 27 0) J2 := ⟨hm.1, by rw [lo 0 (by decide)]; exact hm.2.1, fun k hk => by
    rw [hF2.j (by intro q; exact absurd q.1 (by decide))]; exact hm.2.2 k hk⟩
  have hsa : MDs ds0 (uI I2 97 27 0) := ⟨rd_eq, fun t ht => absurd ht (by show ¬ t < 0; omega)⟩
  generalize uI I2 97 27 0 = M at hFa hMa a8 lo hma hsa
  have up3 : ∀ {A B : Im} {JA : Jm}, FrW (WM [0, 10, 11]) nV A JA B JA → FrG A JA B JA := fun hF5 => hF5.up (fun _ _ q => Or.inl ⟨q.1, Or.inl ((show ∀ k, k ∈ [0, 10, 11] → k ∈ msD by decide) _ q.2)⟩) nV.up
  have B50 : ∀ q I4 J4, dyB T n N m (n + 1) ds0 0 = .error q → FrE M J2 I4 J4 → FtM q I4 → P 50 112 [(0, .ref 97)] [] I4 J4 R := fun q I4 J4 hq hF4 hf => by
    refine sg_X12_days_50 hc _ _ _ (px_wellB hf (fun I5 hF5 hk _ => ⟨fun z => absurd rfl z, fun _ => hE q I5 J4 hq ((hFa.tr hF4.eg).tr (up3 hF5)) ?_ hk (fun k hk => ?_)⟩))
    · rw [hF5.i (by decide), hF4.i (by rintro (z | z); exact absurd z.2 (by decide); exact absurd z.1 (by decide))]; exact a8
    · rw [hF5.i (by intro z; exact absurd z.1 (by decide)), hF4.i (by rintro (z | z) <;> omega)]; exact lo k hk
  have C80 : ∀ (s : DS) (b : Nat), dyB T n N m (n + 1) ds0 0 = .ok (s, b) → DOk s → DSp s → ∀ (g k : Nat) (I4 : Im) (J4 : Jm), k + g = 9 * dN s → FrG I J I4 J4 → I4 97 8 = 0 → I4 97 10 = 0 → I4 97 11 = -1 → MDs s I4 → I4 102 52 = 1 → I4 102 53 = nI (dN s) → (∀ j, j < k → I4 102 (54 + j) = I4 102 (1350 + j)) → P 80 112 [(0, .ref 97), (2, .int (nI k))] [] I4 J4 R := by
    intro s b hr hD hS g
    have h30 := hD.1
    have e9 : (9 : Int32) * nI (dN s) = nI (9 * dN s) := by rw [show (9 : Int32) = nI 9 from rfl]; exact nI_mul (by omega) (by omega) (by omega)
    induction g with
    | zero =>
      intro k I4 J4 hk hF4 c8 c10 c11 hM c52 c53 hcp
      refine sg_X12_days_80 hc _ _ _ _ ?_
      rw [hM.1, e9]
      exact ⟨fun _ => hK s b I4 J4 hr hD hS hF4 c8 c10 c11 hM c52 c53 (fun j hj => hcp j (by omega)), fun c => absurd ((nle_nI (by omega) (by omega)).mpr (by omega)) c⟩
    | succ g ih =>
      intro k I4 J4 hk hF4 c8 c10 c11 hM c52 c53 hcp
      refine sg_X12_days_80 hc _ _ _ _ ?_
      have e1 : (1350 : Int32) + nI k = nI (1350 + k) := by rw [show (1350 : Int32) = nI 1350 from rfl]; exact nI_add 1350 k
      have e2 : (54 : Int32) + nI k = nI (54 + k) := by rw [show (54 : Int32) = nI 54 from rfl]; exact nI_add 54 k
      rw [hM.1, e9, e1, e2, tn_nI (by omega), tn_nI (by omega), nI_k1]
      refine ⟨fun c => absurd ((nle_nI (by omega) (by omega)).mp c) (by omega), fun _ => ⟨vp_of (a := ((1350 + k : Nat) : Int)) (nI_toInt (by omega)) (by omega) (by omega), vp_of (a := ((54 + k : Nat) : Int)) (nI_toInt (by omega)) (by omega) (by omega), ?_⟩⟩
      refine ih (k + 1) _ J4 (by omega) (hF4.u (Or.inr ⟨rfl, Or.inl (by omega)⟩)) ((rd_ne (by decide)).trans c8) ((rd_ne (by decide)).trans c10) ((rd_ne (by decide)).trans c11) ⟨(rd_ne (by decide)).trans hM.1, fun t ht => ?_⟩ ((rd_k (by omega)).trans c52) ((rd_k (by omega)).trans c53) (fun j hj => ?_)
      · obtain ⟨g1, g2, g3⟩ := hM.2 t ht
        exact ⟨(rd_k (by omega)).trans g1, g2.cp (fun k k1 k2 => rd_k (by omega)), fun no => (rd_k (by omega)).trans (g3 no)⟩
      · rw [rd_k (show ¬ 1350 + j = 54 + k by omega)]
        by_cases q : j = k
        · subst q; rw [rd_eq]
        · rw [rd_k (by omega)]; exact hcp j (by omega)
  have G50 : ∀ (s : DS) (b : Nat) (I4 : Im) (J4 : Jm), dyB T n N m (n + 1) ds0 0 = .ok (s, b) → DOk s → DSp s → FrE M J2 I4 J4 → Mr T n b I4 J4 → MDs s I4 → P 50 112 [(0, .ref 97)] [] I4 J4 R := by
    intro s b I4 J4 hr hD hS hF4 hM hs
    refine sg_X12_days_50 hc _ _ _ (px_wellG hM.f (fun I5 hF5 k10 k11 _ => ⟨fun _ => ⟨vp_of (a := 52) rfl (by decide) (by decide), vp_of (a := 53) rfl (by decide) (by decide), ?_⟩, fun z => absurd z (by decide)⟩))
    have e27 : I5 97 27 = nI (dN s) := (hF5.i (by intro q; exact absurd q.2 (by decide))).trans hs.1
    have e5 : I5 102 = I4 102 := hF5.c (by intro k q; exact absurd q.1 (by decide))
    have t52 : Int32.toNatClampNeg 52 = 52 := rfl
    have t53 : Int32.toNatClampNeg 53 = 53 := rfl
    have e27b : uI I5 102 52 1 97 27 = nI (dN s) := (rd_ne (by decide)).trans e27
    rw [t52, t53, e27b]
    refine C80 s b hr hD hS (9 * dN s) 0 _ J4 (by omega) ((((hFa.tr hF4.eg).tr (up3 hF5)).u (Or.inr ⟨rfl, Or.inl (by decide)⟩)).u (Or.inr ⟨rfl, Or.inl (by decide)⟩)) ?_ ?_ ?_ ⟨?_, fun t ht => ?_⟩ ?_ rd_eq (fun j hj => absurd hj (by omega))
    · rw [rd_ne (by decide), rd_ne (by decide), hF5.i (by decide), hF4.i (by rintro (z | z); exact absurd z.2 (by decide); exact absurd z.1 (by decide))]; exact a8
    · rw [rd_ne (by decide), rd_ne (by decide)]; exact k10
    · rw [rd_ne (by decide), rd_ne (by decide)]; exact k11
    · rw [rd_ne (by decide)]; exact e27b
    · obtain ⟨g1, g2, g3⟩ := hs.2 t ht
      have e6 : ∀ k, 1350 ≤ k → uI (uI I5 102 52 1) 102 53 (nI (dN s)) 102 k = I4 102 k := fun k hk => by rw [rd_k (by omega), rd_k (by omega), e5]
      exact ⟨(e6 _ (by omega)).trans g1, g2.cp (fun k k1 k2 => e6 k (by omega)), fun no => (e6 _ (by omega)).trans (g3 no)⟩
    · rw [rd_k (by decide), rd_eq]
  have L : ∀ (g : Nat) (s : DS) (a f : Nat) (I4 : Im) (J4 : Jm), n < a + g → dyB T n N m (n + 1) ds0 0 = dyB T n N m f s a → dD s = 0 → n < a + f → FrE M J2 I4 J4 → Mr T n a I4 J4 → MDs s I4 → DOk s → DSp s → P 28 112 [(0, .ref 97)] [] I4 J4 R := by
    intro g
    induction g with
    | zero => intro s a f I4 J4 hg _ _ _ _ hM; have := hM.ha; omega
    | succ g ih =>
      intro s a f I4 J4 hg hr hd hf2 hF4 hM hs hD hS
      have ha := hM.ha
      refine sg_X12_days_28 hc _ _ _ ⟨fun c => absurd hM.f c, fun _ => ⟨fun c => ?_, fun c => ?_⟩⟩
      · have k0 : tK (tok T n a) = 0 := (hM.k_is (n := 0) (by omega)).mp c
        obtain ⟨f, rfl⟩ : ∃ f', f = f' + 1 := ⟨f - 1, by omega⟩
        have e2 : dyB T n N m (f + 1) s a = if tK (tok T n a) = 0 then (if dD s = 0 then .ok (s, a) else .error (mis T n a)) else rb (if tI (tok T n a) = 20 then dyE T n s a else dyS T n N m s a) fun s b => dyB T n N m f s b := rfl
        rw [e2, if_pos k0, if_pos hd] at hr
        exact G50 s a I4 J4 hr hD hS hF4 hM hs
      · have k0 : ¬ tK (tok T n a) = 0 := fun z => c ((hM.k_is (n := 0) (by omega)).mpr z)
        have z0 : (0 : Int32) = nI (dD s) := by rw [hd]; rfl
        rw [z0]
        exact px_rstep 3 (d + 3) s a f _ I4 J4 _ (by omega) (by omega) (hma.e hF4) hM hs hD hS hf2 hr (Or.inr hd) (fun z => k0 z.1) (fun q I5 J5 hq hF5 hf => sg_X12_days_28 hc _ _ _ ⟨fun _ => B50 q I5 J5 hq (hF4.tr hF5) hf, fun c => absurd c hf.ne.1⟩) (fun s2 b f2 I5 J5 hr5 hd5 _ hf5 hlt hF5 h5 hs5 hD5 hS5 => ih s2 b f2 I5 J5 (by omega) hr5 (by omega) hf5 (hF4.tr hF5) h5 hs5 hD5 hS5)
  exact L (n + 1) ds0 0 (n + 1) M J2 (by omega) rfl rfl (by omega) FrW.rf hMa hsa DOk.z DSp.z
end RDG
