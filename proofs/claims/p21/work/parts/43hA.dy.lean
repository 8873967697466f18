/-! ===== the reference reads days: readStep ===== -/
noncomputable abbrev WE : Nat → Nat → Prop := fun c k => (c = 97 ∧ (k ∈ msB ∨ k = 27)) ∨ (c = 102 ∧ 1350 ≤ k)
noncomputable abbrev FrE (I : Im) (J : Jm) (I2 : Im) (J2 : Jm) : Prop := FrW WE VM I J I2 J2
theorem FrW.me {I I2 : Im} {J J2 : Jm} (h : FrM I J I2 J2) : FrE I J I2 J2 := h.up (fun _ _ q => Or.inl ⟨q.1, Or.inl q.2⟩) (fun _ _ q => q)
theorem FrW.ke {w : Nat} {I I2 : Im} {J J2 : Jm} (hw : 1350 ≤ w) (h : FrK w I J I2 J2) : FrE I J I2 J2 := h.up (fun _ _ q => q.elim (fun z => Or.inl ⟨z.1, Or.inl z.2⟩) (fun z => Or.inr ⟨z.1, by omega⟩)) (fun _ _ q => q)
theorem MnR.e {N : Nat → Int64} {m : Nat} {I I2 : Im} {J J2 : Jm} (h : MnR N m I J) (hF : FrE I J I2 J2) : MnR N m I2 J2 :=
  ⟨h.1, (hF.i (by rintro (q | q) <;> omega)).trans h.2.1, fun k hk => (hF.j (by intro q; have := q.1; omega)).trans (h.2.2 k hk)⟩
section RDF
variable {T : Nat → Int32} {e m : Nat} {N : Nat → Int64} {R : Rm}
set_option maxHeartbeats 2000000 in
theorem px_rs1 (lv : Nat) : (∀ l, l + 1 = lv → ∀ (D : Nat) (s : DS) (a f : Nat) (r : Rs DS) (I : Im) (J : Jm) (Q : Qt), l ≤ D → dD s + l = 3 → MnR N m I J → Mr T e a I J → MDs s I → DOk s → DSp s → e < a + f → r = dyB T e N m f s a → (¬ tI (tok T e a) = 20 ∨ dD s = 0) → ¬ (tK (tok T e a) = 0 ∧ dD s = 0) →
    (∀ q I2 J2, r = .error q → FrE I J I2 J2 → FtM q I2 → Q 0 0 I2 J2 R) →
    (∀ s2 b f2 I2 J2, r = dyB T e N m f2 s2 b → dD s2 = dD s → (∀ k, k < dD s → dOs s2 k = dOs s k) → e < b + f2 → a < b → FrE I J I2 J2 → Mr T e b I2 J2 → MDs s2 I2 → DOk s2 → DSp s2 → Q 0 0 I2 J2 R) → AM (D + 8) 236 112 [.ref 97, .int (nI (dD s))] I J R Q) →
    ∀ (D : Nat) (s : DS) (a f : Nat) (r : Rs DS) (I : Im) (J : Jm) (Q : Qt), lv ≤ D → dD s + lv = 3 → MnR N m I J → Mr T e a I J → MDs s I → DOk s → DSp s → e < a + f → r = dyB T e N m f s a → (¬ tI (tok T e a) = 20 ∨ dD s = 0) → ¬ (tK (tok T e a) = 0 ∧ dD s = 0) →
    (∀ q I2 J2, r = .error q → FrE I J I2 J2 → FtM q I2 → Q 0 0 I2 J2 R) →
    (∀ s2 b f2 I2 J2, r = dyB T e N m f2 s2 b → dD s2 = dD s → (∀ k, k < dD s → dOs s2 k = dOs s k) → e < b + f2 → a < b → FrE I J I2 J2 → Mr T e b I2 J2 → MDs s2 I2 → DOk s2 → DSp s2 → Q 0 0 I2 J2 R) → AM (D + 8) 236 112 [.ref 97, .int (nI (dD s))] I J R Q := by
  intro ihl D s a f r I J Q hlv h3 hm h hs hD hSp hf hr ht20 ht0 hE hK
  have ha := h.ha
  have he := h.he
  obtain ⟨h30, hd3, hLL, -, hOs⟩ := id hD
  obtain ⟨f, rfl⟩ : ∃ g, f = g + 1 := ⟨f - 1, by omega⟩
  have eB : dyB T e N m (f + 1) s a = if tK (tok T e a) = 0 then (if dD s = 0 then .ok (s, a) else .error (mis T e a)) else rb (if tI (tok T e a) = 20 then dyE T e s a else dyS T e N m s a) fun s b => dyB T e N m f s b := rfl
  rw [eB] at hr
  refine am_X12_readStep (fun P hc => sg_X12_readStep_0 hc _ _ _ _ (px_stepWord h ?_))
  have F83 : ∀ (q : Nat × Nat) (v2 v3 : Int32) (I2 : Im) (J2 : Jm), r = .error q → FrE I J I2 J2 → FtM q I2 → P 83 112 [(0, .ref 97), (1, .int (nI (dD s))), (2, .int v2), (3, .int v3)] [] I2 J2 R := fun q v2 v3 I2 J2 hq hF hf => sg_X12_readStep_83 hc _ _ _ _ _ _ ⟨fun c => absurd c hf.ne.2.1, fun _ => hE q I2 J2 hq hF hf⟩
  have F57 : ∀ (q : Nat × Nat) (v2 v3 : Int32) (I2 : Im) (J2 : Jm), r = .error q → FrE I J I2 J2 → FtM q I2 → P 57 112 [(0, .ref 97), (1, .int (nI (dD s))), (2, .int v2), (3, .int v3)] [] I2 J2 R := fun q v2 v3 I2 J2 hq hF hf => sg_X12_readStep_57 hc _ _ _ _ _ _ ⟨fun _ => F83 q v2 v3 I2 J2 hq hF hf, fun c => absurd c hf.ne.1⟩
  have F31 : ∀ (q : Nat × Nat) (v2 v3 : Int32) (I2 : Im) (J2 : Jm), r = .error q → FrE I J I2 J2 → FtM q I2 → P 31 112 [(0, .ref 97), (1, .int (nI (dD s))), (2, .int v2), (3, .int v3)] [] I2 J2 R := fun q v2 v3 I2 J2 hq hF hf => sg_X12_readStep_31 hc _ _ _ _ _ _ ⟨fun _ => F57 q v2 v3 I2 J2 hq hF hf, fun c => absurd c hf.ne.1⟩
  by_cases hi : isSt (tI (tok T e a)) = true
  · have k0 : ¬ tK (tok T e a) = 0 := by have := tI_k (isSt_n hi); omega
    have i20 : ¬ tI (tok T e a) = 20 := fun z => by rw [z] at hi; exact absurd hi (by decide)
    rw [if_neg k0, if_neg i20] at hr
    have h27 := hs.1
    have G83 : ∀ v3 : Int32, ((v3 = 1 ∧ isBk (tI (tok T e a)) = true) ∨ (v3 = 0 ∧ isBk (tI (tok T e a)) = false)) → ¬ dN s = 30 → ¬ (isBk (tI (tok T e a)) = true ∧ dD s = 3) → P 83 112 [(0, .ref 97), (1, .int (nI (dD s))), (2, .int (stW (tI (tok T e a)))), (3, .int v3)] [] I J R := by
      intro v3 hv n30 n3
      have hSr : dyS T e N m s a = rb (dyA T e N m (tI (tok T e a)) (tB (tok T e a))) fun c b => rb (tkS T e b) fun _ b => .ok (if isBk (tI (tok T e a)) = true then dsB s c else dsA s c, b) := by
        unfold dyS; rw [if_pos hi, if_neg n30, if_neg n3]
      rw [hSr] at hr
      have hw1 : 1350 ≤ 1350 + 9 * dN s ∧ 1350 + 9 * dN s + 8 < 1620 := by omega
      have ew : (1350 : Int32) + 9 * nI (dN s) = nI (1350 + 9 * dN s) := by
        rw [show (9 : Int32) = nI 9 from rfl, nI_mul (by omega) (by omega) (by omega), show (1350 : Int32) = nI 1350 from rfl, nI_add]
      have hb9 := tB_lt (T := T) ha k0
      refine sg_X12_readStep_83 hc _ _ _ _ _ _ ⟨fun _ => ?_, fun c => absurd h.le.1 c⟩
      rw [h27, ew, nI_k1]
      generalize hwd : 1350 + 9 * dN s = w at hw1 ew
      have h0 : Mr T e a (uI I 97 27 (nI (dN s + 1))) J := h.o (fun k hk => rd_k (by omega)) (uI_ne (by decide)) rfl
      have hF0 : FrE I J (uI I 97 27 (nI (dN s + 1))) J := FrW.rf.u (Or.inl ⟨rfl, Or.inr rfl⟩)
      have vw : vp_in (nI w) 1620 := vp_of (a := (w : Int)) (nI_toInt (by omega)) (by omega) (by omega)
      refine px_mad h0 (fun I1 J1 hF1 h1 => ⟨vw, ?_⟩)
      rw [tn_nI (by omega)]
      have hFw : FrE I J (uI I1 102 w (stW (tI (tok T e a)))) J1 := (hF0.tr hF1.me).u (Or.inr ⟨rfl, by omega⟩)
      refine px_rest hi ⟨by omega, by omega⟩ rd_eq (hm.e hFw) (h1.w_ (Or.inl (by decide)) (by decide)) (fun q I2 J2 hq hF hf => px_isSignA (fun x _ _ => px_mustB hf (px_s142 hw1.2 hf hc (hE q _ J2 ?_ ((hFw.tr (hF.ke (by omega))).u (Or.inr ⟨rfl, by omega⟩)) (hf.w_ (Or.inl (by decide))))))) (fun c b I2 J2 hc' hF h2 hrc => ?_)
      · rw [hr]; exact rb_e (rb_e hq)
      have hF2 : FrE I J I2 J2 := hFw.tr (hF.ke (by omega))
      have hbb : a < b := by
        have hu := up_dyA (T := T) (e := e) (N := N) (M := m) (i := tI (tok T e a)) hb9.2
        rw [hc'] at hu
        have hu1 : tB (tok T e a) ≤ b := hu.1
        omega
      refine px_msemi (Q1 := fun _ _ _ _ _ => True) (fun _ _ _ z => z) h2 (fun q I3 J3 hq hF3 hf => px_s142 hw1.2 hf hc (hE q _ J3 ?_ ((hF2.tr hF3.me).u (Or.inr ⟨rfl, by omega⟩)) (hf.w_ (Or.inl (by decide))))) (fun b3 I3 J3 hb3 hF3 hM3 => ?_)
      · rw [hr]; exact rb_e (by rw [rb_k hc']; exact rb_e hq)
      have hr2 : r = dyB T e N m f (if isBk (tI (tok T e a)) = true then dsB s c else dsA s c) b3 := by
        rw [hr, rb_k hc', rb_k hb3]; rfl
      have hb3b : b < b3 := by
        have hu := up_tkS (T := T) (e := e) h2.ha
        rw [hb3] at hu
        exact hu.1
      have e102 : I3 102 = I2 102 := hF3.c (by intro k q; exact absurd q.1 (by decide))
      have g27 : I3 97 27 = nI (dN s + 1) := by
        rw [hF3.i (by intro q; exact absurd q.2 (by decide)), hF.i (by rintro (q | q); exact absurd q.2 (by decide); exact absurd q.1 (by decide)), rd_ne (by decide), hF1.i (by intro q; exact absurd q.2 (by decide)), rd_eq]
      have old : ∀ k, k < w → I3 102 k = I 102 k := fun k hk => by
        rw [e102, hF.i (by rintro (q | q); exact absurd q.1 (by decide); omega), rd_k (by omega), hF1.i (by intro q; exact absurd q.1 (by decide)), rd_ne (by decide)]
      have gw : I3 102 w = kcR c.1 := by
        rw [e102, hF.i (by rintro (q | q); exact absurd q.1 (by decide); omega), rd_eq, dyA_k hi hc']
      have hrc3 : RcO c (I3 102) w := by rw [e102]; exact hrc
      have hF3e : FrE I J I3 J3 := hF2.tr hF3.me
      have k8 : Int32.toNatClampNeg (nI w + 8) = w + 8 := by rw [show (8 : Int32) = nI 8 from rfl, wk_k (by omega), tn_nI (by omega)]
      have v8 : vp_in (nI w + 8) 1620 := by rw [show (8 : Int32) = nI 8 from rfl, wk_k (by omega)]; exact vp_of (a := ((w + 8 : Nat) : Int)) (nI_toInt (by omega)) (by omega) (by omega)
      rcases hv with ⟨rfl, hb⟩ | ⟨rfl, hb⟩
      · rw [if_pos hb] at hr2
        have hd : ¬ dD s = 3 := fun z => n3 ⟨hb, z⟩
        obtain ⟨l, rfl⟩ : ∃ l, lv = l + 1 := ⟨lv - 1, by omega⟩
        obtain ⟨D, rfl⟩ : ∃ D', D = D' + 1 := ⟨D - 1, by omega⟩
        have L : ∀ (g : Nat) (σ : DS) (a2 f2 : Nat) (I4 : Im) (J4 : Jm), e < a2 + g → r = dyB T e N m f2 σ a2 → dD σ = dD s + 1 → (∀ k, k < dD s → dOs σ k = dOs s k) → dOs σ (dD s) = dN s → e < a2 + f2 → a < a2 → FrE I J I4 J4 → Mr T e a2 I4 J4 → MDs σ I4 → DOk σ → DSp σ → P 142 112 [(0, .ref 97), (1, .int (nI (dD s))), (3, .int 1), (4, .int (nI w))] [] I4 J4 R := by
          intro g
          induction g with
          | zero => intro σ a2 f2 I4 J4 hg _ _ _ _ _ _ _ hM; have := hM.ha; omega
          | succ g ih =>
            intro σ a2 f2 I4 J4 hg hrσ hdσ hOσ hOn hf2 hlt hFσ hM hsσ hDσ hSσ
            have ha2 := hM.ha
            have hnσ : dN s < dN σ := by have := hDσ.2.2.2.2 (dD s) (by omega); omega
            refine sg_X12_readStep_142 hc _ _ _ _ _ _ ⟨fun z => absurd z (by decide), fun _ => ⟨fun z => absurd hM.f z, fun _ => px_isEnd hM (fun t20 _ => ⟨fun _ => ?_, fun z => absurd z (by decide)⟩) (fun n20 _ => ⟨fun z => absurd rfl z, fun _ => ?_⟩)⟩⟩
            · -- the block's end
              have kk : ¬ tK (tok T e a2) = 0 := by have := tI_k (t := tok T e a2) (by rw [t20]; decide); omega
              obtain ⟨f2, rfl⟩ : ∃ f', f2 = f' + 1 := ⟨f2 - 1, by omega⟩
              have e2 : dyB T e N m (f2 + 1) σ a2 = if tK (tok T e a2) = 0 then (if dD σ = 0 then .ok (σ, a2) else .error (mis T e a2)) else rb (if tI (tok T e a2) = 20 then dyE T e σ a2 else dyS T e N m σ a2) fun s b => dyB T e N m f2 s b := rfl
              rw [e2, if_neg kk, if_pos t20] at hrσ
              have eE : dyE T e σ a2 = rb (tkS T e (tB (tok T e a2))) fun _ b => .ok (dsE σ, b) := by unfold dyE; rw [if_neg (by omega)]
              rw [eE] at hrσ
              have hb2 := tB_lt (T := T) ha2 kk
              refine sg_X12_readStep_170 hc _ _ _ _ _ ⟨fun z => absurd z (by decide), fun _ => px_isEnd hM (fun _ _ => px_mustY hM (fun I5 J5 hF5 h5 => ?_)) (fun z => absurd t20 z)⟩
              refine px_msemi (Q1 := fun _ _ _ _ _ => True) (fun _ _ _ z => z) h5 (fun q I6 J6 hq hF6 hf => ⟨v8, ?_⟩) (fun b6 I6 J6 hb6 hF6 h6 => ⟨v8, ?_⟩)
              · rw [k8]
                exact hE q _ J6 (by rw [hrσ]; exact rb_e (rb_e hq)) (((hFσ.tr hF5.me).tr hF6.me).u (Or.inr ⟨rfl, by omega⟩)) (hf.w_ (Or.inl (by decide)))
              · have h27e : I6 97 27 = nI (dN σ) := by
                  rw [hF6.i (by intro q; exact absurd q.2 (by decide)), hF5.i (by intro q; exact absurd q.2 (by decide))]; exact hsσ.1
                have e6 : I6 102 = I4 102 := (hF6.c (by intro k q; exact absurd q.1 (by decide))).trans (hF5.c (by intro k q; exact absurd q.1 (by decide)))
                have hu : tB (tok T e a2) < b6 := by
                  have hu := up_tkS (T := T) (e := e) h5.ha
                  rw [hb6] at hu
                  exact hu.1
                rw [k8, h27e]
                subst hwd
                refine hK (dsE σ) b6 f2 _ J6 (by rw [hrσ, rb_k hb6]; rfl) (show dD σ - 1 = dD s by omega) (fun k hk => hOσ k hk) (by omega) (by omega) (((hFσ.tr hF5.me).tr hF6.me).u (Or.inr ⟨rfl, by omega⟩)) (h6.w_ (Or.inl (by decide)) (by decide)) (MDs.fin hsσ hSσ (by omega) (show dOs σ (dD σ - 1) = dN s by rw [hdσ]; exact hOn) hnσ ?_ (fun k k1 k2 k3 => ?_) rd_eq) (hDσ.e (by omega)) hSσ.e
                · rw [rd_ne (by decide)]; exact h27e
                · rw [rd_k k2, e6]
            · -- a step within
              have e1 : nI (dD s) + 1 = nI (dD σ) := by rw [nI_k1, hdσ]
              rw [e1]
              exact ihl l rfl D σ a2 f2 r I4 J4 _ (by omega) (by omega) (hm.e hFσ) hM hsσ hDσ hSσ hf2 hrσ (Or.inl n20) (fun z => by omega) (fun q I5 J5 hq hF5 hf => px_s142 hw1.2 hf hc (hE q _ J5 hq ((hFσ.tr hF5).u (Or.inr ⟨rfl, by omega⟩)) (hf.w_ (Or.inl (by decide))))) (fun s2 b5 f5 I5 J5 hr5 hd5 hO5 hf5 hlt5 hF5 h5 hs5 hD5 hS5 => ih s2 b5 f5 I5 J5 (by omega) hr5 (by omega) (fun k hk => (hO5 k (by omega)).trans (hOσ k hk)) ((hO5 (dD s) (by omega)).trans hOn) hf5 (by omega) (hFσ.tr hF5) h5 hs5 hD5 hS5)
        refine L (e + 1) (dsB s c) b3 f I3 J3 (by omega) hr2 rfl (fun k hk => upN_i (by omega)) upN_s (by omega) (by omega) hF3e hM3 ?_ (hD.b n30 hd) hSp.b
        subst hwd
        exact MDs.new hs hSp rfl rfl rfl (fun t ht => rfl) (fun t ht z => by
          obtain ⟨k, k1, k2⟩ := z
          exact ⟨k, show k < dD s + 1 by omega, by show upN (dOs s) (dD s) (dN s) k = t; rw [upN_i (by omega)]; exact k2⟩) g27 (fun k k1 k2 => old k k2) gw hrc3 (fun no => absurd ⟨dD s, show dD s < dD s + 1 by omega, upN_s⟩ no)
      · rw [if_neg (by rw [hb]; decide)] at hr2
        refine sg_X12_readStep_142 hc _ _ _ _ _ _ ⟨fun _ => sg_X12_readStep_170 hc _ _ _ _ _ ⟨fun _ => ⟨v8, ?_⟩, fun z => absurd rfl z⟩, fun z => absurd rfl z⟩
        rw [k8, g27]
        subst hwd
        refine hK (dsA s c) b3 f _ J3 hr2 rfl (fun _ _ => rfl) (by omega) (by omega) (hF3e.u (Or.inr ⟨rfl, by omega⟩)) (hM3.w_ (Or.inl (by decide)) (by decide)) (MDs.new hs hSp rfl rfl rfl (fun t ht => upN_i (by omega)) (fun t ht z => z) ?_ (fun k k1 k2 => ?_) ?_ ?_ (fun _ => ?_)) (hD.a n30) hSp.a
        · rw [rd_ne (by decide)]; exact g27
        · rw [rd_k (by omega)]; exact old k k2
        · rw [rd_k (by omega)]; exact gw
        · exact hrc3.cp (fun k k1 k2 => rd_k (by omega))
        · rw [rd_eq]
          show nI (dN s + 1) = nI (upN (dNx s) (dN s) (dN s + 1) (dN s))
          rw [upN_s]
    have G57 : ∀ v3 : Int32, ((v3 = 1 ∧ isBk (tI (tok T e a)) = true) ∨ (v3 = 0 ∧ isBk (tI (tok T e a)) = false)) → ¬ dN s = 30 → P 57 112 [(0, .ref 97), (1, .int (nI (dD s))), (2, .int (stW (tI (tok T e a)))), (3, .int v3)] [] I J R := by
      intro v3 hv n30
      refine sg_X12_readStep_57 hc _ _ _ _ _ _ ⟨fun c => absurd h.f c, fun _ => ⟨fun c => ?_, fun c => ⟨fun c3 => ?_, fun c3 => ?_⟩⟩⟩
      · refine G83 v3 hv n30 (fun z => ?_)
        rcases hv with ⟨y, _⟩ | ⟨_, y⟩
        · rw [y] at c; exact absurd c (by decide)
        · rw [y] at z; exact absurd z.1 (by decide)
      · exact G83 v3 hv n30 (fun z => c3 (by rw [z.2]; rfl))
      · have d3 : dD s = 3 := (nK (a := dD s) (b := 3) (by omega) (by omega)).mp c3
        have hb : isBk (tI (tok T e a)) = true := by
          rcases hv with ⟨_, y⟩ | ⟨y, _⟩
          · exact y
          · exact absurd y c
        have eS : dyS T e N m s a = .error (7, tS (tok T e a)) := by unfold dyS; rw [if_pos hi, if_neg n30, if_pos ⟨hb, d3⟩]
        rw [eS] at hr
        exact px_fail (k := 7) h (by decide) h.s (fun I2 hF hf => F83 _ _ _ I2 J hr hF.me hf)
    have G31 : ∀ v3 : Int32, ((v3 = 1 ∧ isBk (tI (tok T e a)) = true) ∨ (v3 = 0 ∧ isBk (tI (tok T e a)) = false)) → P 31 112 [(0, .ref 97), (1, .int (nI (dD s))), (2, .int (stW (tI (tok T e a)))), (3, .int v3)] [] I J R := by
      intro v3 hv
      refine sg_X12_readStep_31 hc _ _ _ _ _ _ ⟨fun c => absurd h.f c, fun _ => ?_⟩
      rw [h27]
      refine ⟨fun c => G57 v3 hv (fun z => c (by rw [z]; rfl)), fun c => ?_⟩
      have n30 : dN s = 30 := (nK (a := dN s) (b := 30) (by omega) (by omega)).mp c
      have eS : dyS T e N m s a = .error (6, tS (tok T e a)) := by unfold dyS; rw [if_pos hi, if_pos n30]
      rw [eS] at hr
      exact px_fail (k := 6) h (by decide) h.s (fun I2 hF hf => F57 _ _ _ I2 J hr hF.me hf)
    have pl : ∀ k : Int32, tI (tok T e a) = k → isBk k = false → (0 : Int32) ≤ stW k → ¬ stW k = 6 → ¬ stW k = 7 → ((stW (tI (tok T e a)) = 6 → P 17 112 [(0, .ref 97), (1, .int (nI (dD s))), (2, .int (stW (tI (tok T e a))))] [] I J R) ∧ (¬ stW (tI (tok T e a)) = 6 → ((¬ stW (tI (tok T e a)) = 7 → (((0 : Int32) ≤ stW (tI (tok T e a)) → P 31 112 [(0, .ref 97), (1, .int (nI (dD s))), (2, .int (stW (tI (tok T e a)))), (3, .int 0)] [] I J R) ∧ (¬ (0 : Int32) ≤ stW (tI (tok T e a)) → (AM (D + 7) 213 112 [.ref 97] I J R (fun x2 y2 I2 J2 R2 => P 31 112 [(0, .ref 97), (1, .int (nI (dD s))), (2, .int (stW (tI (tok T e a)))), (3, .int 0)] [] I2 J2 R))))) ∧ (stW (tI (tok T e a)) = 7 → P 17 112 [(0, .ref 97), (1, .int (nI (dD s))), (2, .int (stW (tI (tok T e a))))] [] I J R)))) := fun k ek hb h0 h6 h7 => by
      have g := G31 0 (Or.inr ⟨rfl, by rw [ek]; exact hb⟩)
      rw [ek] at g ⊢
      exact ⟨fun c => absurd c h6, fun _ => ⟨fun _ => ⟨fun _ => g, fun c => absurd h0 c⟩, fun c => absurd c h7⟩⟩
    have bl : isBk (tI (tok T e a)) = true → (0 : Int32) ≤ stW (tI (tok T e a)) → P 17 112 [(0, .ref 97), (1, .int (nI (dD s))), (2, .int (stW (tI (tok T e a))))] [] I J R := fun hb h0 => sg_X12_readStep_17 hc _ _ _ _ _ ⟨fun _ => G31 1 (Or.inl ⟨rfl, hb⟩), fun c => absurd h0 c⟩
    rcases isSt_c hi with z | z | z | z | z | z | z | z | z
    · exact pl 9 z (by decide) (by decide) (by decide) (by decide)
    · exact pl 10 z (by decide) (by decide) (by decide) (by decide)
    · exact pl 11 z (by decide) (by decide) (by decide) (by decide)
    · exact pl 12 z (by decide) (by decide) (by decide) (by decide)
    · exact pl 13 z (by decide) (by decide) (by decide) (by decide)
    · exact pl 14 z (by decide) (by decide) (by decide) (by decide)
    · have g := bl (by rw [z]; decide) (by rw [z]; decide)
      rw [z] at g ⊢
      exact ⟨fun _ => g, fun c => absurd rfl c⟩
    · have g := bl (by rw [z]; decide) (by rw [z]; decide)
      rw [z] at g ⊢
      exact ⟨fun c => absurd c (by decide), fun _ => ⟨fun c => absurd rfl c, fun _ => g⟩⟩
    · exact pl 21 z (by decide) (by decide) (by decide) (by decide)
  · have hi2 : isSt (tI (tok T e a)) = false := by
      cases z : isSt (tI (tok T e a)) with
      | false => rfl
      | true => exact absurd z hi
    rw [stW_n hi2]
    have er : r = .error (mis T e a) := by
      by_cases k0 : tK (tok T e a) = 0
      · rw [if_pos k0, if_neg (fun z => ht0 ⟨k0, z⟩)] at hr
        exact hr
      · rw [if_neg k0] at hr
        by_cases i20 : tI (tok T e a) = 20
        · rw [if_pos i20] at hr
          have d0 := ht20.resolve_left (fun z => z i20)
          have eE : dyE T e s a = .error (mis T e a) := by unfold dyE; rw [if_pos d0]
          rw [eE] at hr; exact hr
        · rw [if_neg i20] at hr
          have eS : dyS T e N m s a = .error (mis T e a) := by unfold dyS; rw [if_neg hi]
          rw [eS] at hr; exact hr
    exact ⟨fun c => absurd c (by decide), fun _ => ⟨fun _ => ⟨fun c => absurd c (by decide), fun _ => px_amiss h (fun I2 hF hf => F31 _ _ _ I2 J er hF.me hf)⟩, fun c => absurd c (by decide)⟩⟩
set_option maxHeartbeats 2000000 in
theorem px_rstep : ∀ (lv D : Nat) (s : DS) (a f : Nat) (r : Rs DS) (I : Im) (J : Jm) (Q : Qt), lv ≤ D → dD s + lv = 3 → MnR N m I J → Mr T e a I J → MDs s I → DOk s → DSp s → e < a + f → r = dyB T e N m f s a → (¬ tI (tok T e a) = 20 ∨ dD s = 0) → ¬ (tK (tok T e a) = 0 ∧ dD s = 0) →
    (∀ q I2 J2, r = .error q → FrE I J I2 J2 → FtM q I2 → Q 0 0 I2 J2 R) →
    (∀ s2 b f2 I2 J2, r = dyB T e N m f2 s2 b → dD s2 = dD s → (∀ k, k < dD s → dOs s2 k = dOs s k) → e < b + f2 → a < b → FrE I J I2 J2 → Mr T e b I2 J2 → MDs s2 I2 → DOk s2 → DSp s2 → Q 0 0 I2 J2 R) → AM (D + 8) 236 112 [.ref 97, .int (nI (dD s))] I J R Q := by
  intro lv
  induction lv with
  | zero => exact px_rs1 0 (fun l hl => absurd hl (by omega))
  | succ l ih => exact px_rs1 (l + 1) (fun k hk => by
      obtain rfl : k = l := by omega
      exact ih)
end RDF
