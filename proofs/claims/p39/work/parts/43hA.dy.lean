section PT9x0
/-! ===== the reference reads days: readStep ===== -/
noncomputable abbrev WE : Nat → Nat → Prop := fun c k => (c = 97 ∧ (k ∈ msB ∨ k = 27)) ∨ (c = 102 ∧ 1350 ≤ k)
noncomputable abbrev FrE (I : Im) (J : Jm) (I2 : Im) (J2 : Jm) : Prop := FrW WE VM I J I2 J2
theorem FrW.me {I I2 : Im} {J J2 : Jm} (h : FrM I J I2 J2) : FrE I J I2 J2 := h.up (fun _ _ q => Or.inl ⟨q.1, Or.inl q.2⟩) (fun _ _ q => q)
theorem FrW.ke {w : Nat} {I I2 : Im} {J J2 : Jm} (hw : 1350 ≤ w) (h : FrK w I J I2 J2) : FrE I J I2 J2 := h.up (fun _ _ q => q.elim (fun z => Or.inl ⟨z.1, Or.inl z.2⟩) (fun z => Or.inr ⟨z.1, by omega⟩)) (fun _ _ q => q)
theorem MnR.e {N : Nat → Int64} {m : Nat} {I I2 : Im} {J J2 : Jm} (h : MnR N m I J) (hF : FrE I J I2 J2) : MnR N m I2 J2 :=
  ⟨h.1, (hF.i (by rintro (q | q) <;> omega)).trans h.2.1, fun k hk => (hF.j (by intro q; have := q.1; omega)).trans (h.2.2 k hk)⟩
section RDF
variable {T : Nat → Int32} {e m : Nat} {N : Nat → Int64} {R : Rm}
set_option maxHeartbeats 2000000 in
theorem px_rs1 (lv : Nat) : (∀ l, l + 1 = lv → ∀ (D : Nat) (s : DS) (a f : Nat) (r : Rs DS) (I : Im) (J : Jm) (Q : Qt), l ≤ D → dD s + l = 3 → MnR N m I J → Mr T e a I J → MDs s I → DOk s → DSp s → e < a + f → r = dyB T e N m f s a → (¬ tI (tok T e a) = 20 ∨ dD s = 0) → ¬ (tK (tok T e a) = 0 ∧ dD s = 0) →
    (∀ q I2 J2, r = .error q → FrE I J I2 J2 → FtM q I2 → Q 0 0 I2 J2 R) →
    (∀ s2 b f2 I2 J2, r = dyB T e N m f2 s2 b → dD s2 = dD s → (∀ k, k < dD s → dOs s2 k = dOs s k) → e < b + f2 → a < b → FrE I J I2 J2 → Mr T e b I2 J2 → MDs s2 I2 → DOk s2 → DSp s2 → Q 0 0 I2 J2 R) → AM (D + 8) 236 112 [.ref 97, .int (nI (dD s))] I J R Q) →
    ∀ (D : Nat) (s : DS) (a f : Nat) (r : Rs DS) (I : Im) (J : Jm) (Q : Qt), lv ≤ D → dD s + lv = 3 → MnR N m I J → Mr T e a I J → MDs s I → DOk s → DSp s → e < a + f → r = dyB T e N m f s a → (¬ tI (tok T e a) = 20 ∨ dD s = 0) → ¬ (tK (tok T e a) = 0 ∧ dD s = 0) →
    (∀ q I2 J2, r = .error q → FrE I J I2 J2 → FtM q I2 → Q 0 0 I2 J2 R) →
    (∀ s2 b f2 I2 J2, r = dyB T e N m f2 s2 b → dD s2 = dD s → (∀ k, k < dD s → dOs s2 k = dOs s k) → e < b + f2 → a < b → FrE I J I2 J2 → Mr T e b I2 J2 → MDs s2 I2 → DOk s2 → DSp s2 → Q 0 0 I2 J2 R) → AM (D + 8) 236 112 [.ref 97, .int (nI (dD s))] I J R Q := by
  intro ihl D s a f r I J Q hlv h3 hm h hs hD hSp hf hr ht20 ht0 hE hK
  have ha := h.ha
  have he := h.he
  obtain ⟨h30, hd3, hLL, -, hOs⟩ := id hD
  obtain ⟨f, rfl⟩ : ∃ g, f = g + 1 := ⟨f - 1, by omega⟩
  have eB : dyB T e N m (f + 1) s a = if tK (tok T e a) = 0 then (if dD s = 0 then .ok (s, a) else .error (mis T e a)) else rb (if tI (tok T e a) = 20 then dyE T e s a else dyS T e N m s a) fun s b => dyB T e N m f s b := rfl
  rw [eB] at hr
  refine am_X12_readStep (fun P hc => sg_X12_readStep_0 hc _ _ _ _ (px_stepWord h ?_))
  have F83 : ∀ (q : Nat × Nat) (v2 v3 : Int32) (I2 : Im) (J2 : Jm), r = .error q → FrE I J I2 J2 → FtM q I2 → P 83 112 [(0, .ref 97), (1, .int (nI (dD s))), (2, .int v2), (3, .int v3)] [] I2 J2 R := fun q v2 v3 I2 J2 hq hF hf => sg_X12_readStep_83 hc _ _ _ _ _ _ ⟨fun c => absurd c hf.ne.2.1, fun _ => hE q I2 J2 hq hF hf⟩
  have F57 : ∀ (q : Nat × Nat) (v2 v3 : Int32) (I2 : Im) (J2 : Jm), r = .error q → FrE I J I2 J2 → FtM q I2 → P 57 112 [(0, .ref 97), (1, .int (nI (dD s))), (2, .int v2), (3, .int v3)] [] I2 J2 R := fun q v2 v3 I2 J2 hq hF hf => sg_X12_readStep_57 hc _ _ _ _ _ _ ⟨fun _ => F83 q v2 v3 I2 J2 hq hF hf, fun c => absurd c hf.ne.1⟩
  have F31 : ∀ (q : Nat × Nat) (v2 v3 : Int32) (I2 : Im) (J2 : Jm), r = .error q → FrE I J I2 J2 → FtM q I2 → P 31 112 [(0, .ref 97), (1, .int (nI (dD s))), (2, .int v2), (3, .int v3)] [] I2 J2 R := fun q v2 v3 I2 J2 hq hF hf => sg_X12_readStep_31 hc _ _ _ _ _ _ ⟨fun _ => F57 q v2 v3 I2 J2 hq hF hf, fun c => absurd c hf.ne.1⟩
  by_cases hi : isSt (tI (tok T e a)) = true
  · have k0 : ¬ tK (tok T e a) = 0 := by have := tI_k (isSt_n hi); omega
    have i20 : ¬ tI (tok T e a) = 20 := fun z => by rw [z] at hi; exact absurd hi (by decide)
    rw [if_neg k0, if_neg i20] at hr
    have h27 := hs.1
    have G83 : ∀ v3 : Int32, ((v3 = 1 ∧ isBk (tI (tok T e a)) = true) ∨ (v3 = 0 ∧ isBk (tI (tok T e a)) = false)) → ¬ dN s = 30 → ¬ (isBk (tI (tok T e a)) = true ∧ dD s = 3) → P 83 112 [(0, .ref 97), (1, .int (nI (dD s))), (2, .int (stW (tI (tok T e a)))), (3, .int v3)] [] I J R := by
      intro v3 hv n30 n3
      have hSr : dyS T e N m s a = rb (dyA T e N m (tI (tok T e a)) (tB (tok T e a))) fun c b => rb (tkS T e b) fun _ b => .ok (if isBk (tI (tok T e a)) = true then dsB s c else dsA s c, b) := by
        unfold dyS; rw [if_pos hi, if_neg n30, if_neg n3]
      rw [hSr] at hr
      have hw1 : 1350 ≤ 1350 + 9 * dN s ∧ 1350 + 9 * dN s + 8 < 1620 := by omega
      have ew : (1350 : Int32) + 9 * nI (dN s) = nI (1350 + 9 * dN s) := by
        rw [show (9 : Int32) = nI 9 from rfl, nI_mul (by omega) (by omega) (by omega), show (1350 : Int32) = nI 1350 from rfl, nI_add]
      have hb9 := tB_lt (T := T) ha k0
      refine sg_X12_readStep_83 hc _ _ _ _ _ _ ⟨fun _ => ?_, fun c => absurd h.le.1 c⟩
      rw [h27, ew, nI_k1]
      generalize hwd : 1350 + 9 * dN s = w at hw1 ew
      have h0 : Mr T e a (uI I 97 27 (nI (dN s + 1))) J := h.o (fun k hk => rd_k (by omega)) (uI_ne (by decide)) rfl
      have hF0 : FrE I J (uI I 97 27 (nI (dN s + 1))) J := FrW.rf.u (Or.inl ⟨rfl, Or.inr rfl⟩)
      have vw : vp_in (nI w) 1620 := vp_of (a := (w : Int)) (nI_toInt (by omega)) (by omega) (by omega)
      refine px_mad h0 (fun I1 J1 hF1 h1 => ⟨vw, ?_⟩)
      rw [tn_nI (by omega)]
      have hFw : FrE I J (uI I1 102 w (stW (tI (tok T e a)))) J1 := (hF0.tr hF1.me).u (Or.inr ⟨rfl, by omega⟩)
      refine px_rest hi ⟨by omega, by omega⟩ rd_eq (hm.e hFw) (h1.w_ (Or.inl (by decide)) (by decide)) (fun q I2 J2 hq hF hf => px_isSignA (fun x _ _ => px_mustB hf (px_s142 hw1.2 hf hc (hE q _ J2 ?_ ((hFw.tr (hF.ke (by omega))).u (Or.inr ⟨rfl, by omega⟩)) (hf.w_ (Or.inl (by decide))))))) (fun c b I2 J2 hc' hF h2 hrc => ?_)
      · rw [hr]; exact rb_e (rb_e hq)
      have hF2 : FrE I J I2 J2 := hFw.tr (hF.ke (by omega))
      have hbb : a < b := by
        have hu := up_dyA (T := T) (e := e) (N := N) (M := m) (i := tI (tok T e a)) hb9.2
        rw [hc'] at hu
        have hu1 : tB (tok T e a) ≤ b := hu.1
        omega
      refine px_msemi (Q1 := fun _ _ _ _ _ => True) (fun _ _ _ z => z) h2 (fun q I3 J3 hq hF3 hf => px_s142 hw1.2 hf hc (hE q _ J3 ?_ ((hF2.tr hF3.me).u (Or.inr ⟨rfl, by omega⟩)) (hf.w_ (Or.inl (by decide))))) (fun b3 I3 J3 hb3 hF3 hM3 => ?_)
      · rw [hr]; exact rb_e (by rw [rb_k hc']; exact rb_e hq)
      have hr2 : r = dyB T e N m f (if isBk (tI (tok T e a)) = true then dsB s c else dsA s c) b3 := by
        rw [hr, rb_k hc', rb_k hb3]; rfl
      have hb3b : b < b3 := by
        have hu := up_tkS (T := T) (e := e) h2.ha
        rw [hb3] at hu
        exact hu.1
      have e102 : I3 102 = I2 102 := hF3.c (by intro k q; exact absurd q.1 (by decide))
      have g27 : I3 97 27 = nI (dN s + 1) := by
        rw [hF3.i (by intro q; exact absurd q.2 (by decide)), hF.i (by rintro (q | q); exact absurd q.2 (by decide); exact absurd q.1 (by decide)), rd_ne (by decide), hF1.i (by intro q; exact absurd q.2 (by decide)), rd_eq]
      have old : ∀ k, k < w → I3 102 k = I 102 k := fun k hk => by
        rw [e102, hF.i (by rintro (q | q); exact absurd q.1 (by decide); omega), rd_k (by omega), hF1.i (by intro q; exact absurd q.1 (by decide)), rd_ne (by decide)]
      have gw : I3 102 w = kcR c.1 := by
        rw [e102, hF.i (by rintro (q | q); exact absurd q.1 (by decide); omega), rd_eq, dyA_k hi hc']
      have hrc3 : RcO c (I3 102) w := by rw [e102]; exact hrc
      have hF3e : FrE I J I3 J3 := hF2.tr hF3.me
      have k8 : Int32.toNatClampNeg (nI w + 8) = w + 8 := by rw [show (8 : Int32) = nI 8 from rfl, wk_k (by omega), tn_nI (by omega)]
      have v8 : vp_in (nI w + 8) 1620 := by rw [show (8 : Int32) = nI 8 from rfl, wk_k (by omega)]; exact vp_of (a := ((w + 8 : Nat) : Int)) (nI_toInt (by omega)) (by omega) (by omega)
      rcases hv with ⟨rfl, hb⟩ | ⟨rfl, hb⟩
      · rw [if_pos hb] at hr2
        have hd : ¬ dD s = 3 := fun z => n3 ⟨hb, z⟩
        obtain ⟨l, rfl⟩ : ∃ l, lv = l + 1 := ⟨lv - 1, by omega⟩
        obtain ⟨D, rfl⟩ : ∃ D', D = D' + 1 := ⟨D - 1, by omega⟩
        have L : ∀ (g : Nat) (σ : DS) (a2 f2 : Nat) (I4 : Im) (J4 : Jm), e < a2 + g → r = dyB T e N m f2 σ a2 → dD σ = dD s + 1 → (∀ k, k < dD s → dOs σ k = dOs s k) → dOs σ (dD s) = dN s → e < a2 + f2 → a < a2 → FrE I J I4 J4 → Mr T e a2 I4 J4 → MDs σ I4 → DOk σ → DSp σ → P 142 112 [(0, .ref 97), (1, .int (nI (dD s))), (3, .int 1), (4, .int (nI w))] [] I4 J4 R := by
          intro g
          induction g with
          | zero => intro σ a2 f2 I4 J4 hg _ _ _ _ _ _ _ hM; have := hM.ha; omega
          | succ g ih =>
            intro σ a2 f2 I4 J4 hg hrσ hdσ hOσ hOn hf2 hlt hFσ hM hsσ hDσ hSσ
            have ha2 := hM.ha
            have hnσ : dN s < dN σ := by have := hDσ.2.2.2.2 (dD s) (by omega); omega
            refine sg_X12_readStep_142 hc _ _ _ _ _ _ ⟨fun z => absurd z (by decide), fun _ => ⟨fun z => absurd hM.f z, fun _ => px_isEnd hM (fun t20 _ => ⟨fun _ => ?_, fun z => absurd z (by decide)⟩) (fun n20 _ => ⟨fun z => absurd rfl z, fun _ => ?_⟩)⟩⟩
            · -- the block's end
              have kk : ¬ tK (tok T e a2) = 0 := by have := tI_k (t := tok T e a2) (by rw [t20]; decide); omega
              obtain ⟨f2, rfl⟩ : ∃ f', f2 = f' + 1 := ⟨f2 - 1, by omega⟩
              have e2 : dyB T e N m (f2 + 1) σ a2 = if tK (tok T e a2) = 0 then (if dD σ = 0 then .ok (σ, a2) else .error (mis T e a2)) else rb (if tI (tok T e a2) = 20 then dyE T e σ a2 else dyS T e N m σ a2) fun s b => dyB T e N m f2 s b := rfl
              rw [e2, if_neg kk, if_pos t20] at hrσ
              have eE : dyE T e σ a2 = rb (tkS T e (tB (tok T e a2))) fun _ b => .ok (dsE σ, b) := by unfold dyE; rw [if_neg (by omega)]
              rw [eE] at hrσ
              have hb2 := tB_lt (T := T) ha2 kk
              refine sg_X12_readStep_170 hc _ _ _ _ _ ⟨fun z => absurd z (by decide), fun _ => px_isEnd hM (fun _ _ => px_mustY hM (fun I5 J5 hF5 h5 => ?_)) (fun z => absurd t20 z)⟩
              refine px_msemi (Q1 := fun _ _ _ _ _ => True) (fun _ _ _ z => z) h5 (fun q I6 J6 hq hF6 hf => ⟨v8, ?_⟩) (fun b6 I6 J6 hb6 hF6 h6 => ⟨v8, ?_⟩)
              · rw [k8]
                exact hE q _ J6 (by rw [hrσ]; exact rb_e (rb_e hq)) (((hFσ.tr hF5.me).tr hF6.me).u (Or.inr ⟨rfl, by omega⟩)) (hf.w_ (Or.inl (by decide)))
              · have h27e : I6 97 27 = nI (dN σ) := by
                  rw [hF6.i (by intro q; exact absurd q.2 (by decide)), hF5.i (by intro q; exact absurd q.2 (by decide))]; exact hsσ.1
                have e6 : I6 102 = I4 102 := (hF6.c (by intro k q; exact absurd q.1 (by decide))).trans (hF5.c (by intro k q; exact absurd q.1 (by decide)))
                have hu : tB (tok T e a2) < b6 := by
                  have hu := up_tkS (T := T) (e := e) h5.ha
                  rw [hb6] at hu
                  exact hu.1
                rw [k8, h27e]
                subst hwd
                refine hK (dsE σ) b6 f2 _ J6 (by rw [hrσ, rb_k hb6]; rfl) (show dD σ - 1 = dD s by omega) (fun k hk => hOσ k hk) (by omega) (by omega) (((hFσ.tr hF5.me).tr hF6.me).u (Or.inr ⟨rfl, by omega⟩)) (h6.w_ (Or.inl (by decide)) (by decide)) (MDs.fin hsσ hSσ (by omega) (show dOs σ (dD σ - 1) = dN s by rw [hdσ]; exact hOn) hnσ ?_ (fun k k1 k2 k3 => ?_) rd_eq) (hDσ.e (by omega)) hSσ.e
                · rw [rd_ne (by decide)]; exact h27e
                · rw [rd_k k2, e6]
            · -- a step within
              have e1 : nI (dD s) + 1 = nI (dD σ) := by rw [nI_k1, hdσ]
              rw [e1]
              exact ihl l rfl D σ a2 f2 r I4 J4 _ (by omega) (by omega) (hm.e hFσ) hM hsσ hDσ hSσ hf2 hrσ (Or.inl n20) (fun z => by omega) (fun q I5 J5 hq hF5 hf => px_s142 hw1.2 hf hc (hE q _ J5 hq ((hFσ.tr hF5).u (Or.inr ⟨rfl, by omega⟩)) (hf.w_ (Or.inl (by decide))))) (fun s2 b5 f5 I5 J5 hr5 hd5 hO5 hf5 hlt5 hF5 h5 hs5 hD5 hS5 => ih s2 b5 f5 I5 J5 (by omega) hr5 (by omega) (fun k hk => (hO5 k (by omega)).trans (hOσ k hk)) ((hO5 (dD s) (by omega)).trans hOn) hf5 (by omega) (hFσ.tr hF5) h5 hs5 hD5 hS5)
        refine L (e + 1) (dsB s c) b3 f I3 J3 (by omega) hr2 rfl (fun k hk => upN_i (by omega)) upN_s (by omega) (by omega) hF3e hM3 ?_ (hD.b n30 hd) hSp.b
        subst hwd
        exact MDs.new hs hSp rfl rfl rfl (fun t ht => rfl) (fun t ht z => by
          obtain ⟨k, k1, k2⟩ := z
          exact ⟨k, show k < dD s + 1 by omega, by show upN (dOs s) (dD s) (dN s) k = t; rw [upN_i (by omega)]; exact k2⟩) g27 (fun k k1 k2 => old k k2) gw hrc3 (fun no => absurd ⟨dD s, show dD s < dD s + 1 by omega, upN_s⟩ no)
      · rw [if_neg (by rw [hb]; decide)] at hr2
        refine sg_X12_readStep_142 hc _ _ _ _ _ _ ⟨fun _ => sg_X12_readStep_170 hc _ _ _ _ _ ⟨fun _ => ⟨v8, ?_⟩, fun z => absurd rfl z⟩, fun z => absurd rfl z⟩
        rw [k8, g27]
        subst hwd
        refine hK (dsA s c) b3 f _ J3 hr2 rfl (fun _ _ => rfl) (by omega) (by omega) (hF3e.u (Or.inr ⟨rfl, by omega⟩)) (hM3.w_ (Or.inl (by decide)) (by decide)) (MDs.new hs hSp rfl rfl rfl (fun t ht => upN_i (by omega)) (fun t ht z => z) ?_ (fun k k1 k2 => ?_) ?_ ?_ (fun _ => ?_)) (hD.a n30) hSp.a
        · rw [rd_ne (by decide)]; exact g27
        · rw [rd_k (by omega)]; exact old k k2
        · rw [rd_k (by omega)]; exact gw
        · exact hrc3.cp (fun k k1 k2 => rd_k (by omega))
        · rw [rd_eq]
          show nI (dN s + 1) = nI (upN (dNx s) (dN s) (dN s + 1) (dN s))
          rw [upN_s]
    have G57 : ∀ v3 : Int32, ((v3 = 1 ∧ isBk (tI (tok T e a)) = true) ∨ (v3 = 0 ∧ isBk (tI (tok T e a)) = false)) → ¬ dN s = 30 → P 57 112 [(0, .ref 97), (1, .int (nI (dD s))), (2, .int (stW (tI (tok T e a)))), (3, .int v3)] [] I J R := by
      intro v3 hv n30
      refine sg_X12_readStep_57 hc _ _ _ _ _ _ ⟨fun c => absurd h.f c, fun _ => ⟨fun c => ?_, fun c => ⟨fun c3 => ?_, fun c3 => ?_⟩⟩⟩
      · refine G83 v3 hv n30 (fun z => ?_)
        rcases hv with ⟨y, _⟩ | ⟨_, y⟩
        · rw [y] at c; exact absurd c (by decide)
        · rw [y] at z; exact absurd z.1 (by decide)
      · exact G83 v3 hv n30 (fun z => c3 (by rw [z.2]; rfl))
      · have d3 : dD s = 3 := (nK (a := dD s) (b := 3) (by omega) (by omega)).mp c3
        have hb : isBk (tI (tok T e a)) = true := by
          rcases hv with ⟨_, y⟩ | ⟨y, _⟩
          · exact y
          · exact absurd y c
        have eS : dyS T e N m s a = .error (7, tS (tok T e a)) := by unfold dyS; rw [if_pos hi, if_neg n30, if_pos ⟨hb, d3⟩]
        rw [eS] at hr
        exact px_fail (k := 7) h (by decide) h.s (fun I2 hF hf => F83 _ _ _ I2 J hr hF.me hf)
    have G31 : ∀ v3 : Int32, ((v3 = 1 ∧ isBk (tI (tok T e a)) = true) ∨ (v3 = 0 ∧ isBk (tI (tok T e a)) = false)) → P 31 112 [(0, .ref 97), (1, .int (nI (dD s))), (2, .int (stW (tI (tok T e a)))), (3, .int v3)] [] I J R := by
      intro v3 hv
      refine sg_X12_readStep_31 hc _ _ _ _ _ _ ⟨fun c => absurd h.f c, fun _ => ?_⟩
      rw [h27]
      refine ⟨fun c => G57 v3 hv (fun z => c (by rw [z]; rfl)), fun c => ?_⟩
      have n30 : dN s = 30 := (nK (a := dN s) (b := 30) (by omega) (by omega)).mp c
      have eS : dyS T e N m s a = .error (6, tS (tok T e a)) := by unfold dyS; rw [if_pos hi, if_pos n30]
      rw [eS] at hr
      exact px_fail (k := 6) h (by decide) h.s (fun I2 hF hf => F57 _ _ _ I2 J hr hF.me hf)
    have pl : ∀ k : Int32, tI (tok T e a) = k → isBk k = false → (0 : Int32) ≤ stW k → ¬ stW k = 6 → ¬ stW k = 7 → ((stW (tI (tok T e a)) = 6 → P 17 112 [(0, .ref 97), (1, .int (nI (dD s))), (2, .int (stW (tI (tok T e a))))] [] I J R) ∧ (¬ stW (tI (tok T e a)) = 6 → ((¬ stW (tI (tok T e a)) = 7 → (((0 : Int32) ≤ stW (tI (tok T e a)) → P 31 112 [(0, .ref 97), (1, .int (nI (dD s))), (2, .int (stW (tI (tok T e a)))), (3, .int 0)] [] I J R) ∧ (¬ (0 : Int32) ≤ stW (tI (tok T e a)) → (AM (D + 7) 213 112 [.ref 97] I J R (fun x2 y2 I2 J2 R2 => P 31 112 [(0, .ref 97), (1, .int (nI (dD s))), (2, .int (stW (tI (tok T e a)))), (3, .int 0)] [] I2 J2 R))))) ∧ (stW (tI (tok T e a)) = 7 → P 17 112 [(0, .ref 97), (1, .int (nI (dD s))), (2, .int (stW (tI (tok T e a))))] [] I J R)))) := fun k ek hb h0 h6 h7 => by
      have g := G31 0 (Or.inr ⟨rfl, by rw [ek]; exact hb⟩)
      rw [ek] at g ⊢
      exact ⟨fun c => absurd c h6, fun _ => ⟨fun _ => ⟨fun _ => g, fun c => absurd h0 c⟩, fun c => absurd c h7⟩⟩
    have bl : isBk (tI (tok T e a)) = true → (0 : Int32) ≤ stW (tI (tok T e a)) → P 17 112 [(0, .ref 97), (1, .int (nI (dD s))), (2, .int (stW (tI (tok T e a))))] [] I J R := fun hb h0 => sg_X12_readStep_17 hc _ _ _ _ _ ⟨fun _ => G31 1 (Or.inl ⟨rfl, hb⟩), fun c => absurd h0 c⟩
    rcases isSt_c hi with z | z | z | z | z | z | z | z | z
    · exact pl 9 z (by decide) (by decide) (by decide) (by decide)
    · exact pl 10 z (by decide) (by decide) (by decide) (by decide)
    · exact pl 11 z (by decide) (by decide) (by decide) (by decide)
    · exact pl 12 z (by decide) (by decide) (by decide) (by decide)
    · exact pl 13 z (by decide) (by decide) (by decide) (by decide)
    · exact pl 14 z (by decide) (by decide) (by decide) (by decide)
    · have g := bl (by rw [z]; decide) (by rw [z]; decide)
      rw [z] at g ⊢
      exact ⟨fun _ => g, fun c => absurd rfl c⟩
    · have g := bl (by rw [z]; decide) (by rw [z]; decide)
      rw [z] at g ⊢
      exact ⟨fun c => absurd c (by decide), fun _ => ⟨fun c => absurd rfl c, fun _ => g⟩⟩
    · exact pl 21 z (by decide) (by decide) (by decide) (by decide)
  · have hi2 : isSt (tI (tok T e a)) = false := by
      cases z : isSt (tI (tok T e a)) with
      | false => rfl
      | true => exact absurd z hi
    rw [stW_n hi2]
    have er : r = .error (mis T e a) := by
      by_cases k0 : tK (tok T e a) = 0
      · rw [if_pos k0, if_neg (fun z => ht0 ⟨k0, z⟩)] at hr
        exact hr
      · rw [if_neg k0] at hr
        by_cases i20 : tI (tok T e a) = 20
        · rw [if_pos i20] at hr
          have d0 := ht20.resolve_left (fun z => z i20)
          have eE : dyE T e s a = .error (mis T e a) := by unfold dyE; rw [if_pos d0]
          rw [eE] at hr; exact hr
        · rw [if_neg i20] at hr
          have eS : dyS T e N m s a = .error (mis T e a) := by unfold dyS; rw [if_neg hi]
          rw [eS] at hr; exact hr
    exact ⟨fun c => absurd c (by decide), fun _ => ⟨fun _ => ⟨fun c => absurd c (by decide), fun _ => px_amiss h (fun I2 hF hf => F31 _ _ _ I2 J er hF.me hf)⟩, fun c => absurd c (by decide)⟩⟩
set_option maxHeartbeats 2000000 in
theorem px_rstep : ∀ (lv D : Nat) (s : DS) (a f : Nat) (r : Rs DS) (I : Im) (J : Jm) (Q : Qt), lv ≤ D → dD s + lv = 3 → MnR N m I J → Mr T e a I J → MDs s I → DOk s → DSp s → e < a + f → r = dyB T e N m f s a → (¬ tI (tok T e a) = 20 ∨ dD s = 0) → ¬ (tK (tok T e a) = 0 ∧ dD s = 0) →
    (∀ q I2 J2, r = .error q → FrE I J I2 J2 → FtM q I2 → Q 0 0 I2 J2 R) →
    (∀ s2 b f2 I2 J2, r = dyB T e N m f2 s2 b → dD s2 = dD s → (∀ k, k < dD s → dOs s2 k = dOs s k) → e < b + f2 → a < b → FrE I J I2 J2 → Mr T e b I2 J2 → MDs s2 I2 → DOk s2 → DSp s2 → Q 0 0 I2 J2 R) → AM (D + 8) 236 112 [.ref 97, .int (nI (dD s))] I J R Q := by
  intro lv
  induction lv with
  | zero => exact px_rs1 0 (fun l hl => absurd hl (by omega))
  | succ l ih => exact px_rs1 (l + 1) (fun k hk => by
      obtain rfl : k = l := by omega
      exact ih)
end RDF
end PT9x0
section PT9x1
/-! ===== the reference's days() ===== -/
noncomputable abbrev WG : Nat → Nat → Prop := fun c k => (c = 97 ∧ (k ∈ msD ∨ k = 27)) ∨ (c = 102 ∧ ((52 ≤ k ∧ k < 324) ∨ 1350 ≤ k))
noncomputable abbrev FrG (I : Im) (J : Jm) (I2 : Im) (J2 : Jm) : Prop := FrW WG VM I J I2 J2
theorem FrW.eg {I I2 : Im} {J J2 : Jm} (h : FrE I J I2 J2) : FrG I J I2 J2 := h.up (fun _ _ q => q.elim (fun z => Or.inl ⟨z.1, z.2.elim (fun y => Or.inl ((show ∀ k, k ∈ msB → k ∈ msD by decide) _ y)) (fun y => Or.inr y)⟩) (fun z => Or.inr ⟨z.1, Or.inr z.2⟩)) (fun _ _ q => q)
section RDG
variable {d m : Nat} {T : Nat → Int32} {N : Nat → Int64} {I : Im} {J : Jm} {R : Rm} {Q : Qt}
theorem px_mdN {v : Int32} {f : Nat} (hf : f ≤ 900) (h8 : I 97 8 = nI f) (hv : v < 0 ∨ nI f < v ∨ 300 < v) (hQ : ∀ I2, FrW (WM [0, 1]) nV I J I2 J → Q (-1) 0 I2 J R) : AM (d + 12) 237 112 [.ref 97, .int v] I J R Q := by
  have hF : FrW (WM [0, 1]) nV I J (uI (uI I 97 1 0) 97 0 0) J := (FrW.rf.u ⟨rfl, by decide⟩).u ⟨rfl, by decide⟩
  refine am_X12_days (fun P hc => sg_X12_days_0 hc _ _ _ _ (px_startN hf ?_ ?_ (fun I2 hF2 _ => ⟨fun z => absurd rfl z, fun _ => hQ I2 (hF.tr (hF2.up (fun _ _ q => ⟨q.1, (show ∀ k, k ∈ [0] → k ∈ [0, 1] by decide) _ q.2⟩) (fun _ _ q => q)))⟩)))
  · rw [hF.i (by decide)]; exact h8
  · exact hv.elim Or.inl (fun z => Or.inr (z.elim Or.inl (fun y => Or.inr (fun x => ile.mpr x y))))
theorem px_mdY {n f : Nat} (hf : f ≤ 900) (hn : n ≤ f) (h300 : n ≤ 300) (h8 : I 97 8 = nI f) (hB : Byt T) (hT : ∀ i, i < f → I 101 i = T i) (hm : MnR N m I J) (hE : ∀ q I2 J2, dyB T n N m (n + 1) ds0 0 = .error q → FrG I J I2 J2 → I2 97 8 = 0 → FtK q I2 → (∀ k, k < 1350 → I2 102 k = I 102 k) → Q (-1) 0 I2 J2 R)
    (hK : ∀ s b I2 J2, dyB T n N m (n + 1) ds0 0 = .ok (s, b) → DOk s → DSp s → FrG I J I2 J2 → I2 97 8 = 0 → I2 97 10 = 0 → I2 97 11 = -1 → MDs s I2 → I2 102 52 = 1 → I2 102 53 = nI (dN s) → (∀ j, j < 9 * dN s → I2 102 (54 + j) = I2 102 (1350 + j)) → Q (nI (dN s)) 0 I2 J2 R) : AM (d + 12) 237 112 [.ref 97, .int (nI n)] I J R Q := by
  have hF : FrW (WM [0, 1]) nV I J (uI (uI I 97 1 0) 97 0 0) J := (FrW.rf.u ⟨rfl, by decide⟩).u ⟨rfl, by decide⟩
  refine am_X12_days (fun P hc => sg_X12_days_0 hc _ _ _ _ (px_startY (T := T) hf hn ?_ ?_ hB ?_ (fun I2 J2 hF2 h28 h2 _ => ⟨fun _ => ?_, fun z => absurd z (by decide)⟩)))
  · exact (nle_nI (b := 300) (by omega) (by omega)).mpr h300
  · rw [hF.i (by decide)]; exact h8
  · intro i hi; rw [hF.i (by intro q; exact absurd q.1 (by decide))]; exact hT i hi
  have hFs : FrG I J I2 J2 := (hF.up (fun _ _ q => Or.inl ⟨q.1, Or.inl ((show ∀ k, k ∈ [0, 1] → k ∈ msD by decide) _ q.2)⟩) nV.up).tr (hF2.up (fun _ _ q => Or.inl ⟨q.1, Or.inl ((show ∀ k, k ∈ [8, 9, 12, 14, 15, 16, 17, 18] → k ∈ msD by decide) _ q.2)⟩) (fun _ _ q => q))
  have e102 : I2 102 = I 102 := (hF2.c (WM.no (by decide))).trans (hF.c (WM.no (by decide)))
  have hFa : FrG I J (uI I2 97 27 0) J2 := hFs.u (Or.inl ⟨rfl, Or.inr rfl⟩)
  have hMa : Mr T n 0 (uI I2 97 27 0) J2 := h2.o (fun k hk => rd_k (by omega)) (uI_ne (by decide)) rfl
  have a8 : uI I2 97 27 0 97 8 = 0 := (rd_k (by decide)).trans h28
  have lo : ∀ k, k < 1350 → uI I2 97 27 0 102 k = I 102 k := fun k _ => by rw [rd_ne (by decide), e102]
  have hma : MnR N m (uI I2 97 27 0) J2 := ⟨hm.1, by rw [lo 0 (by decide)]; exact hm.2.1, fun k hk => by
    rw [hF2.j (by intro q; exact absurd q.1 (by decide))]; exact hm.2.2 k hk⟩
  have hsa : MDs ds0 (uI I2 97 27 0) := ⟨rd_eq, fun t ht => absurd ht (by show ¬ t < 0; omega)⟩
  generalize uI I2 97 27 0 = M at hFa hMa a8 lo hma hsa
  have up3 : ∀ {A B : Im} {JA : Jm}, FrW (WM [0, 10, 11]) nV A JA B JA → FrG A JA B JA := fun hF5 => hF5.up (fun _ _ q => Or.inl ⟨q.1, Or.inl ((show ∀ k, k ∈ [0, 10, 11] → k ∈ msD by decide) _ q.2)⟩) nV.up
  have B50 : ∀ q I4 J4, dyB T n N m (n + 1) ds0 0 = .error q → FrE M J2 I4 J4 → FtM q I4 → P 50 112 [(0, .ref 97)] [] I4 J4 R := fun q I4 J4 hq hF4 hf => by
    refine sg_X12_days_50 hc _ _ _ (px_wellB hf (fun I5 hF5 hk _ => ⟨fun z => absurd rfl z, fun _ => hE q I5 J4 hq ((hFa.tr hF4.eg).tr (up3 hF5)) ?_ hk (fun k hk => ?_)⟩))
    · rw [hF5.i (by decide), hF4.i (by rintro (z | z); exact absurd z.2 (by decide); exact absurd z.1 (by decide))]; exact a8
    · rw [hF5.i (by intro z; exact absurd z.1 (by decide)), hF4.i (by rintro (z | z) <;> omega)]; exact lo k hk
  have C80 : ∀ (s : DS) (b : Nat), dyB T n N m (n + 1) ds0 0 = .ok (s, b) → DOk s → DSp s → ∀ (g k : Nat) (I4 : Im) (J4 : Jm), k + g = 9 * dN s → FrG I J I4 J4 → I4 97 8 = 0 → I4 97 10 = 0 → I4 97 11 = -1 → MDs s I4 → I4 102 52 = 1 → I4 102 53 = nI (dN s) → (∀ j, j < k → I4 102 (54 + j) = I4 102 (1350 + j)) → P 80 112 [(0, .ref 97), (2, .int (nI k))] [] I4 J4 R := by
    intro s b hr hD hS g
    have h30 := hD.1
    have e9 : (9 : Int32) * nI (dN s) = nI (9 * dN s) := by rw [show (9 : Int32) = nI 9 from rfl]; exact nI_mul (by omega) (by omega) (by omega)
    induction g with
    | zero =>
      intro k I4 J4 hk hF4 c8 c10 c11 hM c52 c53 hcp
      refine sg_X12_days_80 hc _ _ _ _ ?_
      rw [hM.1, e9]
      exact ⟨fun _ => hK s b I4 J4 hr hD hS hF4 c8 c10 c11 hM c52 c53 (fun j hj => hcp j (by omega)), fun c => absurd ((nle_nI (by omega) (by omega)).mpr (by omega)) c⟩
    | succ g ih =>
      intro k I4 J4 hk hF4 c8 c10 c11 hM c52 c53 hcp
      refine sg_X12_days_80 hc _ _ _ _ ?_
      have e1 : (1350 : Int32) + nI k = nI (1350 + k) := by rw [show (1350 : Int32) = nI 1350 from rfl]; exact nI_add 1350 k
      have e2 : (54 : Int32) + nI k = nI (54 + k) := by rw [show (54 : Int32) = nI 54 from rfl]; exact nI_add 54 k
      rw [hM.1, e9, e1, e2, tn_nI (by omega), tn_nI (by omega), nI_k1]
      refine ⟨fun c => absurd ((nle_nI (by omega) (by omega)).mp c) (by omega), fun _ => ⟨vp_of (a := ((1350 + k : Nat) : Int)) (nI_toInt (by omega)) (by omega) (by omega), vp_of (a := ((54 + k : Nat) : Int)) (nI_toInt (by omega)) (by omega) (by omega), ?_⟩⟩
      refine ih (k + 1) _ J4 (by omega) (hF4.u (Or.inr ⟨rfl, Or.inl (by omega)⟩)) ((rd_ne (by decide)).trans c8) ((rd_ne (by decide)).trans c10) ((rd_ne (by decide)).trans c11) ⟨(rd_ne (by decide)).trans hM.1, fun t ht => ?_⟩ ((rd_k (by omega)).trans c52) ((rd_k (by omega)).trans c53) (fun j hj => ?_)
      · obtain ⟨g1, g2, g3⟩ := hM.2 t ht
        exact ⟨(rd_k (by omega)).trans g1, g2.cp (fun k k1 k2 => rd_k (by omega)), fun no => (rd_k (by omega)).trans (g3 no)⟩
      · rw [rd_k (show ¬ 1350 + j = 54 + k by omega)]
        by_cases q : j = k
        · subst q; rw [rd_eq]
        · rw [rd_k (by omega)]; exact hcp j (by omega)
  have G50 : ∀ (s : DS) (b : Nat) (I4 : Im) (J4 : Jm), dyB T n N m (n + 1) ds0 0 = .ok (s, b) → DOk s → DSp s → FrE M J2 I4 J4 → Mr T n b I4 J4 → MDs s I4 → P 50 112 [(0, .ref 97)] [] I4 J4 R := by
    intro s b I4 J4 hr hD hS hF4 hM hs
    refine sg_X12_days_50 hc _ _ _ (px_wellG hM.f (fun I5 hF5 k10 k11 _ => ⟨fun _ => ⟨vp_of (a := 52) rfl (by decide) (by decide), vp_of (a := 53) rfl (by decide) (by decide), ?_⟩, fun z => absurd z (by decide)⟩))
    have e27 : I5 97 27 = nI (dN s) := (hF5.i (by intro q; exact absurd q.2 (by decide))).trans hs.1
    have e5 : I5 102 = I4 102 := hF5.c (by intro k q; exact absurd q.1 (by decide))
    have t52 : Int32.toNatClampNeg 52 = 52 := rfl
    have t53 : Int32.toNatClampNeg 53 = 53 := rfl
    have e27b : uI I5 102 52 1 97 27 = nI (dN s) := (rd_ne (by decide)).trans e27
    rw [t52, t53, e27b]
    refine C80 s b hr hD hS (9 * dN s) 0 _ J4 (by omega) ((((hFa.tr hF4.eg).tr (up3 hF5)).u (Or.inr ⟨rfl, Or.inl (by decide)⟩)).u (Or.inr ⟨rfl, Or.inl (by decide)⟩)) ?_ ?_ ?_ ⟨?_, fun t ht => ?_⟩ ?_ rd_eq (fun j hj => absurd hj (by omega))
    · rw [rd_ne (by decide), rd_ne (by decide), hF5.i (by decide), hF4.i (by rintro (z | z); exact absurd z.2 (by decide); exact absurd z.1 (by decide))]; exact a8
    · rw [rd_ne (by decide), rd_ne (by decide)]; exact k10
    · rw [rd_ne (by decide), rd_ne (by decide)]; exact k11
    · rw [rd_ne (by decide)]; exact e27b
    · obtain ⟨g1, g2, g3⟩ := hs.2 t ht
      have e6 : ∀ k, 1350 ≤ k → uI (uI I5 102 52 1) 102 53 (nI (dN s)) 102 k = I4 102 k := fun k hk => by rw [rd_k (by omega), rd_k (by omega), e5]
      exact ⟨(e6 _ (by omega)).trans g1, g2.cp (fun k k1 k2 => e6 k (by omega)), fun no => (e6 _ (by omega)).trans (g3 no)⟩
    · rw [rd_k (by decide), rd_eq]
  have L : ∀ (g : Nat) (s : DS) (a f : Nat) (I4 : Im) (J4 : Jm), n < a + g → dyB T n N m (n + 1) ds0 0 = dyB T n N m f s a → dD s = 0 → n < a + f → FrE M J2 I4 J4 → Mr T n a I4 J4 → MDs s I4 → DOk s → DSp s → P 28 112 [(0, .ref 97)] [] I4 J4 R := by
    intro g
    induction g with
    | zero => intro s a f I4 J4 hg _ _ _ _ hM; have := hM.ha; omega
    | succ g ih =>
      intro s a f I4 J4 hg hr hd hf2 hF4 hM hs hD hS
      have ha := hM.ha
      refine sg_X12_days_28 hc _ _ _ ⟨fun c => absurd hM.f c, fun _ => ⟨fun c => ?_, fun c => ?_⟩⟩
      · have k0 : tK (tok T n a) = 0 := (hM.k_is (n := 0) (by omega)).mp c
        obtain ⟨f, rfl⟩ : ∃ f', f = f' + 1 := ⟨f - 1, by omega⟩
        have e2 : dyB T n N m (f + 1) s a = if tK (tok T n a) = 0 then (if dD s = 0 then .ok (s, a) else .error (mis T n a)) else rb (if tI (tok T n a) = 20 then dyE T n s a else dyS T n N m s a) fun s b => dyB T n N m f s b := rfl
        rw [e2, if_pos k0, if_pos hd] at hr
        exact G50 s a I4 J4 hr hD hS hF4 hM hs
      · have k0 : ¬ tK (tok T n a) = 0 := fun z => c ((hM.k_is (n := 0) (by omega)).mpr z)
        have z0 : (0 : Int32) = nI (dD s) := by rw [hd]; rfl
        rw [z0]
        exact px_rstep 3 (d + 3) s a f _ I4 J4 _ (by omega) (by omega) (hma.e hF4) hM hs hD hS hf2 hr (Or.inr hd) (fun z => k0 z.1) (fun q I5 J5 hq hF5 hf => sg_X12_days_28 hc _ _ _ ⟨fun _ => B50 q I5 J5 hq (hF4.tr hF5) hf, fun c => absurd c hf.ne.1⟩) (fun s2 b f2 I5 J5 hr5 hd5 _ hf5 hlt hF5 h5 hs5 hD5 hS5 => ih s2 b f2 I5 J5 (by omega) hr5 (by omega) hf5 (hF4.tr hF5) h5 hs5 hD5 hS5)
  exact L (n + 1) ds0 0 (n + 1) M J2 (by omega) rfl rfl (by omega) FrW.rf hMa hsa DOk.z DSp.z
end RDG
end PT9x1
section PT9x2
/-! ===== the scribe's days() ===== -/
noncomputable abbrev WD (p : Nat) : Nat → Nat → Prop := fun c k => (c = 1 ∧ k = 0) ∨ c = 3 ∨ c = 7 ∨ c = 8 ∨ (p ≤ c ∧ c ≤ p + 5)
section CDY
variable {d M : Nat} {N : Nat → Int64} {I : Im} {J : Jm} {R : Rm} {Q : Qt}
theorem px_cdN {v : Int32} {f : Nat} (hf : f ≤ 900) (h1 : I 3 1 = nI f) (hv : v < 0 ∨ nI f < v ∨ 300 < v) (hQ : Q (-1) 0 (uI I 1 0 5) J R) : AM (d + 9) 109 112 [.ref 1, .int v] I J R Q := by
  refine am2_of (k := kX11_days) rfl rfl rfl rfl rfl rfl (Nat.le_of_ble_eq_true rfl) (fun P hc => sg_X11_days_0 hc _ _ _ _ ⟨fun _ => w_X11_refuse ⟨rfl, hQ⟩, fun c1 => ⟨fun _ => w_X11_refuse ⟨rfl, hQ⟩, fun c2 => ⟨fun c3 => ?_, fun _ => w_X11_refuse ⟨rfl, hQ⟩⟩⟩⟩)
  rw [h1] at c2
  rcases hv with z | z | z
  · exact absurd z c1
  · exact absurd z c2
  · exact absurd c3 (fun y => ile.mpr y z)
theorem px_cdY {n f : Nat} (hf : f ≤ 900) (hn : n ≤ f) (h3 : n ≤ 300) (h1 : I 3 1 = nI f) (hJ : ∀ k, k < 22 → J 5 k = rsv.getD k 0) (hR : RI R) (hm : MnA N M (R 1 7) I J)
    (hE : ∀ q I2 J2, dyB (I 4) n N M (n + 1) ds0 0 = .error q → FrW (WD (R 1 10)) VR I J I2 J2 → I2 3 1 = 0 → I2 3 3 = 1 → Ft q I2 → Q (-1) 0 I2 J2 R)
    (hK : ∀ s b I2 J2, dyB (I 4) n N M (n + 1) ds0 0 = .ok (s, b) → DOk s → FrW (WD (R 1 10)) VR I J I2 J2 → I2 3 1 = 0 → I2 3 3 = 1 → I2 3 12 = 0 → I2 3 13 = -1 → SDs s (R 1 10) I2 → I2 (R 1 10) 0 = 1 → Q (nI (dN s)) 0 I2 J2 (uR (uR R 1 9 (R 1 10)) 1 10 (R 1 9))) : AM (d + 9) 109 112 [.ref 1, .int (nI n)] I J R Q := by
  have hO := hR.now.1
  have ho := o_ge hO
  have hP := hR.splan.1
  have hp := p_ge hP
  have hop := op_ne hO hP
  refine am2_of (k := kX11_days) rfl rfl rfl rfl rfl rfl (Nat.le_of_ble_eq_true rfl) (fun P hc => sg_X11_days_0 hc _ _ _ _ ⟨fun c => absurd c (nI_pos (by omega)), fun _ => ⟨fun c => ?_, fun _ => ⟨fun _ => ?_, fun c => absurd ?_ c⟩⟩⟩)
  · rw [h1] at c
    have := (nlt_nI (by omega) (by omega)).mp c; omega
  · refine px_open hf hn h1 hJ (fun I2 J2 hF2 h2 h31 h33 => ⟨hR.splan.2, hR.now.2, px_intoD hP hO (by omega) ⟨hm.1, (hF2.i (by omega)).trans hm.2.1, fun k hk => (hF2.j (by intro q; have := q.1; omega)).trans (hm.2.2 k hk)⟩ h2 (fun q I3 J3 he hF3 hf3 _ => ⟨fun z => absurd rfl z, fun _ => w_X11_refuse ⟨rfl, ?_⟩⟩) (fun s b I3 J3 he hF3 hR3 hs3 h0 hD3 _ => ⟨fun _ => ⟨hR.plan.2, hR.splan.2, hR.splan.2, hR.plan.2, ?_⟩, fun z => absurd z (by decide)⟩)⟩)
    · have hFa : FrW (WD (R 1 10)) VR I J (uI I3 1 0 10) J3 := ((hF2.up (fun c k q => Or.inr (Or.inl q)) (fun _ _ q => q)).tr (hF3.up (fun c k q => q.elim (fun z => Or.inr (Or.inl z.1)) (fun z => Or.inr (Or.inr z))) (fun _ _ q => q))).u (Or.inl ⟨rfl, rfl⟩)
      refine hE q _ J3 he hFa ?_ ?_ (hf3.w_ (by decide))
      · rw [rd_ne (by decide), hF3.i (by rintro (q | q | q | q) <;> first | exact absurd q.2 (by decide) | omega)]; exact h31
      · rw [rd_ne (by decide), hF3.i (by rintro (q | q | q | q) <;> first | exact absurd q.2 (by decide) | omega)]; exact h33
    · have e9 : uR (uR R 1 9 (R 1 10)) 1 10 (R 1 9) 1 9 = R 1 10 := by rw [uR_k (by decide), uR_s]
      rw [e9]
      refine ⟨hR.splan.2, bif_t hP (w_X11_answer ⟨rfl, ?_⟩)⟩
      have hFa : FrW (WD (R 1 10)) VR I J (uI I3 1 0 0) J3 := ((hF2.up (fun c k q => Or.inr (Or.inl q)) (fun _ _ q => q)).tr (hF3.up (fun c k q => q.elim (fun z => Or.inr (Or.inl z.1)) (fun z => Or.inr (Or.inr z))) (fun _ _ q => q))).u (Or.inl ⟨rfl, rfl⟩)
      rw [hs3.1]
      refine hK s b _ J3 he hD3 hFa ?_ ?_ ?_ ?_ (hs3.cp (fun c hc => uI_ne (by first | decide | omega))) ((rd_ne (by first | decide | omega)).trans h0)
      · rw [rd_ne (by decide), hF3.i (by rintro (q | q | q | q) <;> first | exact absurd q.2 (by decide) | omega)]; exact h31
      · rw [rd_ne (by decide), hF3.i (by rintro (q | q | q | q) <;> first | exact absurd q.2 (by decide) | omega)]; exact h33
      · rw [rd_ne (by decide)]; exact hR3.f
      · rw [rd_ne (by decide)]; exact hR3.f13
  · exact (nle_nI (b := 300) (by omega) (by omega)).mpr h3
end CDY
end PT9x2
section PT9x3
/-! ===== days(): what it answers ===== -/
theorem dy_v {v : Int32} {f : Nat} (hf : f ≤ 900) : (v < 0 ∨ nI f < v ∨ 300 < v) ∨ ∃ n, n ≤ f ∧ n ≤ 300 ∧ v = nI n := by
  by_cases q : 300 < v
  · exact Or.inl (Or.inr (Or.inr q))
  rcases sp_v (v := v) hf with z | ⟨n, hn, rfl⟩
  · exact Or.inl (z.elim Or.inl (fun y => Or.inr (Or.inl y)))
  · refine Or.inr ⟨n, hn, ?_, rfl⟩
    rcases Nat.lt_or_ge 300 n with z | z
    · exact absurd ((nlt_nI (a := 300) (by omega) (by omega)).mpr z) q
    · exact z
/-- the men's names, by the relation -/
theorem RM.mnA {I : Im} {J : Jm} {R : Rm} (hB : Bd I) (h : RM I J R) : MnA (J 104) (I 102 0).toInt.toNat (R 1 7) I J := by
  have b := Bd.men hB
  refine ⟨by omega, h.1.1.trans (Int32.toInt_inj.mp (by rw [nI_toInt (by omega)]; omega)), fun k hk => ?_⟩
  exact (h.1.2.2 k (by omega) (by omega)).trans (by rw [Nat.zero_add])
theorem RM.mnR {I I1 : Im} {J J1 : Jm} (hB : Bd I) (e0 : I1 102 0 = I 102 0) (e104 : J1 104 = J 104) : MnR (J 104) (I 102 0).toInt.toNat I1 J1 := by
  have b := Bd.men hB
  exact ⟨by omega, e0.trans (Int32.toInt_inj.mp (by rw [nI_toInt (by omega)]; omega)), fun k hk => by rw [e104]⟩
end PT9x3
section PT9x4
/-! ===== rows of slices, purely ===== -/
noncomputable def pt (d : Nat) : Int := 2329089562800 / (d : Int)
theorem pt_b' : ∀ d, d < 31 → 1 ≤ d → 0 < pt d ∧ pt d ≤ 2329089562800 ∧ pt d * (d : Int) = 2329089562800 := by decide +kernel
theorem pt_b {d : Nat} (h1 : 1 ≤ d) (h2 : d ≤ 30) : 0 < pt d ∧ pt d ≤ 2329089562800 ∧ pt d * (d : Int) = 2329089562800 := pt_b' d (by omega) h1
/-- all rows of k slices out of the last f ones, members of S, that are together l; the first ones first -/
noncomputable def rws (S : Nat → Bool) : Nat → Nat → Int → List (List Nat)
  | 0, 0, l => if l = 0 then [[]] else []
  | 0, _ + 1, _ => []
  | _ + 1, 0, l => if l = 0 then [[]] else []
  | f + 1, k + 1, l => (if S (30 - f) = true then (rws S f k (l - pt (30 - f))).map (fun r => (30 - f) :: r) else []) ++ rws S f (k + 1) l
end PT9x4
section PT9x5
/-! ===== the class's rows of slices, exactly ===== -/
theorem tl_mul9 {x y : Int64} {a b : Int} (hx : x.toInt = a) (hy : y.toInt = b) (h : -9223372036854775808 ≤ a * b ∧ a * b < 9223372036854775808) : (x * y).toInt = a * b := by rw [Int64.toInt_mul, hx, hy]; exact tl_bmod h.1 h.2
set_option maxRecDepth 100000 in
theorem ptL : ∀ d : Nat, d < 31 → 1 ≤ d → (Int32.toInt64 1 * (2329089562800 / Int32.toInt64 (nI d))).toInt = pt d ∧ (2329089562800 / Int32.toInt64 (nI d)).toInt = pt d ∧ ¬ Int32.toInt64 (nI d) = 0 := by decide +kernel
noncomputable def bl (b : Bool) : Int32 := if b = true then 1 else 0
noncomputable def SA (A : Int32) (d : Nat) : Bool := inS A (nI d)
section CRW
variable {d : Nat} {I : Im} {J : Jm} {R : Rm} {Q : Qt}
theorem px_cr1 {n : Nat} (h1 : 1 ≤ n) (h2 : n ≤ 30) (hQ : ∀ y : Int64, y.toInt = pt n → Q 0 y I J R) : AM (d + 1) 167 112 [.int 1, .int (nI n)] I J R Q :=
  w_X11_crumbs ⟨fun _ => ⟨(ptL n (by omega) h1).2.2, hQ _ (ptL n (by omega) h1).1⟩, fun c => absurd ((nle_nI (a := 1) (by omega) (by omega)).mpr h1) c⟩
end CRW
end PT9x5
section PT9x6
/-! ===== the reference's rows of slices, exactly ===== -/
section CRR
variable {I : Im} {J : Jm} {R : Rm}
theorem px_parts {d n : Nat} {Q : Qt} (h1 : 1 ≤ n) (h2 : n ≤ 30) (hQ : ∀ y : Int64, y.toInt = pt n → Q 0 y I J R) : AM (d + 1) 240 112 [.int (nI n)] I J R Q :=
  w_X12_partsOf ⟨(ptL n (by omega) h1).2.2, hQ _ (ptL n (by omega) h1).2.1⟩
end CRR
end PT9x6
section PT9x7
/-! ===== rows looked for, on both sides ===== -/
/-- the first of the rows of the fewest, from n on -/
noncomputable def fwR (S : Nat → Bool) (l : Int) : Nat → Nat → Option (List Nat)
  | 0, _ => none
  | f + 1, n => match rws S 30 n l with
    | [] => fwR S l f (n + 1)
    | r :: _ => some r
noncomputable def fwC (S : Nat → Bool) (l : Int) : Option (List Nat) := if l = 0 then some [] else if l < 0 then none else fwR S l 5 1
section RWL
variable {I : Im} {J : Jm} {R : Rm} {Q : Qt}
/-! the reference -/
/-! the class -/
end RWL
end PT9x7
