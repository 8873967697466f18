section PT9x0
/-! ===== the reference reads days: readStep ===== -/
noncomputable abbrev WE : Nat → Nat → Prop := fun c k => (c = 97 ∧ (k ∈ msB ∨ k = 27)) ∨ (c = 102 ∧ 1350 ≤ k)
noncomputable abbrev FrE (I : Im) (J : Jm) (I2 : Im) (J2 : Jm) : Prop := FrW WE VM I J I2 J2
theorem FrW.me {I I2 : Im} {J J2 : Jm} (h : FrM I J I2 J2) : FrE I J I2 J2 := h.up (fun _ _ q => Or.inl ⟨q.1, Or.inl q.2⟩) (fun _ _ q => q)
theorem FrW.ke {w : Nat} {I I2 : Im} {J J2 : Jm} (hw : 1350 ≤ w) (h : FrK w I J I2 J2) : FrE I J I2 J2 := h.up (fun _ _ q => q.elim (fun z => Or.inl ⟨z.1, Or.inl z.2⟩) (fun z => Or.inr ⟨z.1, by omega⟩)) (fun _ _ q => q)
theorem MnR.e {N : Nat → Int64} {m : Nat} {I I2 : Im} {J J2 : Jm} (h : MnR N m I J) (hF : FrE I J I2 J2) : MnR N m I2 J2 :=
  ⟨h.1, (hF.i (by rintro (q | q) <;> omega)).trans h.2.1, fun k hk => (hF.j (by intro q; have := q.1; omega)).trans (h.2.2 k hk)⟩
section RDF
variable {T : Nat → Int32} {e m : Nat} {N : Nat → Int64} {R : Rm}
set_option maxHeartbeats 2000000 in
theorem px_rs1 (lv : Nat) : (∀ l, l + 1 = lv → ∀ (D : Nat) (s : DS) (a f : Nat) (r : Rs DS) (I : Im) (J : Jm) (Q : Qt), l ≤ D → dD s + l = 3 → MnR N m I J → Mr T e a I J → MDs s I → DOk s → DSp s → e < a + f → r = dyB T e N m f s a → (¬ tI (tok T e a) = 20 ∨ dD s = 0) → ¬ (tK (tok T e a) = 0 ∧ dD s = 0) →
    (∀ q I2 J2, r = .error q → FrE I J I2 J2 → FtM q I2 → Q 0 0 I2 J2 R) →
    (∀ s2 b f2 I2 J2, r = dyB T e N m f2 s2 b → dD s2 = dD s → (∀ k, k < dD s → dOs s2 k = dOs s k) → e < b + f2 → a < b → FrE I J I2 J2 → Mr T e b I2 J2 → MDs s2 I2 → DOk s2 → DSp s2 → Q 0 0 I2 J2 R) → AM (D + 8) 236 112 [.ref 97, .int (nI (dD s))] I J R Q) →
    ∀ (D : Nat) (s : DS) (a f : Nat) (r : Rs DS) (I : Im) (J : Jm) (Q : Qt), lv ≤ D → dD s + lv = 3 → MnR N m I J → Mr T e a I J → MDs s I → DOk s → DSp s → e < a + f → r = dyB T e N m f s a → (¬ tI (tok T e a) = 20 ∨ dD s = 0) → ¬ (tK (tok T e a) = 0 ∧ dD s = 0) →
    (∀ q I2 J2, r = .error q → FrE I J I2 J2 → FtM q I2 → Q 0 0 I2 J2 R) →
    (∀ s2 b f2 I2 J2, r = dyB T e N m f2 s2 b → dD s2 = dD s → (∀ k, k < dD s → dOs s2 k = dOs s k) → e < b + f2 → a < b → FrE I J I2 J2 → Mr T e b I2 J2 → MDs s2 I2 → DOk s2 → DSp s2 → Q 0 0 I2 J2 R) → AM (D + 8) 236 112 [.ref 97, .int (nI (dD s))] I J R Q := by
  intro ihl D s a f r I J Q hlv h3 hm h hs hD hSp hf hr ht20 ht0 hE hK
  have ha := h.ha
  have he := h.he
  obtain ⟨h30, hd3, hLL, -, hOs⟩ := id hD
  obtain ⟨f, rfl⟩ : ∃ g, f = g + 1 := ⟨f - 1, by omega⟩
  have eB : dyB T e N m (f + 1) s a = if tK (tok T e a) = 0 then (if dD s = 0 then .ok (s, a) else .error (mis T e a)) else rb (if tI (tok T e a) = 20 then dyE T e s a else dyS T e N m s a) fun s b => dyB T e N m f s b := rfl
  rw [eB] at hr
  refine am_X12_readStep (fun P hc => sg_X12_readStep_0 hc _ _ _ _ (px_stepWord h ?_))
  have F83 : ∀ (q : Nat × Nat) (v2 v3 : Int32) (I2 : Im) (J2 : Jm), r = .error q → FrE I J I2 J2 → FtM q I2 → P 83 112 [(0, .ref 97), (1, .int (nI (dD s))), (2, .int v2), (3, .int v3)] [] I2 J2 R := fun q v2 v3 I2 J2 hq hF hf => sg_X12_readStep_83 hc _ _ _ _ _ _ ⟨fun c => absurd c hf.ne.2.1, fun _ => hE q I2 J2 hq hF hf⟩
  have F57 : ∀ (q : Nat × Nat) (v2 v3 : Int32) (I2 : Im) (J2 : Jm), r = .error q → FrE I J I2 J2 → FtM q I2 → P 57 112 [(0, .ref 97), (1, .int (nI (dD s))), (2, .int v2), (3, .int v3)] [] I2 J2 R := fun q v2 v3 I2 J2 hq hF hf => sg_X12_readStep_57 hc _ _ _ _ _ _ ⟨fun _ => F83 q v2 v3 I2 J2 hq hF hf, fun c => absurd c hf.ne.1⟩
  have F31 : ∀ (q : Nat × Nat) (v2 v3 : Int32) (I2 : Im) (J2 : Jm), r = .error q → FrE I J I2 J2 → FtM q I2 → P 31 112 [(0, .ref 97), (1, .int (nI (dD s))), (2, .int v2), (3, .int v3)] [] I2 J2 R := fun q v2 v3 I2 J2 hq hF hf => sg_X12_readStep_31 hc _ _ _ _ _ _ ⟨fun _ => F57 q v2 v3 I2 J2 hq hF hf, fun c => absurd c hf.ne.1⟩
  by_cases hi : isSt (tI (tok T e a)) = true
  · have k0 : ¬ tK (tok T e a) = 0 := by have := tI_k (isSt_n hi); omega
    have i20 : ¬ tI (tok T e a) = 20 := fun z => by rw [z] at hi; exact absurd hi (by decide)
    rw [if_neg k0, if_neg i20] at hr
    have h27 := hs.1
    have G83 : ∀ v3 : Int32, ((v3 = 1 ∧ isBk (tI (tok T e a)) = true) ∨ (v3 = 0 ∧ isBk (tI (tok T e a)) = false)) → ¬ dN s = 30 → ¬ (isBk (tI (tok T e a)) = true ∧ dD s = 3) → P 83 112 [(0, .ref 97), (1, .int (nI (dD s))), (2, .int (stW (tI (tok T e a)))), (3, .int v3)] [] I J R := by
      intro v3 hv n30 n3
      have hSr : dyS T e N m s a = rb (dyA T e N m (tI (tok T e a)) (tB (tok T e a))) fun c b => rb (tkS T e b) fun _ b => .ok (if isBk (tI (tok T e a)) = true then dsB s c else dsA s c, b) := by
        unfold dyS; rw [if_pos hi, if_neg n30, if_neg n3]
      rw [hSr] at hr
      have hw1 : 1350 ≤ 1350 + 9 * dN s ∧ 1350 + 9 * dN s + 8 < 1620 := by omega
      have ew : (1350 : Int32) + 9 * nI (dN s) = nI (1350 + 9 * dN s) := by
        rw [show (9 : Int32) = nI 9 from rfl, nI_mul (by omega) (by omega) (by omega), show (1350 : Int32) = nI 1350 from rfl, nI_add]
      have hb9 := tB_lt (T := T) ha k0
      refine sg_X12_readStep_83 hc _ _ _ _ _ _ ⟨fun _ => ?_, fun c => absurd h.le.1 c⟩
      rw [h27, ew, nI_k1]
      generalize hwd : 1350 + 9 * dN s = w at hw1 ew
      have h0 : Mr T e a (uI I 97 27 (nI (dN s + 1))) J := h.o (fun k hk => rd_k (by omega)) (uI_ne (by decide)) rfl
      have hF0 : FrE I J (uI I 97 27 (nI (dN s + 1))) J := FrW.rf.u (Or.inl ⟨rfl, Or.inr rfl⟩)
      have vw : vp_in (nI w) 1620 := vp_of (a := (w : Int)) (nI_toInt (by omega)) (by omega) (by omega)
      refine px_mad h0 (fun I1 J1 hF1 h1 => ⟨vw, ?_⟩)
      rw [tn_nI (by omega)]
      have hFw : FrE I J (uI I1 102 w (stW (tI (tok T e a)))) J1 := (hF0.tr hF1.me).u (Or.inr ⟨rfl, by omega⟩)
      refine px_rest hi ⟨by omega, by omega⟩ rd_eq (hm.e hFw) (h1.w_ (Or.inl (by decide)) (by decide)) (fun q I2 J2 hq hF hf => px_isSignA (fun x _ _ => px_mustB hf (px_s142 hw1.2 hf hc (hE q _ J2 ?_ ((hFw.tr (hF.ke (by omega))).u (Or.inr ⟨rfl, by omega⟩)) (hf.w_ (Or.inl (by decide))))))) (fun c b I2 J2 hc' hF h2 hrc => ?_)
      · rw [hr]; exact rb_e (rb_e hq)
      have hF2 : FrE I J I2 J2 := hFw.tr (hF.ke (by omega))
      have hbb : a < b := by
        have hu := up_dyA (T := T) (e := e) (N := N) (M := m) (i := tI (tok T e a)) hb9.2
        rw [hc'] at hu
        have hu1 : tB (tok T e a) ≤ b := hu.1
        omega
      refine px_msemi (Q1 := fun _ _ _ _ _ => True) (fun _ _ _ z => z) h2 (fun q I3 J3 hq hF3 hf => px_s142 hw1.2 hf hc (hE q _ J3 ?_ ((hF2.tr hF3.me).u (Or.inr ⟨rfl, by omega⟩)) (hf.w_ (Or.inl (by decide))))) (fun b3 I3 J3 hb3 hF3 hM3 => ?_)
      · rw [hr]; exact rb_e (by rw [rb_k hc']; exact rb_e hq)
      have hr2 : r = dyB T e N m f (if isBk (tI (tok T e a)) = true then dsB s c else dsA s c) b3 := by
        rw [hr, rb_k hc', rb_k hb3]; rfl
      have hb3b : b < b3 := by
        have hu := up_tkS (T := T) (e := e) h2.ha
        rw [hb3] at hu
        exact hu.1
      have e102 : I3 102 = I2 102 := hF3.c (by intro k q; exact absurd q.1 (by decide))
      have g27 : I3 97 27 = nI (dN s + 1) := by
        rw [hF3.i (by intro q; exact absurd q.2 (by decide)), hF.i (by rintro (q | q); exact absurd q.2 (by decide); exact absurd q.1 (by decide)), rd_ne (by decide), hF1.i (by intro q; exact absurd q.2 (by decide)), rd_eq]
      have old : ∀ k, k < w → I3 102 k = I 102 k := fun k hk => by
        rw [e102, hF.i (by rintro (q | q); exact absurd q.1 (by decide); omega), rd_k (by omega), hF1.i (by intro q; exact absurd q.1 (by decide)), rd_ne (by decide)]
      have gw : I3 102 w = kcR c.1 := by
        rw [e102, hF.i (by rintro (q | q); exact absurd q.1 (by decide); omega), rd_eq, dyA_k hi hc']
      have hrc3 : RcO c (I3 102) w := by rw [e102]; exact hrc
      have hF3e : FrE I J I3 J3 := hF2.tr hF3.me
      have k8 : Int32.toNatClampNeg (nI w + 8) = w + 8 := by rw [show (8 : Int32) = nI 8 from rfl, wk_k (by omega), tn_nI (by omega)]
      have v8 : vp_in (nI w + 8) 1620 := by rw [show (8 : Int32) = nI 8 from rfl, wk_k (by omega)]; exact vp_of (a := ((w + 8 : Nat) : Int)) (nI_toInt (by omega)) (by omega) (by omega)
      rcases hv with ⟨rfl, hb⟩ | ⟨rfl, hb⟩
      · rw [if_pos hb] at hr2
        have hd : ¬ dD s = 3 := fun z => n3 ⟨hb, z⟩
        obtain ⟨l, rfl⟩ : ∃ l, lv = l + 1 := ⟨lv - 1, by omega⟩
        obtain ⟨D, rfl⟩ : ∃ D', D = D' + 1 := ⟨D - 1, by omega⟩
        have L : ∀ (g : Nat) (σ : DS) (a2 f2 : Nat) (I4 : Im) (J4 : Jm), e < a2 + g → r = dyB T e N m f2 σ a2 → dD σ = dD s + 1 → (∀ k, k < dD s → dOs σ k = dOs s k) → dOs σ (dD s) = dN s → e < a2 + f2 → a < a2 → FrE I J I4 J4 → Mr T e a2 I4 J4 → MDs σ I4 → DOk σ → DSp σ → P 142 112 [(0, .ref 97), (1, .int (nI (dD s))), (3, .int 1), (4, .int (nI w))] [] I4 J4 R := by
          intro g
          induction g with
          | zero => intro σ a2 f2 I4 J4 hg _ _ _ _ _ _ _ hM; have := hM.ha; omega
          | succ g ih =>
            intro σ a2 f2 I4 J4 hg hrσ hdσ hOσ hOn hf2 hlt hFσ hM hsσ hDσ hSσ
            have ha2 := hM.ha
            have hnσ : dN s < dN σ := by have := hDσ.2.2.2.2 (dD s) (by omega); omega
            refine sg_X12_readStep_142 hc _ _ _ _ _ _ ⟨fun z => absurd z (by decide), fun _ => ⟨fun z => absurd hM.f z, fun _ => px_isEnd hM (fun t20 _ => ⟨fun _ => ?_, fun z => absurd z (by decide)⟩) (fun n20 _ => ⟨fun z => absurd rfl z, fun _ => ?_⟩)⟩⟩
            · -- the block's end
              have kk : ¬ tK (tok T e a2) = 0 := by have := tI_k (t := tok T e a2) (by rw [t20]; decide); omega
              obtain ⟨f2, rfl⟩ : ∃ f', f2 = f' + 1 := ⟨f2 - 1, by omega⟩
              have e2 : dyB T e N m (f2 + 1) σ a2 = if tK (tok T e a2) = 0 then (if dD σ = 0 then .ok (σ, a2) else .error (mis T e a2)) else rb (if tI (tok T e a2) = 20 then dyE T e σ a2 else dyS T e N m σ a2) fun s b => dyB T e N m f2 s b := rfl
              rw [e2, if_neg kk, if_pos t20] at hrσ
              have eE : dyE T e σ a2 = rb (tkS T e (tB (tok T e a2))) fun _ b => .ok (dsE σ, b) := by unfold dyE; rw [if_neg (by omega)]
              rw [eE] at hrσ
              have hb2 := tB_lt (T := T) ha2 kk
              refine sg_X12_readStep_170 hc _ _ _ _ _ ⟨fun z => absurd z (by decide), fun _ => px_isEnd hM (fun _ _ => px_mustY hM (fun I5 J5 hF5 h5 => ?_)) (fun z => absurd t20 z)⟩
              refine px_msemi (Q1 := fun _ _ _ _ _ => True) (fun _ _ _ z => z) h5 (fun q I6 J6 hq hF6 hf => ⟨v8, ?_⟩) (fun b6 I6 J6 hb6 hF6 h6 => ⟨v8, ?_⟩)
              · rw [k8]
                exact hE q _ J6 (by rw [hrσ]; exact rb_e (rb_e hq)) (((hFσ.tr hF5.me).tr hF6.me).u (Or.inr ⟨rfl, by omega⟩)) (hf.w_ (Or.inl (by decide)))
              · have h27e : I6 97 27 = nI (dN σ) := by
                  rw [hF6.i (by intro q; exact absurd q.2 (by decide)), hF5.i (by intro q; exact absurd q.2 (by decide))]; exact hsσ.1
                have e6 : I6 102 = I4 102 := (hF6.c (by intro k q; exact absurd q.1 (by decide))).trans (hF5.c (by intro k q; exact absurd q.1 (by decide)))
                have hu : tB (tok T e a2) < b6 := by
                  have hu := up_tkS (T := T) (e := e) h5.ha
                  rw [hb6] at hu
                  exact hu.1
                rw [k8, h27e]
                subst hwd
                refine hK (dsE σ) b6 f2 _ J6 (by rw [hrσ, rb_k hb6]; rfl) (show dD σ - 1 = dD s by omega) (fun k hk => hOσ k hk) (by omega) (by omega) (((hFσ.tr hF5.me).tr hF6.me).u (Or.inr ⟨rfl, by omega⟩)) (h6.w_ (Or.inl (by decide)) (by decide)) (MDs.fin hsσ hSσ (by omega) (show dOs σ (dD σ - 1) = dN s by rw [hdσ]; exact hOn) hnσ ?_ (fun k k1 k2 k3 => ?_) rd_eq) (hDσ.e (by omega)) hSσ.e
                · rw [rd_ne (by decide)]; exact h27e
                · rw [rd_k k2, e6]
            · -- a step within
              have e1 : nI (dD s) + 1 = nI (dD σ) := by rw [nI_k1, hdσ]
              rw [e1]
              exact ihl l rfl D σ a2 f2 r I4 J4 _ (by omega) (by omega) (hm.e hFσ) hM hsσ hDσ hSσ hf2 hrσ (Or.inl n20) (fun z => by omega) (fun q I5 J5 hq hF5 hf => px_s142 hw1.2 hf hc (hE q _ J5 hq ((hFσ.tr hF5).u (Or.inr ⟨rfl, by omega⟩)) (hf.w_ (Or.inl (by decide))))) (fun s2 b5 f5 I5 J5 hr5 hd5 hO5 hf5 hlt5 hF5 h5 hs5 hD5 hS5 => ih s2 b5 f5 I5 J5 (by omega) hr5 (by omega) (fun k hk => (hO5 k (by omega)).trans (hOσ k hk)) ((hO5 (dD s) (by omega)).trans hOn) hf5 (by omega) (hFσ.tr hF5) h5 hs5 hD5 hS5)
        refine L (e + 1) (dsB s c) b3 f I3 J3 (by omega) hr2 rfl (fun k hk => upN_i (by omega)) upN_s (by omega) (by omega) hF3e hM3 ?_ (hD.b n30 hd) hSp.b
        subst hwd
        exact MDs.new hs hSp rfl rfl rfl (fun t ht => rfl) (fun t ht z => by
          obtain ⟨k, k1, k2⟩ := z
          exact ⟨k, show k < dD s + 1 by omega, by show upN (dOs s) (dD s) (dN s) k = t; rw [upN_i (by omega)]; exact k2⟩) g27 (fun k k1 k2 => old k k2) gw hrc3 (fun no => absurd ⟨dD s, show dD s < dD s + 1 by omega, upN_s⟩ no)
      · rw [if_neg (by rw [hb]; decide)] at hr2
        refine sg_X12_readStep_142 hc _ _ _ _ _ _ ⟨fun _ => sg_X12_readStep_170 hc _ _ _ _ _ ⟨fun _ => ⟨v8, ?_⟩, fun z => absurd rfl z⟩, fun z => absurd rfl z⟩
        rw [k8, g27]
        subst hwd
        refine hK (dsA s c) b3 f _ J3 hr2 rfl (fun _ _ => rfl) (by omega) (by omega) (hF3e.u (Or.inr ⟨rfl, by omega⟩)) (hM3.w_ (Or.inl (by decide)) (by decide)) (MDs.new hs hSp rfl rfl rfl (fun t ht => upN_i (by omega)) (fun t ht z => z) ?_ (fun k k1 k2 => ?_) ?_ ?_ (fun _ => ?_)) (hD.a n30) hSp.a
        · rw [rd_ne (by decide)]; exact g27
        · rw [rd_k (by omega)]; exact old k k2
        · rw [rd_k (by omega)]; exact gw
        · exact hrc3.cp (fun k k1 k2 => rd_k (by omega))
        · rw [rd_eq]
          show nI (dN s + 1) = nI (upN (dNx s) (dN s) (dN s + 1) (dN s))
          rw [upN_s]
    have G57 : ∀ v3 : Int32, ((v3 = 1 ∧ isBk (tI (tok T e a)) = true) ∨ (v3 = 0 ∧ isBk (tI (tok T e a)) = false)) → ¬ dN s = 30 → P 57 112 [(0, .ref 97), (1, .int (nI (dD s))), (2, .int (stW (tI (tok T e a)))), (3, .int v3)] [] I J R := by
      intro v3 hv n30
      refine sg_X12_readStep_57 hc _ _ _ _ _ _ ⟨fun c => absurd h.f c, fun _ => ⟨fun c => ?_, fun c => ⟨fun c3 => ?_, fun c3 => ?_⟩⟩⟩
      · refine G83 v3 hv n30 (fun z => ?_)
        rcases hv with ⟨y, _⟩ | ⟨_, y⟩
        · rw [y] at c; exact absurd c (by decide)
        · rw [y] at z; exact absurd z.1 (by decide)
      · exact G83 v3 hv n30 (fun z => c3 (by rw [z.2]; rfl))
      · have d3 : dD s = 3 := (nK (a := dD s) (b := 3) (by omega) (by omega)).mp c3
        have hb : isBk (tI (tok T e a)) = true := by
          rcases hv with ⟨_, y⟩ | ⟨y, _⟩
          · exact y
          · exact absurd y c
        have eS : dyS T e N m s a = .error (7, tS (tok T e a)) := by unfold dyS; rw [if_pos hi, if_neg n30, if_pos ⟨hb, d3⟩]
        rw [eS] at hr
        exact px_fail (k := 7) h (by decide) h.s (fun I2 hF hf => F83 _ _ _ I2 J hr hF.me hf)
    have G31 : ∀ v3 : Int32, ((v3 = 1 ∧ isBk (tI (tok T e a)) = true) ∨ (v3 = 0 ∧ isBk (tI (tok T e a)) = false)) → P 31 112 [(0, .ref 97), (1, .int (nI (dD s))), (2, .int (stW (tI (tok T e a)))), (3, .int v3)] [] I J R := by
      intro v3 hv
      refine sg_X12_readStep_31 hc _ _ _ _ _ _ ⟨fun c => absurd h.f c, fun _ => ?_⟩
      rw [h27]
      refine ⟨fun c => G57 v3 hv (fun z => c (by rw [z]; rfl)), fun c => ?_⟩
      have n30 : dN s = 30 := (nK (a := dN s) (b := 30) (by omega) (by omega)).mp c
      have eS : dyS T e N m s a = .error (6, tS (tok T e a)) := by unfold dyS; rw [if_pos hi, if_pos n30]
      rw [eS] at hr
      exact px_fail (k := 6) h (by decide) h.s (fun I2 hF hf => F57 _ _ _ I2 J hr hF.me hf)
    have pl : ∀ k : Int32, tI (tok T e a) = k → isBk k = false → (0 : Int32) ≤ stW k → ¬ stW k = 6 → ¬ stW k = 7 → ((stW (tI (tok T e a)) = 6 → P 17 112 [(0, .ref 97), (1, .int (nI (dD s))), (2, .int (stW (tI (tok T e a))))] [] I J R) ∧ (¬ stW (tI (tok T e a)) = 6 → ((¬ stW (tI (tok T e a)) = 7 → (((0 : Int32) ≤ stW (tI (tok T e a)) → P 31 112 [(0, .ref 97), (1, .int (nI (dD s))), (2, .int (stW (tI (tok T e a)))), (3, .int 0)] [] I J R) ∧ (¬ (0 : Int32) ≤ stW (tI (tok T e a)) → (AM (D + 7) 213 112 [.ref 97] I J R (fun x2 y2 I2 J2 R2 => P 31 112 [(0, .ref 97), (1, .int (nI (dD s))), (2, .int (stW (tI (tok T e a)))), (3, .int 0)] [] I2 J2 R))))) ∧ (stW (tI (tok T e a)) = 7 → P 17 112 [(0, .ref 97), (1, .int (nI (dD s))), (2, .int (stW (tI (tok T e a))))] [] I J R)))) := fun k ek hb h0 h6 h7 => by
      have g := G31 0 (Or.inr ⟨rfl, by rw [ek]; exact hb⟩)
      rw [ek] at g ⊢
      exact ⟨fun c => absurd c h6, fun _ => ⟨fun _ => ⟨fun _ => g, fun c => absurd h0 c⟩, fun c => absurd c h7⟩⟩
    have bl : isBk (tI (tok T e a)) = true → (0 : Int32) ≤ stW (tI (tok T e a)) → P 17 112 [(0, .ref 97), (1, .int (nI (dD s))), (2, .int (stW (tI (tok T e a))))] [] I J R := fun hb h0 => sg_X12_readStep_17 hc _ _ _ _ _ ⟨fun _ => G31 1 (Or.inl ⟨rfl, hb⟩), fun c => absurd h0 c⟩
    rcases isSt_c hi with z | z | z | z | z | z | z | z | z
    · exact pl 9 z (by decide) (by decide) (by decide) (by decide)
    · exact pl 10 z (by decide) (by decide) (by decide) (by decide)
    · exact pl 11 z (by decide) (by decide) (by decide) (by decide)
    · exact pl 12 z (by decide) (by decide) (by decide) (by decide)
    · exact pl 13 z (by decide) (by decide) (by decide) (by decide)
    · exact pl 14 z (by decide) (by decide) (by decide) (by decide)
    · have g := bl (by rw [z]; decide) (by rw [z]; decide)
      rw [z] at g ⊢
      exact ⟨fun _ => g, fun c => absurd rfl c⟩
    · have g := bl (by rw [z]; decide) (by rw [z]; decide)
      rw [z] at g ⊢
      exact ⟨fun c => absurd c (by decide), fun _ => ⟨fun c => absurd rfl c, fun _ => g⟩⟩
    · exact pl 21 z (by decide) (by decide) (by decide) (by decide)
  · have hi2 : isSt (tI (tok T e a)) = false := by
      cases z : isSt (tI (tok T e a)) with
      | false => rfl
      | true => exact absurd z hi
    rw [stW_n hi2]
    have er : r = .error (mis T e a) := by
      by_cases k0 : tK (tok T e a) = 0
      · rw [if_pos k0, if_neg (fun z => ht0 ⟨k0, z⟩)] at hr
        exact hr
      · rw [if_neg k0] at hr
        by_cases i20 : tI (tok T e a) = 20
        · rw [if_pos i20] at hr
          have d0 := ht20.resolve_left (fun z => z i20)
          have eE : dyE T e s a = .error (mis T e a) := by unfold dyE; rw [if_pos d0]
          rw [eE] at hr; exact hr
        · rw [if_neg i20] at hr
          have eS : dyS T e N m s a = .error (mis T e a) := by unfold dyS; rw [if_neg hi]
          rw [eS] at hr; exact hr
    exact ⟨fun c => absurd c (by decide), fun _ => ⟨fun _ => ⟨fun c => absurd c (by decide), fun _ => px_amiss h (fun I2 hF hf => F31 _ _ _ I2 J er hF.me hf)⟩, fun c => absurd c (by decide)⟩⟩
set_option maxHeartbeats 2000000 in
theorem px_rstep : ∀ (lv D : Nat) (s : DS) (a f : Nat) (r : Rs DS) (I : Im) (J : Jm) (Q : Qt), lv ≤ D → dD s + lv = 3 → MnR N m I J → Mr T e a I J → MDs s I → DOk s → DSp s → e < a + f → r = dyB T e N m f s a → (¬ tI (tok T e a) = 20 ∨ dD s = 0) → ¬ (tK (tok T e a) = 0 ∧ dD s = 0) →
    (∀ q I2 J2, r = .error q → FrE I J I2 J2 → FtM q I2 → Q 0 0 I2 J2 R) →
    (∀ s2 b f2 I2 J2, r = dyB T e N m f2 s2 b → dD s2 = dD s → (∀ k, k < dD s → dOs s2 k = dOs s k) → e < b + f2 → a < b → FrE I J I2 J2 → Mr T e b I2 J2 → MDs s2 I2 → DOk s2 → DSp s2 → Q 0 0 I2 J2 R) → AM (D + 8) 236 112 [.ref 97, .int (nI (dD s))] I J R Q := by
  intro lv
  induction lv with
  | zero => exact px_rs1 0 (fun l hl => absurd hl (by omega))
  | succ l ih => exact px_rs1 (l + 1) (fun k hk => by
      obtain rfl : k = l := by omega
      exact ih)
end RDF
end PT9x0
section PT9x1
/-! ===== the reference's days() ===== -/
noncomputable abbrev WG : Nat → Nat → Prop := fun c k => (c = 97 ∧ (k ∈ msD ∨ k = 27)) ∨ (c = 102 ∧ ((52 ≤ k ∧ k < 324) ∨ 1350 ≤ k))
noncomputable abbrev FrG (I : Im) (J : Jm) (I2 : Im) (J2 : Jm) : Prop := FrW WG VM I J I2 J2
theorem FrW.eg {I I2 : Im} {J J2 : Jm} (h : FrE I J I2 J2) : FrG I J I2 J2 := h.up (fun _ _ q => q.elim (fun z => Or.inl ⟨z.1, z.2.elim (fun y => Or.inl ((show ∀ k, k ∈ msB → k ∈ msD by decide) _ y)) (fun y => Or.inr y)⟩) (fun z => Or.inr ⟨z.1, Or.inr z.2⟩)) (fun _ _ q => q)
section RDG
variable {d m : Nat} {T : Nat → Int32} {N : Nat → Int64} {I : Im} {J : Jm} {R : Rm} {Q : Qt}
theorem px_mdN {v : Int32} {f : Nat} (hf : f ≤ 900) (h8 : I 97 8 = nI f) (hv : v < 0 ∨ nI f < v ∨ 300 < v) (hQ : ∀ I2, FrW (WM [0, 1]) nV I J I2 J → Q (-1) 0 I2 J R) : AM (d + 12) 237 112 [.ref 97, .int v] I J R Q := by
  have hF : FrW (WM [0, 1]) nV I J (uI (uI I 97 1 0) 97 0 0) J := (FrW.rf.u ⟨rfl, by decide⟩).u ⟨rfl, by decide⟩
  refine am_X12_days (fun P hc => sg_X12_days_0 hc _ _ _ _ (px_startN hf ?_ ?_ (fun I2 hF2 _ => ⟨fun z => absurd rfl z, fun _ => hQ I2 (hF.tr (hF2.up (fun _ _ q => ⟨q.1, (show ∀ k, k ∈ [0] → k ∈ [0, 1] by decide) _ q.2⟩) (fun _ _ q => q)))⟩)))
  · rw [hF.i (by decide)]; exact h8
  · exact hv.elim Or.inl (fun z => Or.inr (z.elim Or.inl (fun y => Or.inr (fun x => ile.mpr x y))))
theorem px_mdY {n f : Nat} (hf : f ≤ 900) (hn : n ≤ f) (h300 : n ≤ 300) (h8 : I 97 8 = nI f) (hB : Byt T) (hT : ∀ i, i < f → I 101 i = T i) (hm : MnR N m I J) (hE : ∀ q I2 J2, dyB T n N m (n + 1) ds0 0 = .error q → FrG I J I2 J2 → I2 97 8 = 0 → FtK q I2 → (∀ k, k < 1350 → I2 102 k = I 102 k) → Q (-1) 0 I2 J2 R)
    (hK : ∀ s b I2 J2, dyB T n N m (n + 1) ds0 0 = .ok (s, b) → DOk s → DSp s → FrG I J I2 J2 → I2 97 8 = 0 → I2 97 10 = 0 → I2 97 11 = -1 → MDs s I2 → I2 102 52 = 1 → I2 102 53 = nI (dN s) → (∀ j, j < 9 * dN s → I2 102 (54 + j) = I2 102 (1350 + j)) → Q (nI (dN s)) 0 I2 J2 R) : AM (d + 12) 237 112 [.ref 97, .int (nI n)] I J R Q := by
  have hF : FrW (WM [0, 1]) nV I J (uI (uI I 97 1 0) 97 0 0) J := (FrW.rf.u ⟨rfl, by decide⟩).u ⟨rfl, by decide⟩
  refine am_X12_days (fun P hc => sg_X12_days_0 hc _ _ _ _ (px_startY (T := T) hf hn ?_ ?_ hB ?_ (fun I2 J2 hF2 h28 h2 _ => ⟨fun _ => ?_, fun z => absurd z (by decide)⟩)))
  · exact (nle_nI (b := 300) (by omega) (by omega)).mpr h300
  · rw [hF.i (by decide)]; exact h8
  · intro i hi; rw [hF.i (by intro q; exact absurd q.1 (by decide))]; exact hT i hi
  have hFs : FrG I J I2 J2 := (hF.up (fun _ _ q => Or.inl ⟨q.1, Or.inl ((show ∀ k, k ∈ [0, 1] → k ∈ msD by decide) _ q.2)⟩) nV.up).tr (hF2.up (fun _ _ q => Or.inl ⟨q.1, Or.inl ((show ∀ k, k ∈ [8, 9, 12, 14, 15, 16, 17, 18] → k ∈ msD by decide) _ q.2)⟩) (fun _ _ q => q))
  have e102 : I2 102 = I 102 := (hF2.c (WM.no (by decide))).trans (hF.c (WM.no (by decide)))
  have hFa : FrG I J (uI I2 97 27 0) J2 := hFs.u (Or.inl ⟨rfl, Or.inr rfl⟩)
  have hMa : Mr T n 0 (uI I2 97 27 0) J2 := h2.o (fun k hk => rd_k (by omega)) (uI_ne (by decide)) rfl
  have a8 : uI I2 97 27 0 97 8 = 0 := (rd_k (by decide)).trans h28
  have lo : ∀ k, k < 1350 → uI I2 97 27 0 102 k = I 102 k := fun k _ => by rw [rd_ne (by decide), e102]
  have hma : MnR N m (uI I2 97 27 0) J2 := ⟨hm.1, by rw [lo 0 (by decide)]; exact hm.2.1, fun k hk => by
    rw [hF2.j (by intro q; exact absurd q.1 (by decide))]; exact hm.2.2 k hk⟩
  have hsa : MDs ds0 (uI I2 97 27 0) := ⟨rd_eq, fun t ht => absurd ht (by show ¬ t < 0; omega)⟩
  generalize uI I2 97 27 0 = M at hFa hMa a8 lo hma hsa
  have up3 : ∀ {A B : Im} {JA : Jm}, FrW (WM [0, 10, 11]) nV A JA B JA → FrG A JA B JA := fun hF5 => hF5.up (fun _ _ q => Or.inl ⟨q.1, Or.inl ((show ∀ k, k ∈ [0, 10, 11] → k ∈ msD by decide) _ q.2)⟩) nV.up
  have B50 : ∀ q I4 J4, dyB T n N m (n + 1) ds0 0 = .error q → FrE M J2 I4 J4 → FtM q I4 → P 50 112 [(0, .ref 97)] [] I4 J4 R := fun q I4 J4 hq hF4 hf => by
    refine sg_X12_days_50 hc _ _ _ (px_wellB hf (fun I5 hF5 hk _ => ⟨fun z => absurd rfl z, fun _ => hE q I5 J4 hq ((hFa.tr hF4.eg).tr (up3 hF5)) ?_ hk (fun k hk => ?_)⟩))
    · rw [hF5.i (by decide), hF4.i (by rintro (z | z); exact absurd z.2 (by decide); exact absurd z.1 (by decide))]; exact a8
    · rw [hF5.i (by intro z; exact absurd z.1 (by decide)), hF4.i (by rintro (z | z) <;> omega)]; exact lo k hk
  have C80 : ∀ (s : DS) (b : Nat), dyB T n N m (n + 1) ds0 0 = .ok (s, b) → DOk s → DSp s → ∀ (g k : Nat) (I4 : Im) (J4 : Jm), k + g = 9 * dN s → FrG I J I4 J4 → I4 97 8 = 0 → I4 97 10 = 0 → I4 97 11 = -1 → MDs s I4 → I4 102 52 = 1 → I4 102 53 = nI (dN s) → (∀ j, j < k → I4 102 (54 + j) = I4 102 (1350 + j)) → P 80 112 [(0, .ref 97), (2, .int (nI k))] [] I4 J4 R := by
    intro s b hr hD hS g
    have h30 := hD.1
    have e9 : (9 : Int32) * nI (dN s) = nI (9 * dN s) := by rw [show (9 : Int32) = nI 9 from rfl]; exact nI_mul (by omega) (by omega) (by omega)
    induction g with
    | zero =>
      intro k I4 J4 hk hF4 c8 c10 c11 hM c52 c53 hcp
      refine sg_X12_days_80 hc _ _ _ _ ?_
      rw [hM.1, e9]
      exact ⟨fun _ => hK s b I4 J4 hr hD hS hF4 c8 c10 c11 hM c52 c53 (fun j hj => hcp j (by omega)), fun c => absurd ((nle_nI (by omega) (by omega)).mpr (by omega)) c⟩
    | succ g ih =>
      intro k I4 J4 hk hF4 c8 c10 c11 hM c52 c53 hcp
      refine sg_X12_days_80 hc _ _ _ _ ?_
      have e1 : (1350 : Int32) + nI k = nI (1350 + k) := by rw [show (1350 : Int32) = nI 1350 from rfl]; exact nI_add 1350 k
      have e2 : (54 : Int32) + nI k = nI (54 + k) := by rw [show (54 : Int32) = nI 54 from rfl]; exact nI_add 54 k
      rw [hM.1, e9, e1, e2, tn_nI (by omega), tn_nI (by omega), nI_k1]
      refine ⟨fun c => absurd ((nle_nI (by omega) (by omega)).mp c) (by omega), fun _ => ⟨vp_of (a := ((1350 + k : Nat) : Int)) (nI_toInt (by omega)) (by omega) (by omega), vp_of (a := ((54 + k : Nat) : Int)) (nI_toInt (by omega)) (by omega) (by omega), ?_⟩⟩
      refine ih (k + 1) _ J4 (by omega) (hF4.u (Or.inr ⟨rfl, Or.inl (by omega)⟩)) ((rd_ne (by decide)).trans c8) ((rd_ne (by decide)).trans c10) ((rd_ne (by decide)).trans c11) ⟨(rd_ne (by decide)).trans hM.1, fun t ht => ?_⟩ ((rd_k (by omega)).trans c52) ((rd_k (by omega)).trans c53) (fun j hj => ?_)
      · obtain ⟨g1, g2, g3⟩ := hM.2 t ht
        exact ⟨(rd_k (by omega)).trans g1, g2.cp (fun k k1 k2 => rd_k (by omega)), fun no => (rd_k (by omega)).trans (g3 no)⟩
      · rw [rd_k (show ¬ 1350 + j = 54 + k by omega)]
        by_cases q : j = k
        · subst q; rw [rd_eq]
        · rw [rd_k (by omega)]; exact hcp j (by omega)
  have G50 : ∀ (s : DS) (b : Nat) (I4 : Im) (J4 : Jm), dyB T n N m (n + 1) ds0 0 = .ok (s, b) → DOk s → DSp s → FrE M J2 I4 J4 → Mr T n b I4 J4 → MDs s I4 → P 50 112 [(0, .ref 97)] [] I4 J4 R := by
    intro s b I4 J4 hr hD hS hF4 hM hs
    refine sg_X12_days_50 hc _ _ _ (px_wellG hM.f (fun I5 hF5 k10 k11 _ => ⟨fun _ => ⟨vp_of (a := 52) rfl (by decide) (by decide), vp_of (a := 53) rfl (by decide) (by decide), ?_⟩, fun z => absurd z (by decide)⟩))
    have e27 : I5 97 27 = nI (dN s) := (hF5.i (by intro q; exact absurd q.2 (by decide))).trans hs.1
    have e5 : I5 102 = I4 102 := hF5.c (by intro k q; exact absurd q.1 (by decide))
    have t52 : Int32.toNatClampNeg 52 = 52 := rfl
    have t53 : Int32.toNatClampNeg 53 = 53 := rfl
    have e27b : uI I5 102 52 1 97 27 = nI (dN s) := (rd_ne (by decide)).trans e27
    rw [t52, t53, e27b]
    refine C80 s b hr hD hS (9 * dN s) 0 _ J4 (by omega) ((((hFa.tr hF4.eg).tr (up3 hF5)).u (Or.inr ⟨rfl, Or.inl (by decide)⟩)).u (Or.inr ⟨rfl, Or.inl (by decide)⟩)) ?_ ?_ ?_ ⟨?_, fun t ht => ?_⟩ ?_ rd_eq (fun j hj => absurd hj (by omega))
    · rw [rd_ne (by decide), rd_ne (by decide), hF5.i (by decide), hF4.i (by rintro (z | z); exact absurd z.2 (by decide); exact absurd z.1 (by decide))]; exact a8
    · rw [rd_ne (by decide), rd_ne (by decide)]; exact k10
    · rw [rd_ne (by decide), rd_ne (by decide)]; exact k11
    · rw [rd_ne (by decide)]; exact e27b
    · obtain ⟨g1, g2, g3⟩ := hs.2 t ht
      have e6 : ∀ k, 1350 ≤ k → uI (uI I5 102 52 1) 102 53 (nI (dN s)) 102 k = I4 102 k := fun k hk => by rw [rd_k (by omega), rd_k (by omega), e5]
      exact ⟨(e6 _ (by omega)).trans g1, g2.cp (fun k k1 k2 => e6 k (by omega)), fun no => (e6 _ (by omega)).trans (g3 no)⟩
    · rw [rd_k (by decide), rd_eq]
  have L : ∀ (g : Nat) (s : DS) (a f : Nat) (I4 : Im) (J4 : Jm), n < a + g → dyB T n N m (n + 1) ds0 0 = dyB T n N m f s a → dD s = 0 → n < a + f → FrE M J2 I4 J4 → Mr T n a I4 J4 → MDs s I4 → DOk s → DSp s → P 28 112 [(0, .ref 97)] [] I4 J4 R := by
    intro g
    induction g with
    | zero => intro s a f I4 J4 hg _ _ _ _ hM; have := hM.ha; omega
    | succ g ih =>
      intro s a f I4 J4 hg hr hd hf2 hF4 hM hs hD hS
      have ha := hM.ha
      refine sg_X12_days_28 hc _ _ _ ⟨fun c => absurd hM.f c, fun _ => ⟨fun c => ?_, fun c => ?_⟩⟩
      · have k0 : tK (tok T n a) = 0 := (hM.k_is (n := 0) (by omega)).mp c
        obtain ⟨f, rfl⟩ : ∃ f', f = f' + 1 := ⟨f - 1, by omega⟩
        have e2 : dyB T n N m (f + 1) s a = if tK (tok T n a) = 0 then (if dD s = 0 then .ok (s, a) else .error (mis T n a)) else rb (if tI (tok T n a) = 20 then dyE T n s a else dyS T n N m s a) fun s b => dyB T n N m f s b := rfl
        rw [e2, if_pos k0, if_pos hd] at hr
        exact G50 s a I4 J4 hr hD hS hF4 hM hs
      · have k0 : ¬ tK (tok T n a) = 0 := fun z => c ((hM.k_is (n := 0) (by omega)).mpr z)
        have z0 : (0 : Int32) = nI (dD s) := by rw [hd]; rfl
        rw [z0]
        exact px_rstep 3 (d + 3) s a f _ I4 J4 _ (by omega) (by omega) (hma.e hF4) hM hs hD hS hf2 hr (Or.inr hd) (fun z => k0 z.1) (fun q I5 J5 hq hF5 hf => sg_X12_days_28 hc _ _ _ ⟨fun _ => B50 q I5 J5 hq (hF4.tr hF5) hf, fun c => absurd c hf.ne.1⟩) (fun s2 b f2 I5 J5 hr5 hd5 _ hf5 hlt hF5 h5 hs5 hD5 hS5 => ih s2 b f2 I5 J5 (by omega) hr5 (by omega) hf5 (hF4.tr hF5) h5 hs5 hD5 hS5)
  exact L (n + 1) ds0 0 (n + 1) M J2 (by omega) rfl rfl (by omega) FrW.rf hMa hsa DOk.z DSp.z
end RDG
end PT9x1
section PT9x2
/-! ===== the scribe's days() ===== -/
noncomputable abbrev WD (p : Nat) : Nat → Nat → Prop := fun c k => (c = 1 ∧ k = 0) ∨ c = 3 ∨ c = 7 ∨ c = 8 ∨ (p ≤ c ∧ c ≤ p + 5)
section CDY
variable {d M : Nat} {N : Nat → Int64} {I : Im} {J : Jm} {R : Rm} {Q : Qt}
theorem px_cdN {v : Int32} {f : Nat} (hf : f ≤ 900) (h1 : I 3 1 = nI f) (hv : v < 0 ∨ nI f < v ∨ 300 < v) (hQ : Q (-1) 0 (uI I 1 0 5) J R) : AM (d + 9) 109 112 [.ref 1, .int v] I J R Q := by
  refine am2_of (k := kX11_days) rfl rfl rfl rfl rfl rfl (Nat.le_of_ble_eq_true rfl) (fun P hc => sg_X11_days_0 hc _ _ _ _ ⟨fun _ => w_X11_refuse ⟨rfl, hQ⟩, fun c1 => ⟨fun _ => w_X11_refuse ⟨rfl, hQ⟩, fun c2 => ⟨fun c3 => ?_, fun _ => w_X11_refuse ⟨rfl, hQ⟩⟩⟩⟩)
  rw [h1] at c2
  rcases hv with z | z | z
  · exact absurd z c1
  · exact absurd z c2
  · exact absurd c3 (fun y => ile.mpr y z)
theorem px_cdY {n f : Nat} (hf : f ≤ 900) (hn : n ≤ f) (h3 : n ≤ 300) (h1 : I 3 1 = nI f) (hJ : ∀ k, k < 22 → J 5 k = rsv.getD k 0) (hR : RI R) (hm : MnA N M (R 1 7) I J)
    (hE : ∀ q I2 J2, dyB (I 4) n N M (n + 1) ds0 0 = .error q → FrW (WD (R 1 10)) VR I J I2 J2 → I2 3 1 = 0 → I2 3 3 = 1 → Ft q I2 → Q (-1) 0 I2 J2 R)
    (hK : ∀ s b I2 J2, dyB (I 4) n N M (n + 1) ds0 0 = .ok (s, b) → DOk s → FrW (WD (R 1 10)) VR I J I2 J2 → I2 3 1 = 0 → I2 3 3 = 1 → I2 3 12 = 0 → I2 3 13 = -1 → SDs s (R 1 10) I2 → I2 (R 1 10) 0 = 1 → Q (nI (dN s)) 0 I2 J2 (uR (uR R 1 9 (R 1 10)) 1 10 (R 1 9))) : AM (d + 9) 109 112 [.ref 1, .int (nI n)] I J R Q := by
  have hO := hR.now.1
  have ho := o_ge hO
  have hP := hR.splan.1
  have hp := p_ge hP
  have hop := op_ne hO hP
  refine am2_of (k := kX11_days) rfl rfl rfl rfl rfl rfl (Nat.le_of_ble_eq_true rfl) (fun P hc => sg_X11_days_0 hc _ _ _ _ ⟨fun c => absurd c (nI_pos (by omega)), fun _ => ⟨fun c => ?_, fun _ => ⟨fun _ => ?_, fun c => absurd ?_ c⟩⟩⟩)
  · rw [h1] at c
    have := (nlt_nI (by omega) (by omega)).mp c; omega
  · refine px_open hf hn h1 hJ (fun I2 J2 hF2 h2 h31 h33 => ⟨hR.splan.2, hR.now.2, px_intoD hP hO (by omega) ⟨hm.1, (hF2.i (by omega)).trans hm.2.1, fun k hk => (hF2.j (by intro q; have := q.1; omega)).trans (hm.2.2 k hk)⟩ h2 (fun q I3 J3 he hF3 hf3 _ => ⟨fun z => absurd rfl z, fun _ => w_X11_refuse ⟨rfl, ?_⟩⟩) (fun s b I3 J3 he hF3 hR3 hs3 h0 hD3 _ => ⟨fun _ => ⟨hR.plan.2, hR.splan.2, hR.splan.2, hR.plan.2, ?_⟩, fun z => absurd z (by decide)⟩)⟩)
    · have hFa : FrW (WD (R 1 10)) VR I J (uI I3 1 0 10) J3 := ((hF2.up (fun c k q => Or.inr (Or.inl q)) (fun _ _ q => q)).tr (hF3.up (fun c k q => q.elim (fun z => Or.inr (Or.inl z.1)) (fun z => Or.inr (Or.inr z))) (fun _ _ q => q))).u (Or.inl ⟨rfl, rfl⟩)
      refine hE q _ J3 he hFa ?_ ?_ (hf3.w_ (by decide))
      · rw [rd_ne (by decide), hF3.i (by rintro (q | q | q | q) <;> first | exact absurd q.2 (by decide) | omega)]; exact h31
      · rw [rd_ne (by decide), hF3.i (by rintro (q | q | q | q) <;> first | exact absurd q.2 (by decide) | omega)]; exact h33
    · have e9 : uR (uR R 1 9 (R 1 10)) 1 10 (R 1 9) 1 9 = R 1 10 := by rw [uR_k (by decide), uR_s]
      rw [e9]
      refine ⟨hR.splan.2, bif_t hP (w_X11_answer ⟨rfl, ?_⟩)⟩
      have hFa : FrW (WD (R 1 10)) VR I J (uI I3 1 0 0) J3 := ((hF2.up (fun c k q => Or.inr (Or.inl q)) (fun _ _ q => q)).tr (hF3.up (fun c k q => q.elim (fun z => Or.inr (Or.inl z.1)) (fun z => Or.inr (Or.inr z))) (fun _ _ q => q))).u (Or.inl ⟨rfl, rfl⟩)
      rw [hs3.1]
      refine hK s b _ J3 he hD3 hFa ?_ ?_ ?_ ?_ (hs3.cp (fun c hc => uI_ne (by first | decide | omega))) ((rd_ne (by first | decide | omega)).trans h0)
      · rw [rd_ne (by decide), hF3.i (by rintro (q | q | q | q) <;> first | exact absurd q.2 (by decide) | omega)]; exact h31
      · rw [rd_ne (by decide), hF3.i (by rintro (q | q | q | q) <;> first | exact absurd q.2 (by decide) | omega)]; exact h33
      · rw [rd_ne (by decide)]; exact hR3.f
      · rw [rd_ne (by decide)]; exact hR3.f13
  · exact (nle_nI (b := 300) (by omega) (by omega)).mpr h3
end CDY
end PT9x2
section PT9x3
/-! ===== days(): what it answers ===== -/
theorem dy_v {v : Int32} {f : Nat} (hf : f ≤ 900) : (v < 0 ∨ nI f < v ∨ 300 < v) ∨ ∃ n, n ≤ f ∧ n ≤ 300 ∧ v = nI n := by
  by_cases q : 300 < v
  · exact Or.inl (Or.inr (Or.inr q))
  rcases sp_v (v := v) hf with z | ⟨n, hn, rfl⟩
  · exact Or.inl (z.elim Or.inl (fun y => Or.inr (Or.inl y)))
  · refine Or.inr ⟨n, hn, ?_, rfl⟩
    rcases Nat.lt_or_ge 300 n with z | z
    · exact absurd ((nlt_nI (a := 300) (by omega) (by omega)).mpr z) q
    · exact z
/-- the men's names, by the relation -/
theorem RM.mnA {I : Im} {J : Jm} {R : Rm} (hB : Bd I) (h : RM I J R) : MnA (J 104) (I 102 0).toInt.toNat (R 1 7) I J := by
  have b := Bd.men hB
  refine ⟨by omega, h.1.1.trans (Int32.toInt_inj.mp (by rw [nI_toInt (by omega)]; omega)), fun k hk => ?_⟩
  exact (h.1.2.2 k (by omega) (by omega)).trans (by rw [Nat.zero_add])
theorem RM.mnR {I I1 : Im} {J J1 : Jm} (hB : Bd I) (e0 : I1 102 0 = I 102 0) (e104 : J1 104 = J 104) : MnR (J 104) (I 102 0).toInt.toNat I1 J1 := by
  have b := Bd.men hB
  exact ⟨by omega, e0.trans (Int32.toInt_inj.mp (by rw [nI_toInt (by omega)]; omega)), fun k hk => by rw [e104]⟩
end PT9x3
section PT9x4
/-! ===== rows of slices, purely ===== -/
noncomputable def pt (d : Nat) : Int := 2329089562800 / (d : Int)
set_option maxRecDepth 100000 in
theorem pt_lt' : ∀ d, d < 31 → ∀ e, e < 31 → 1 ≤ d → d < e → pt e < pt d := by decide +kernel
theorem pt_lt {d e : Nat} (h1 : 1 ≤ d) (h : d < e) (h2 : e ≤ 30) : pt e < pt d := pt_lt' d (by omega) e (by omega) h1 h
theorem pt_b' : ∀ d, d < 31 → 1 ≤ d → 0 < pt d ∧ pt d ≤ 2329089562800 ∧ pt d * (d : Int) = 2329089562800 := by decide +kernel
theorem pt_b {d : Nat} (h1 : 1 ≤ d) (h2 : d ≤ 30) : 0 < pt d ∧ pt d ≤ 2329089562800 ∧ pt d * (d : Int) = 2329089562800 := pt_b' d (by omega) h1
/-- all rows of k slices out of the last f ones, members of S, that are together l; the first ones first -/
noncomputable def rws (S : Nat → Bool) : Nat → Nat → Int → List (List Nat)
  | 0, 0, l => if l = 0 then [[]] else []
  | 0, _ + 1, _ => []
  | _ + 1, 0, l => if l = 0 then [[]] else []
  | f + 1, k + 1, l => (if S (30 - f) = true then (rws S f k (l - pt (30 - f))).map (fun r => (30 - f) :: r) else []) ++ rws S f (k + 1) l
theorem rws_0 {S : Nat → Bool} {f : Nat} {l : Int} : rws S f 0 l = if l = 0 then [[]] else [] := by cases f <;> rfl
theorem rws_z {S : Nat → Bool} {k : Nat} {l : Int} : rws S 0 (k + 1) l = [] := rfl
theorem rws_s {S : Nat → Bool} {f k : Nat} {l : Int} : rws S (f + 1) (k + 1) l = (if S (30 - f) = true then (rws S f k (l - pt (30 - f))).map (fun r => (30 - f) :: r) else []) ++ rws S f (k + 1) l := rfl
theorem rws_np {S : Nat → Bool} : ∀ (f k : Nat) (l : Int), f ≤ 30 → l ≤ 0 → rws S f (k + 1) l = [] := by
  intro f
  induction f with
  | zero => intro k l _ _; rfl
  | succ f ih =>
    intro k l hf hl
    have hp := (pt_b (d := 30 - f) (by omega) (by omega)).1
    rw [rws_s, ih k l (by omega) hl, List.append_nil]
    split
    · cases k with
      | zero => rw [rws_0, if_neg (by omega)]; rfl
      | succ k => rw [ih k _ (by omega) (by omega)]; rfl
    · rfl
theorem rws_big {S : Nat → Bool} : ∀ (f k : Nat) (l : Int), f + 1 ≤ 30 → ((k + 1 : Nat) : Int) * pt (30 - f) < l → rws S (f + 1) (k + 1) l = [] := by
  intro f
  induction f with
  | zero =>
    intro k l hf hl
    rw [rws_s, rws_z, List.append_nil]
    split
    · cases k with
      | zero => rw [rws_0, if_neg (by omega)]; rfl
      | succ k => rfl
    · rfl
  | succ f ih =>
    intro k l hf hl
    have hp := pt_lt (d := 30 - (f + 1)) (e := 30 - f) (by omega) (by omega) (by omega)
    have m1 : ∀ n : Nat, (n : Int) * pt (30 - f) ≤ (n : Int) * pt (30 - (f + 1)) := fun n => Int.mul_le_mul_of_nonneg_left (Int.le_of_lt hp) (by omega)
    rw [rws_s, ih k l (by omega) (Int.lt_of_le_of_lt (m1 _) hl), List.append_nil]
    split
    · cases k with
      | zero => rw [rws_0, if_neg (by omega)]; rfl
      | succ k =>
        have := m1 (k + 1)
        have e : ((k + 1 + 1 : Nat) : Int) * pt (30 - (f + 1)) = ((k + 1 : Nat) : Int) * pt (30 - (f + 1)) + pt (30 - (f + 1)) := by rw [Int.natCast_add (k + 1) 1, Int.add_mul]; omega
        rw [ih k _ (by omega) (by omega)]; rfl
    · rfl
theorem rws_big2 {S : Nat → Bool} {f k : Nat} {l : Int} (hf : f + 1 ≤ 30) (hl : ((k + 2 : Nat) : Int) * pt (30 - f) ≤ l) : rws S (f + 1) (k + 2) l = [] := by
  cases f with
  | zero =>
    rw [rws_s, rws_z (k := k + 1), rws_z (k := k), List.append_nil]
    split <;> rfl
  | succ f =>
    have hp := pt_lt (d := 30 - (f + 1)) (e := 30 - f) (by omega) (by omega) (by omega)
    have m1 : ∀ n : Nat, ((n + 1 : Nat) : Int) * pt (30 - f) < ((n + 1 : Nat) : Int) * pt (30 - (f + 1)) := fun n => Int.mul_lt_mul_of_pos_left hp (by omega)
    have e : ((k + 2 : Nat) : Int) * pt (30 - (f + 1)) = ((k + 1 : Nat) : Int) * pt (30 - (f + 1)) + pt (30 - (f + 1)) := by
      rw [show k + 2 = (k + 1) + 1 from rfl, Int.natCast_add (k + 1) 1, Int.add_mul]; omega
    have h1 := m1 k
    have h2 := m1 (k + 1)
    rw [rws_s, rws_big f (k + 1) l (by omega) (Int.lt_of_lt_of_le h2 hl), List.append_nil, rws_big f k _ (by omega) (by omega)]
    split <;> rfl
theorem rws_none {S : Nat → Bool} : ∀ (f k : Nat) (l : Int), f ≤ 30 → (∀ x, 31 - f ≤ x → x ≤ 30 → S x = false) → rws S f (k + 1) l = [] := by
  intro f
  induction f with
  | zero => intro k l _ _; rfl
  | succ f ih =>
    intro k l hf hS
    rw [rws_s, ih k l (by omega) (fun x h1 h2 => hS x (by omega) h2), List.append_nil, if_neg (by rw [hS (30 - f) (by omega) (by omega)]; decide)]
theorem rws_one_no {S : Nat → Bool} {l : Int} : ∀ (f : Nat), f ≤ 30 → (∀ x, 31 - f ≤ x → x ≤ 30 → S x = true → ¬ pt x = l) → rws S f 1 l = [] := by
  intro f
  induction f with
  | zero => intro _ _; rfl
  | succ f ih =>
    intro hf hS
    rw [rws_s, ih (by omega) (fun x h1 h2 => hS x (by omega) h2), List.append_nil, rws_0]
    split
    · rename_i h
      have := hS (30 - f) (by omega) (by omega) h
      rw [if_neg (by omega)]; rfl
    · rfl
theorem rws_one {S : Nat → Bool} {l : Int} {x : Nat} (hx : x ≤ 30) (hS : S x = true) (hl : pt x = l) : ∀ (f : Nat), f ≤ 30 → 31 - f ≤ x → rws S f 1 l = [[x]] := by
  intro f
  induction f with
  | zero => intro _ h; omega
  | succ f ih =>
    intro hf h
    rw [rws_s, rws_0]
    by_cases q : x = 30 - f
    · rw [rws_one_no f (by omega) (fun y h1 h2 _ => by have := pt_lt (d := x) (e := y) (by omega) (by omega) h2; omega), List.append_nil, ← q, if_pos hS, if_pos (by omega)]
      rfl
    · have := pt_lt (d := 30 - f) (e := x) (by omega) (by omega) hx
      rw [ih (by omega) (by omega), if_neg (show ¬ l - pt (30 - f) = 0 by omega)]
      split <;> rfl
theorem rws_mem {S : Nat → Bool} : ∀ (f k : Nat) (l : Int) (r : List Nat), f ≤ 30 → r ∈ rws S f k l → r.length = k ∧ ∀ x, x ∈ r → 31 - f ≤ x ∧ x ≤ 30 := by
  intro f
  induction f with
  | zero =>
    intro k l r hf h
    cases k with
    | zero =>
      rw [rws_0] at h
      split at h
      · rw [List.mem_singleton.mp h]; exact ⟨rfl, fun x hx => by cases hx⟩
      · cases h
    | succ k => cases h
  | succ f ih =>
    intro k l r hf h
    cases k with
    | zero =>
      rw [rws_0] at h
      split at h
      · rw [List.mem_singleton.mp h]; exact ⟨rfl, fun x hx => by cases hx⟩
      · cases h
    | succ k =>
      rw [rws_s] at h
      rcases List.mem_append.mp h with h | h
      · split at h
        · obtain ⟨r2, h2, rfl⟩ := List.mem_map.mp h
          obtain ⟨a, b⟩ := ih k _ r2 (by omega) h2
          refine ⟨by rw [List.length_cons, a], fun x hx => ?_⟩
          rcases List.mem_cons.mp hx with rfl | hx
          · omega
          · have := b x hx; omega
        · cases h
      · obtain ⟨a, b⟩ := ih (k + 1) l r (by omega) h
        exact ⟨a, fun x hx => by have := b x hx; omega⟩
theorem rws_len {S : Nat → Bool} : ∀ (f k : Nat) (l : Int), (rws S f k l).length ≤ 2 ^ f := by
  intro f
  induction f with
  | zero =>
    intro k l
    cases k with
    | zero => rw [rws_0]; split <;> decide
    | succ k => exact Nat.zero_le _
  | succ f ih =>
    intro k l
    cases k with
    | zero =>
      have := Nat.one_le_two_pow (n := f + 1)
      rw [rws_0]
      split
      · exact this
      · exact Nat.zero_le _
    | succ k =>
      have h1 := ih k (l - pt (30 - f))
      have h2 := ih (k + 1) l
      rw [rws_s, List.length_append, Nat.pow_succ]
      split
      · rw [List.length_map]; omega
      · rw [List.length_nil]; omega
noncomputable def lastN : List Nat → Nat
  | [] => 0
  | [x] => x
  | _ :: y :: r => lastN (y :: r)
theorem lastN_app {x : Nat} {r : List Nat} : ∀ p : List Nat, lastN (p ++ x :: r) = lastN (x :: r) := by
  intro p
  induction p with
  | nil => rfl
  | cons a p ih =>
    cases p with
    | nil => rfl
    | cons b p => exact ih
theorem lastN_mem {x : Nat} {r : List Nat} : lastN (x :: r) ∈ x :: r := by
  induction r generalizing x with
  | nil => exact List.mem_singleton.mpr rfl
  | cons y r ih => exact List.mem_cons_of_mem _ ih
/-- what is kept of the rows: the bound, the best, how many, how often each slice -/
noncomputable abbrev RwS : Type := Nat × List Nat × Nat × (Nat → Nat)
noncomputable def rwStep (g : Nat) (s : RwS) (r : List Nat) : RwS × Bool :=
  if g = 0 then ((s.1, r, s.2.2.1, s.2.2.2), true) else if g = 1 then ((s.1, s.2.1, s.2.2.1 + 1, fun d => s.2.2.2 d + r.count d), false)
  else if lastN r < s.1 then ((lastN r, r, s.2.2.1, s.2.2.2), false) else (s, false)
noncomputable def rwRun (g : Nat) : List (List Nat) → RwS → RwS × Bool
  | [], s => (s, false)
  | r :: rs, s => if (rwStep g s r).2 = true then rwStep g s r else rwRun g rs (rwStep g s r).1
theorem rwRun_app {g : Nat} : ∀ (a b : List (List Nat)) (s : RwS), rwRun g (a ++ b) s = if (rwRun g a s).2 = true then rwRun g a s else rwRun g b (rwRun g a s).1 := by
  intro a
  induction a with
  | nil => intro b s; rfl
  | cons r a ih =>
    intro b s
    show (if (rwStep g s r).2 = true then rwStep g s r else rwRun g (a ++ b) (rwStep g s r).1) = if (if (rwStep g s r).2 = true then rwStep g s r else rwRun g a (rwStep g s r).1).2 = true then (if (rwStep g s r).2 = true then rwStep g s r else rwRun g a (rwStep g s r).1) else rwRun g b (if (rwStep g s r).2 = true then rwStep g s r else rwRun g a (rwStep g s r).1).1
    by_cases q : (rwStep g s r).2 = true
    · rw [if_pos q, if_pos q, if_pos q]
    · rw [if_neg q, if_neg q, ih]
theorem rwRun_skip {s : RwS} : ∀ rs : List (List Nat), (∀ r, r ∈ rs → ¬ lastN r < s.1) → rwRun 2 rs s = (s, false) := by
  intro rs
  induction rs with
  | nil => intro _; rfl
  | cons r rs ih =>
    intro h
    have e : rwStep 2 s r = (s, false) := by
      unfold rwStep
      rw [if_neg (by decide), if_neg (by decide), if_neg (h r (List.mem_cons_self ..))]
    show (if (rwStep 2 s r).2 = true then rwStep 2 s r else rwRun 2 rs (rwStep 2 s r).1) = _
    rw [e]
    exact ih (fun r2 h2 => h r2 (List.mem_cons_of_mem _ h2))
end PT9x4
section PT9x5
/-! ===== the class's rows of slices, exactly ===== -/
theorem tl_mul9 {x y : Int64} {a b : Int} (hx : x.toInt = a) (hy : y.toInt = b) (h : -9223372036854775808 ≤ a * b ∧ a * b < 9223372036854775808) : (x * y).toInt = a * b := by rw [Int64.toInt_mul, hx, hy]; exact tl_bmod h.1 h.2
set_option maxRecDepth 100000 in
theorem ptL : ∀ d : Nat, d < 31 → 1 ≤ d → (Int32.toInt64 1 * (2329089562800 / Int32.toInt64 (nI d))).toInt = pt d ∧ (2329089562800 / Int32.toInt64 (nI d)).toInt = pt d ∧ ¬ Int32.toInt64 (nI d) = 0 := by decide +kernel
theorem inLow : ∀ x : Nat, x < 31 → ∀ d : Nat, d < 31 → 1 ≤ x → 1 ≤ d → (((1 : Int32) <<< ((nI x - 1) &&& 31)) - 1) &&& ((1 : Int32) <<< ((nI d - 1) &&& 31)) = if d < x then (1 : Int32) <<< ((nI d - 1) &&& 31) else 0 := by decide +kernel
theorem inS_low {a : Int32} {x d : Nat} (h1 : 1 ≤ x) (h2 : x ≤ 30) (h3 : 1 ≤ d) (h4 : d ≤ 30) : inS (a &&& (((1 : Int32) <<< ((nI x - 1) &&& 31)) - 1)) (nI d) = (inS a (nI d) && decide (d < x)) := by
  unfold inS
  rw [Int32.and_assoc, inLow x (by omega) d (by omega) h1 h3]
  by_cases q : d < x
  · rw [if_pos q, decide_eq_true q, Bool.and_true]
  · rw [if_neg q, decide_eq_false q, Bool.and_false, Int32.and_zero]; rfl
theorem nI_sub9 {a b : Nat} (h : a + b ≤ 1000) : nI (a + b) - nI a = nI b :=
  Int32.toInt_inj.mp (by rw [ti_sub (nI_toInt (by omega)) (nI_toInt (by omega)) (by omega), nI_toInt (by omega)]; omega)
noncomputable abbrev WRo : Nat → Nat → Prop := fun c _ => c = 35 ∨ c = 36 ∨ c = 37 ∨ c = 38
noncomputable abbrev FrO (I : Im) (J : Jm) (I2 : Im) (J2 : Jm) : Prop := FrW WRo nV I J I2 J2
noncomputable def bl (b : Bool) : Int32 := if b = true then 1 else 0
theorem bl_01 {b : Bool} : (bl b : Int32) = 0 ∨ (bl b : Int32) = 1 := by cases b <;> decide
noncomputable def SA (A : Int32) (d : Nat) : Bool := inS A (nI d)
noncomputable def RwI (g : Nat) (A : Int32) (z : Nat) (s : RwS) (I : Im) : Prop := I 35 0 = nI g ∧ (∀ d : Nat, 1 ≤ d → d ≤ 30 → inS (I 35 1) (nI d) = (SA A d && decide (d < s.1))) ∧ I 35 2 = nI z ∧ I 35 5 = nI s.2.1.length ∧ (∀ i, i < s.2.1.length → I 37 i = nI (s.2.1.getD i 0)) ∧ I 35 6 = nI s.2.2.1 ∧ (∀ d : Nat, d ≤ 30 → I 38 d = nI (s.2.2.2 d)) ∧ (g = 2 ∨ s.1 = 31) ∧ g ≤ 2
noncomputable def RwP (r : List Nat) (I : Im) : Prop := ∀ i, i < r.length → I 36 i = nI (r.getD i 0)
theorem cI_a9 {I : Im} {a0 a1 m k : Nat} (h : k < m) : cI I a0 a1 0 0 m a1 k = I a0 k := by
  unfold cI va_cpy
  rw [if_pos rfl, if_pos (by omega)]
  exact congrArg (I a0) (by omega)
section CRW
variable {d : Nat} {I : Im} {J : Jm} {R : Rm} {Q : Qt}
theorem px_cr1 {n : Nat} (h1 : 1 ≤ n) (h2 : n ≤ 30) (hQ : ∀ y : Int64, y.toInt = pt n → Q 0 y I J R) : AM (d + 1) 167 112 [.int 1, .int (nI n)] I J R Q :=
  w_X11_crumbs ⟨fun _ => ⟨(ptL n (by omega) h1).2.2, hQ _ (ptL n (by omega) h1).1⟩, fun c => absurd ((nle_nI (a := 1) (by omega) (by omega)).mpr h1) c⟩
theorem px_meet {g z : Nat} {A : Int32} {s : RwS} {r : List Nat} (h : RwI g A z s I) (hr : RwP r I) (hl : r.length = z) (h1 : 1 ≤ z) (h5 : z ≤ 5) (hm : ∀ x, x ∈ r → 1 ≤ x ∧ x ≤ 30) (hL : g = 2 → lastN r < s.1) (hQ : ∀ I2, RwI g A z (rwStep g s r).1 I2 → I2 36 = I 36 → FrO I J I2 J → Q (bl (rwStep g s r).2) 0 I2 J R) : AM (d + 2) 84 112 [.ref 35, .int (nI (lastN r))] I J R Q := by
  obtain ⟨e0, e1, e2, e5, e7, e6, e8, eb, hg⟩ := h
  have hlast : 1 ≤ lastN r ∧ lastN r ≤ 30 := by
    cases r with
    | nil => rw [List.length_nil] at hl; omega
    | cons x r => exact hm _ lastN_mem
  have tz : Int32.toNatClampNeg (I 35 2) = z := by rw [e2, tn_nI (by omega)]
  have t0 : Int32.toNatClampNeg 0 = 0 := rfl
  have c1 : ∀ c, ¬ c = 37 → cI I 36 37 (Int32.toNatClampNeg 0) (Int32.toNatClampNeg 0) (Int32.toNatClampNeg (I 35 2)) c = I c := fun c q => if_neg q
  have c2 : ∀ k, k < z → cI I 36 37 (Int32.toNatClampNeg 0) (Int32.toNatClampNeg 0) (Int32.toNatClampNeg (I 35 2)) 37 k = I 36 k := fun k hk => by
    rw [tz]; exact cI_a9 hk
  generalize eC : cI I 36 37 (Int32.toNatClampNeg 0) (Int32.toNatClampNeg 0) (Int32.toNatClampNeg (I 35 2)) = C at c1 c2
  have hFC : FrO I J C J := ⟨fun o k q => congrFun (c1 o (fun z => q (Or.inr (Or.inr (Or.inl z))))) k, fun _ _ _ => rfl⟩
  have c35 : C 35 = I 35 := c1 35 (by decide)
  have bd : ¬ (0 : Int32) < 0 ∧ ¬ (0 : Int32) < 0 ∧ ¬ (I 35 2 : Int32) < 0 ∧ Int32.toNatClampNeg 0 + Int32.toNatClampNeg (I 35 2) ≤ 5 ∧ Int32.toNatClampNeg 0 + Int32.toNatClampNeg (I 35 2) ≤ 5 := by
    rw [tz, t0]
    exact ⟨by decide, by decide, by rw [e2]; exact nI_pos (by omega), by omega, by omega⟩
  have m5 : ∀ v : Int32, uI (uI C 35 5 (C 35 2)) 35 1 v 35 0 = nI g := fun v => by rw [rd_k (by decide), rd_k (by decide), c35]; exact e0
  -- what is written of the best
  have best : ∀ (v : Int32) (L : Nat), (∀ d : Nat, 1 ≤ d → d ≤ 30 → inS v (nI d) = (SA A d && decide (d < L))) → (g = 2 ∨ L = 31) → RwI g A z (L, r, s.2.2.1, s.2.2.2) (uI (uI C 35 5 (C 35 2)) 35 1 v) := fun v L hv hb => by
    refine ⟨m5 v, fun d a b => ?_, ?_, ?_, fun i hi => ?_, ?_, fun d hd => ?_, hb, hg⟩
    · rw [rd_eq]; exact hv d a b
    · rw [rd_k (by decide), rd_k (by decide), c35]; exact e2
    · rw [rd_k (by decide), rd_eq, c35, e2, ← hl]
    · rw [rd_ne (by decide), rd_ne (by decide), c2 i (by rw [← hl]; exact hi)]; exact hr i hi
    · rw [rd_k (by decide), rd_k (by decide), c35]; exact e6
    · rw [rd_ne (by decide), rd_ne (by decide), c1 38 (by decide)]; exact e8 d hd
  have hFb : ∀ v : Int32, FrO I J (uI (uI C 35 5 (C 35 2)) 35 1 v) J := fun v => (hFC.u (Or.inl rfl)).u (Or.inl rfl)
  have h36 : ∀ v : Int32, uI (uI C 35 5 (C 35 2)) 35 1 v 36 = I 36 := fun v => by rw [uI_ne (by decide), uI_ne (by decide), c1 36 (by decide)]
  refine am_X7_meet (fun P hc => sg_X7_meet_0 hc _ _ _ _ ⟨fun n1 => ⟨bd, ?_⟩, fun n1 => ?_⟩)
  · rw [eC]
    have g1 : ¬ g = 1 := fun q => n1 (by rw [e0, q]; rfl)
    have k2 : uI C 35 5 (C 35 2) 35 0 = nI g := by rw [rd_k (by decide), c35]; exact e0
    have k1 : uI C 35 5 (C 35 2) 35 1 = I 35 1 := by rw [rd_k (by decide), c35]
    refine ⟨fun n2 => ?_, fun n2 => ?_⟩
    · have g0 : g = 0 := by
        have : ¬ g = 2 := fun q => n2 (by rw [k2, q]; rfl)
        omega
      subst g0
      refine ⟨fun n3 => absurd (m5 _) n3, fun _ => ⟨Or.inr rfl, ?_⟩⟩
      rw [k1]
      exact hQ _ (best _ _ e1 eb) (h36 _) (hFb _)
    · have g2 : g = 2 := by
        rw [k2] at n2
        exact (nK (a := g) (b := 2) (by omega) (by omega)).mp n2
      subst g2
      have hl2 := hL rfl
      refine w_X11_bit ⟨fun _ => ⟨Or.inl rfl, ?_⟩, fun n3 => ?_⟩
      · have es : rwStep 2 s r = ((lastN r, r, s.2.2.1, s.2.2.2), false) := by
          unfold rwStep
          rw [if_neg (by decide), if_neg (by decide), if_pos hl2]
        rw [es] at hQ
        refine hQ _ ?_ (h36 _) (hFb _)
        rw [k1]
        refine best _ _ (fun d a b => ?_) (Or.inl rfl)
        rw [inS_low hlast.1 hlast.2 a b, e1 d a b]
        by_cases q : d < lastN r
        · rw [decide_eq_true q, decide_eq_true (show d < s.1 by omega), Bool.and_true, Bool.and_true]
        · rw [decide_eq_false q, Bool.and_false, Bool.and_false]
      · rw [m5] at n3
        exact absurd n3 (by decide)
  · have g1 : g = 1 := by
      rw [e0] at n1
      exact (nK (a := g) (b := 1) (by omega) (by omega)).mp n1
    subst g1
    have b31 : s.1 = 31 := eb.resolve_left (by decide)
    have L20 : ∀ (t q : List Nat) (M : Im), r = q ++ t → FrO I J M J → M 36 = I 36 → (∀ k, ¬ k = 6 → M 35 k = I 35 k) → M 37 = I 37 → M 35 6 = nI (s.2.2.1 + 1) → (∀ d : Nat, d ≤ 30 → M 38 d = nI (s.2.2.2 d + q.count d)) → P 20 112 [(0, .ref 35), (2, .int (nI q.length))] [] M J R := by
      intro t
      induction t with
      | nil =>
        intro q M hq hF h36 h35 h37 h6 h8
        rw [List.append_nil] at hq
        subst hq
        refine sg_X7_meet_20 hc _ _ _ _ ⟨fun _ => ⟨Or.inl rfl, ?_⟩, fun c => ?_⟩
        · refine hQ M ⟨(h35 0 (by decide)).trans e0, fun d a b => ?_, (h35 2 (by decide)).trans e2, (h35 5 (by decide)).trans e5, fun i hi => by rw [h37]; exact e7 i hi, h6, h8, eb, hg⟩ h36 hF
          rw [h35 1 (by decide)]; exact e1 d a b
        · rw [h35 2 (by decide), e2, ← hl] at c
          exact absurd ((nle_nI (by omega) (by omega)).mpr (Nat.le_refl _)) c
      | cons x t ih =>
        intro q M hq hF h36 h35 h37 h6 h8
        have hlen : r.length = q.length + (t.length + 1) := by rw [hq, List.length_append, List.length_cons]
        have hx := hm x (by rw [hq]; exact List.mem_append_right _ (List.mem_cons_self ..))
        have hgx : r.getD q.length 0 = x := by
          rw [hq, List.getD_eq_getElem?_getD, List.getElem?_append_right (Nat.le_refl _), Nat.sub_self]
          rfl
        have hrow : M 36 q.length = nI x := by rw [h36, hr q.length (by omega), hgx]
        refine sg_X7_meet_20 hc _ _ _ _ ⟨fun c => ?_, fun _ => ⟨vp_nI (by omega) (by omega), ?_⟩⟩
        · rw [h35 2 (by decide), e2, ← hl] at c
          have := (nle_nI (by omega) (by omega)).mp c
          omega
        · rw [tn_nI (by omega), hrow, tn_nI (by omega), nI_k1]
          refine ⟨vp_nI (by omega) (by omega), vp_nI (by omega) (by omega), ?_⟩
          have eq2 : r = (q ++ [x]) ++ t := by rw [hq, List.append_assoc]; rfl
          have elen : (q ++ [x]).length = q.length + 1 := by rw [List.length_append]; rfl
          rw [← elen]
          refine ih (q ++ [x]) _ eq2 (hF.u (Or.inr (Or.inr (Or.inr rfl)))) ((uI_ne (by decide)).trans h36) (fun k hk => (rd_ne (by decide)).trans (h35 k hk)) ((uI_ne (by decide)).trans h37) ((rd_ne (by decide)).trans h6) (fun d hd => ?_)
          rw [List.count_append, List.count_singleton]
          by_cases qd : d = x
          · subst qd
            rw [rd_eq, h8 d hd, nI_k1, if_pos (by rw [beq_self_eq_true])]
            exact congrArg nI (by omega)
          · rw [rd_k qd, h8 d hd, if_neg (by intro z; exact qd (beq_iff_eq.mp z).symm)]
            rfl
    refine L20 r [] _ rfl (FrW.rf.u (Or.inl rfl)) (uI_ne (by decide)) (fun k hk => rd_k hk) (uI_ne (by decide)) ?_ (fun d hd => ?_)
    · rw [rd_eq, e6, nI_k1]
    · rw [rd_ne (by decide), e8 d hd]
      rfl
end CRW
end PT9x5
section PT9x6
/-! ===== the search itself ===== -/
section CSK
variable {I : Im} {J : Jm} {R : Rm}
noncomputable def rsP (p : List Nat) (rs : List (List Nat)) : List (List Nat) := rs.map fun r => p ++ r
theorem rsP_app {p : List Nat} {a b : List (List Nat)} : rsP p (a ++ b) = rsP p a ++ rsP p b := List.map_append
theorem rsP_cons {p : List Nat} {x : Nat} {a : List (List Nat)} : rsP p (a.map fun r => x :: r) = rsP (p ++ [x]) a := by
  unfold rsP
  rw [List.map_map]
  refine congrArg (fun h => List.map h a) (funext fun r => ?_)
  show p ++ x :: r = (p ++ [x]) ++ r
  rw [List.append_assoc]; rfl
theorem loaf_div {y : Int64} {l : Int} (hy : y.toInt = l) (h1 : 1 ≤ l) : (2329089562800 / y).toInt = 2329089562800 / l := by
  have e : (2329089562800 : Int64).toInt = 2329089562800 := rfl
  have h2 : (2329089562800 : Int) / l ≤ 2329089562800 := Int.ediv_le_self _ (by decide)
  have h3 : 0 ≤ (2329089562800 : Int) / l := Int.ediv_nonneg (by decide) (by omega)
  rw [Int64.toInt_div, hy, e, Int.tdiv_eq_ediv_of_nonneg (by decide)]
  exact tl_bmod (by omega) (by omega)
theorem loaf_rem {y : Int64} {l : Int} (hy : y.toInt = l) (h1 : 1 ≤ l) : (2329089562800 - 2329089562800 / y * y).toInt = 2329089562800 % l := by
  have h3 : 0 ≤ (2329089562800 : Int) % l := Int.emod_nonneg _ (by omega)
  have h2 : (2329089562800 : Int) % l ≤ 2329089562800 := by
    rcases Int.lt_or_le 2329089562800 l with q | q
    · rw [Int.emod_eq_of_lt (by decide) q]; exact Int.le_refl _
    · have := Int.emod_lt_of_pos 2329089562800 (b := l) (by omega); omega
  rw [show (2329089562800 - 2329089562800 / y * y).toInt = ((2329089562800 : Int).tmod l).bmod (2 ^ 64) from by
    rw [Int64.toInt_sub, Int64.toInt_mul, Int64.toInt_div, hy, show (2329089562800 : Int64).toInt = 2329089562800 from rfl, Int.bmod_mul_bmod, Int.sub_bmod_bmod, Int.tmod_def, Int.mul_comm l], Int.tmod_eq_emod_of_nonneg (by decide)]
  exact tl_bmod (by omega) (by omega)
theorem pt_div {x : Nat} {l : Int} (h1 : 1 ≤ x) (h2 : x ≤ 30) (hl : pt x = l) : (2329089562800 : Int) % l = 0 ∧ (2329089562800 : Int) / l = x := by
  obtain ⟨a, b, c⟩ := pt_b h1 h2
  rw [hl] at a c
  rw [← c, Int.mul_emod_right, Int.mul_ediv_cancel_left _ (by omega)]
  exact ⟨rfl, rfl⟩
theorem pt_of {l : Int} (h1 : 1 ≤ l) (hm : (2329089562800 : Int) % l = 0) {x : Nat} (hx : (2329089562800 : Int) / l = x) (h2 : 1 ≤ x) : pt x = l := by
  have e := Int.mul_ediv_add_emod 2329089562800 l
  rw [hm, hx, Int.add_zero] at e
  unfold pt
  rw [← e, Int.mul_ediv_cancel _ (by omega)]
theorem px_putLast {g f z : Nat} {A : Int32} {s : RwS} {p : List Nat} {v3 : Int64} {l : Int} {d : Nat} {Q : Qt} (hv : v3.toInt = l) (hf : f ≤ 30) (hz : p.length + 1 = z) (h5 : z ≤ 5) (hm : ∀ x, x ∈ p → 1 ≤ x ∧ x ≤ 30) (h : RwI g A z s I) (hp : RwP p I) (hQ : ∀ I2, RwI g A z (rwRun g (rsP p (rws (SA A) f 1 l)) s).1 I2 → RwP p I2 → FrO I J I2 J → Q (bl (rwRun g (rsP p (rws (SA A) f 1 l)) s).2) 0 I2 J R) : AM (d + 3) 83 112 [.ref 35, .int (nI p.length), .int (nI (31 - f)), .long v3] I J R Q := by
  have no : rws (SA A) f 1 l = [] → Q 0 0 I J R := fun e => by
    rw [e] at hQ
    exact hQ I h hp FrW.rf
  refine w_X7_putLast ⟨fun c => ⟨Or.inl rfl, ?_⟩, fun c => ?_⟩
  · rw [lg_cmp_lt] at c
    have := cl_lt hv (show (1 : Int64).toInt = 1 from rfl) c
    exact no (rws_np f 0 l hf (by omega))
  rw [lg_cmp_lt] at c
  have h1 := cl_nlt hv (show (1 : Int64).toInt = 1 from rfl) c
  have nz : ¬ v3 = 0 := fun q => by rw [q] at hv; have : (0 : Int64).toInt = 0 := rfl; omega
  refine ⟨nz, fun c2 => ⟨nz, ?_⟩, fun c2 => ⟨Or.inl rfl, ?_⟩⟩
  · rw [lg_cmp_eq] at c2
    have hm0 := cl_eq (loaf_rem hv h1) (show (0 : Int64).toInt = 0 from rfl) c2
    have hdv := loaf_div hv h1
    have h0 : 0 ≤ (2329089562800 : Int) / l := Int.ediv_nonneg (by decide) (by omega)
    have ef : (Int32.toInt64 (nI (31 - f))).toInt = ((31 - f : Nat) : Int) := tl_i2l (nI_toInt (by omega))
    obtain ⟨x, hx⟩ : ∃ x : Nat, (2329089562800 : Int) / l = x := ⟨((2329089562800 : Int) / l).toNat, by omega⟩
    rw [hx] at hdv h0
    refine ⟨fun c3 => ⟨Or.inl rfl, ?_⟩, fun c3 => ⟨fun c4 => ⟨Or.inl rfl, ?_⟩, fun c4 => ?_⟩⟩
    · rw [lg_cmp_lt] at c3
      have := cl_lt hdv ef c3
      exact no (rws_one_no f hf (fun y y1 y2 _ q => by have := (pt_div (by omega) y2 q).2; omega))
    · rw [lg_cmp_gt] at c4
      have := cl_lt (show (30 : Int64).toInt = 30 from rfl) hdv c4
      exact no (rws_one_no f hf (fun y y1 y2 _ q => by have := (pt_div (by omega) y2 q).2; omega))
    · rw [lg_cmp_lt] at c3
      rw [lg_cmp_gt] at c4
      have k1 := cl_nlt hdv ef c3
      have k2 := cl_nlt (show (30 : Int64).toInt = 30 from rfl) hdv c4
      have x1 : 31 - f ≤ x := by omega
      have x2 : x ≤ 30 := by omega
      have hpt := pt_of h1 hm0 hx (by omega)
      have exI : Int64.toInt32 (2329089562800 / v3) = nI x := Int32.toInt_inj.mp (by rw [tl_l2i hdv (by omega), nI_toInt (by omega)])
      rw [exI]
      have hin := h.2.1 x (by omega) x2
      have hlast : lastN (p ++ [x]) = x := lastN_app p
      have hml : ∀ y, y ∈ p ++ [x] → 1 ≤ y ∧ y ≤ 30 := fun y hy => by
        rcases List.mem_append.mp hy with q | q
        · exact hm y q
        · rw [List.mem_singleton.mp q]; omega
      refine px_isIn (fun hi _ => ⟨fun _ => ⟨vp_nI (by omega) (by omega), ?_⟩, fun q => absurd q (by decide)⟩) (fun hi _ => ⟨fun q => absurd rfl q, fun _ => ⟨Or.inl rfl, ?_⟩⟩)
      · rw [hin, Bool.and_eq_true, decide_eq_true_eq] at hi
        rw [rws_one x2 hi.1 hpt f hf x1] at hQ
        rw [tn_nI (by omega)]
        have h' : RwI g A z s (uI I 36 p.length (nI x)) := by
          obtain ⟨e0, e1, e2, e5, e7, e6, e8, eb, hg⟩ := h
          have n35 : uI I 36 p.length (nI x) 35 = I 35 := uI_ne (by decide)
          have n37 : uI I 36 p.length (nI x) 37 = I 37 := uI_ne (by decide)
          have n38 : uI I 36 p.length (nI x) 38 = I 38 := uI_ne (by decide)
          unfold RwI
          rw [n35, n37, n38]
          exact ⟨e0, e1, e2, e5, e7, e6, e8, eb, hg⟩
        have hr' : RwP (p ++ [x]) (uI I 36 p.length (nI x)) := fun i hi => by
          rw [List.length_append] at hi
          by_cases q : i = p.length
          · subst q
            rw [rd_eq, List.getD_eq_getElem?_getD, List.getElem?_append_right (Nat.le_refl _), Nat.sub_self]; rfl
          · have hi2 : i < p.length := by have : [x].length = 1 := rfl; omega
            rw [rd_k q, hp i hi2, List.getD_eq_getElem?_getD, List.getD_eq_getElem?_getD, List.getElem?_append_left hi2]
        have key := px_meet (d := d) (J := J) (R := R) (Q := fun x2 _ I2 J2 R2 => (x2 = 0 ∨ x2 = 1) → (((x2 : Int32) = 0 ∨ (x2 : Int32) = 1) ∧ Q x2 0 I2 J2 R)) h' hr' (by rw [List.length_append]; exact hz) (by omega) h5 hml (fun _ => by rw [hlast]; exact hi.2) (fun I2 a b c _ => ⟨bl_01, ?_⟩)
        · rw [hlast] at key; exact key
        · have eR : rwRun g (rsP p [[x]]) s = rwStep g s (p ++ [x]) := by
            show (if (rwStep g s (p ++ [x])).2 = true then rwStep g s (p ++ [x]) else ((rwStep g s (p ++ [x])).1, false)) = _
            by_cases q : (rwStep g s (p ++ [x])).2 = true
            · rw [if_pos q]
            · rw [if_neg q]
              generalize rwStep g s (p ++ [x]) = w at q
              obtain ⟨w1, w2⟩ := w
              cases w2 with
              | false => rfl
              | true => exact absurd rfl q
          rw [eR] at hQ
          refine hQ I2 a (fun i hi => ?_) ((FrW.rf.u (Or.inr (Or.inl rfl))).tr c)
          rw [b, rd_k (by omega)]; exact hp i hi
      · rw [hin] at hi
        by_cases q : SA A x = true
        · rw [q, Bool.true_and, decide_eq_false_iff_not] at hi
          have g2 : g = 2 := h.2.2.2.2.2.2.2.1.resolve_right (fun z => hi (by omega))
          subst g2
          rw [rws_one x2 q hpt f hf x1, rwRun_skip (rsP p [[x]]) (fun r hr => by
            have hr2 : r ∈ [p ++ [x]] := hr
            rw [List.mem_singleton.mp hr2, hlast]; exact hi)] at hQ
          exact hQ I h hp FrW.rf
        · exact no (rws_one_no f hf (fun y y1 y2 hy e => by
            have := (pt_div (by omega) y2 e).2
            have : y = x := by omega
            subst this
            exact q hy))
  · rw [lg_cmp_eq] at c2
    have hm0 : ¬ (2329089562800 : Int) % l = 0 := cl_ne (loaf_rem hv h1) (show (0 : Int64).toInt = 0 from rfl) c2
    exact no (rws_one_no f hf (fun y y1 y2 _ q => hm0 (pt_div (by omega) y2 q).1))
theorem px_seek {g : Nat} {A : Int32} : ∀ (k f : Nat) (p : List Nat) (l : Int) (v3 : Int64) (s : RwS) (d : Nat) (I : Im) (Q : Qt), v3.toInt = l → -1000000000000000 ≤ l ∧ l ≤ 1000000000000000 → p.length + (k + 1) ≤ 5 → f ≤ 30 → (∀ x, x ∈ p → 1 ≤ x ∧ x ≤ 30) → RwI g A (p.length + (k + 1)) s I → RwP p I → (∀ I2, RwI g A (p.length + (k + 1)) (rwRun g (rsP p (rws (SA A) f (k + 1) l)) s).1 I2 → RwP p I2 → FrO I J I2 J → Q (bl (rwRun g (rsP p (rws (SA A) f (k + 1) l)) s).2) 0 I2 J R) → AM (d + k + 4) 82 112 [.ref 35, .int (nI p.length), .int (nI (31 - f)), .long v3] I J R Q := by
  intro k
  induction k with
  | zero =>
    intro f p l v3 s d I Q hv hl h5 hf hm h hp hQ
    have eo : I 35 2 - nI p.length = nI 1 := by rw [h.2.2.1]; exact nI_sub9 (by omega)
    refine am_X7_seek (fun P hc => sg_X7_seek_0 hc _ _ _ _ _ _ ?_)
    rw [eo]
    refine ⟨fun c => absurd c (by decide), fun _ => ⟨fun _ => ⟨fun c => absurd rfl c, fun _ => px_putLast (d := d) hv hf rfl h5 hm h hp (fun I2 a b c _ => ⟨bl_01, hQ I2 a b c⟩)⟩, fun c => absurd ((nlt_nI (a := p.length) (b := 5) (by omega) (by omega)).mpr (by omega)) c⟩⟩
  | succ k ihk =>
    intro f p l v3 s d I Q hv hl h5 hf hm h hp hQ
    have eo : I 35 2 - nI p.length = nI (k + 2) := by rw [h.2.2.1]; exact nI_sub9 (by omega)
    refine am_X7_seek (fun P hc => sg_X7_seek_0 hc _ _ _ _ _ _ ?_)
    rw [eo]
    have L38 : ∀ (f : Nat) (s : RwS) (M : Im), f ≤ 30 → RwI g A (p.length + (k + 1 + 1)) s M → RwP p M → FrO I J M J → (∀ I2, RwI g A (p.length + (k + 1 + 1)) (rwRun g (rsP p (rws (SA A) f (k + 1 + 1) l)) s).1 I2 → RwP p I2 → FrO I J I2 J → Q (bl (rwRun g (rsP p (rws (SA A) f (k + 1 + 1) l)) s).2) 0 I2 J R) → P 38 112 [(0, .ref 35), (1, .int (nI p.length)), (3, .long v3), (5, .int (nI (k + 2))), (6, .int (nI (31 - f)))] [] M J R := by
      intro f
      induction f with
      | zero =>
        intro s M hf h hp hF hQ
        exact sg_X7_seek_38 hc _ _ _ _ _ _ _ ⟨fun _ => ⟨Or.inl rfl, hQ M h hp hF⟩, fun c => absurd (by decide) c⟩
      | succ f ih =>
        intro s M hf h hp hF hQ
        have ed : 31 - (f + 1) = 30 - f := by omega
        have d1 : 1 ≤ 30 - f := by omega
        obtain ⟨p1, p2, p3⟩ := pt_b (d := 30 - f) d1 (by omega)
        have e5 : (Int32.toInt64 (nI (k + 2))).toInt = ((k + 2 : Nat) : Int) := tl_i2l (nI_toInt (by omega))
        have ek : ((k + 2 : Nat) : Int) * pt (30 - f) ≤ 5 * 2329089562800 := Int.le_trans (Int.mul_le_mul_of_nonneg_right (by omega) (by omega)) (Int.mul_le_mul_of_nonneg_left p2 (by decide))
        have ek0 : 0 ≤ ((k + 2 : Nat) : Int) * pt (30 - f) := Int.mul_nonneg (by omega) (by omega)
        have nx : nI (30 - f) + 1 = nI (31 - f) := by rw [nI_k1]; exact congrArg nI (by omega)
        rw [ed]
        -- on to the next slice
        have go : rws (SA A) (f + 1) (k + 1 + 1) l = rws (SA A) f (k + 1 + 1) l → P 38 112 [(0, .ref 35), (1, .int (nI p.length)), (3, .long v3), (5, .int (nI (k + 2))), (6, .int (nI (30 - f) + 1))] [] M J R := fun e => by
          rw [nx]
          rw [e] at hQ
          exact ih s M (by omega) h hp hF hQ
        refine sg_X7_seek_38 hc _ _ _ _ _ _ _ ⟨fun c => absurd ((nlt_nI (a := 30) (by omega) (by omega)).mp c) (by omega), fun _ => px_cr1 d1 (by omega) (fun y hy => ⟨fun c1 => ?_, fun c1 => ⟨Or.inl rfl, ?_⟩⟩)⟩
        · refine ⟨fun c2 => ?_, fun c2 => ?_⟩
          · rw [lg_cmp_ge] at c2
            have := cl_le hv hy c2
            refine go ?_
            rw [rws_s, rws_np f k _ (by omega) (by omega)]
            split <;> rfl
          rw [lg_cmp_ge] at c2
          have lt := cl_nle hv hy c2
          have hin := h.2.1 (30 - f) d1 (by omega)
          refine px_isIn (fun hi _ => ⟨fun q => absurd q (by decide), fun _ => ⟨vp_nI (by omega) (by omega), ?_⟩⟩) (fun hi _ => ⟨fun _ => ?_, fun q => absurd rfl q⟩)
          · rw [hin, Bool.and_eq_true, decide_eq_true_eq] at hi
            rw [tn_nI (by omega), nI_k1, nx]
            have ep : (p ++ [30 - f]).length = p.length + 1 := by rw [List.length_append]; rfl
            have hm2 : ∀ x, x ∈ p ++ [30 - f] → 1 ≤ x ∧ x ≤ 30 := fun x hx => by
              rcases List.mem_append.mp hx with q | q
              · exact hm x q
              · rw [List.mem_singleton.mp q]; omega
            have h' : RwI g A ((p ++ [30 - f]).length + (k + 1)) s (uI M 36 p.length (nI (30 - f))) := by
              obtain ⟨e0, e1, e2, e5, e7, e6, e8, eb, hg⟩ := h
              have n35 : uI M 36 p.length (nI (30 - f)) 35 = M 35 := uI_ne (by decide)
              have n37 : uI M 36 p.length (nI (30 - f)) 37 = M 37 := uI_ne (by decide)
              have n38 : uI M 36 p.length (nI (30 - f)) 38 = M 38 := uI_ne (by decide)
              unfold RwI
              rw [n35, n37, n38, ep]
              exact ⟨e0, e1, e2.trans (congrArg nI (by omega)), e5, e7, e6, e8, eb, hg⟩
            have hp' : RwP (p ++ [30 - f]) (uI M 36 p.length (nI (30 - f))) := fun i hi => by
              rw [ep] at hi
              by_cases q : i = p.length
              · subst q
                rw [rd_eq, List.getD_eq_getElem?_getD, List.getElem?_append_right (Nat.le_refl _), Nat.sub_self]; rfl
              · have hi2 : i < p.length := by omega
                rw [rd_k q, hp i hi2, List.getD_eq_getElem?_getD, List.getD_eq_getElem?_getD, List.getElem?_append_left hi2]
            have hF' : FrO I J (uI M 36 p.length (nI (30 - f))) J := hF.u (Or.inr (Or.inl rfl))
            have hv' : (v3 - y).toInt = l - pt (30 - f) := tl_sub hv hy (by omega)
            have eall : rsP p (rws (SA A) (f + 1) (k + 1 + 1) l) = rsP (p ++ [30 - f]) (rws (SA A) f (k + 1) (l - pt (30 - f))) ++ rsP p (rws (SA A) f (k + 1 + 1) l) := by
              rw [rws_s, if_pos hi.1, rsP_app, rsP_cons]
            rw [eall, rwRun_app] at hQ
            rw [← ep]
            refine ihk f (p ++ [30 - f]) (l - pt (30 - f)) (v3 - y) s d _ _ hv' (by omega) (by omega) (by omega) hm2 h' hp' (fun I2 a b c _ => ?_)
            have ez : (p ++ [30 - f]).length + (k + 1) = p.length + (k + 1 + 1) := by omega
            rw [ez] at a
            have hp2 : RwP p I2 := fun i hi => by
              have hb := b i (by omega)
              rw [hb, List.getD_eq_getElem?_getD, List.getD_eq_getElem?_getD, List.getElem?_append_left hi]
            cases q : (rwRun g (rsP (p ++ [30 - f]) (rws (SA A) f (k + 1) (l - pt (30 - f)))) s).2 with
            | true =>
              rw [q, if_pos rfl, q] at hQ
              exact ⟨fun z => absurd z (by decide), fun _ => ⟨Or.inr rfl, hQ I2 a hp2 (hF'.tr c)⟩⟩
            | false =>
              rw [q, if_neg (by decide)] at hQ
              refine ⟨fun _ => ?_, fun z => absurd rfl z⟩
              exact ih _ I2 (by omega) a hp2 (hF'.tr c) hQ
          · rw [hin] at hi
            by_cases q : SA A (30 - f) = true
            · rw [q, Bool.true_and, decide_eq_false_iff_not] at hi
              have g2 : g = 2 := h.2.2.2.2.2.2.2.1.resolve_right (fun z => hi (by omega))
              subst g2
              have eall : rsP p (rws (SA A) (f + 1) (k + 1 + 1) l) = rsP (p ++ [30 - f]) (rws (SA A) f (k + 1) (l - pt (30 - f))) ++ rsP p (rws (SA A) f (k + 1 + 1) l) := by
                rw [rws_s, if_pos q, rsP_app, rsP_cons]
              have hskip : rwRun 2 (rsP (p ++ [30 - f]) (rws (SA A) f (k + 1) (l - pt (30 - f)))) s = (s, false) := by
                refine rwRun_skip _ (fun r hr => ?_)
                obtain ⟨r2, hr2, rfl⟩ := List.mem_map.mp hr
                obtain ⟨l1, l2⟩ := rws_mem f (k + 1) _ r2 (by omega) hr2
                cases r2 with
                | nil => rw [List.length_nil] at l1; omega
                | cons x r2 =>
                  rw [lastN_app]
                  have := (l2 _ (lastN_mem (x := x) (r := r2))).1
                  omega
              rw [eall, rwRun_app, hskip, if_neg (show ¬ ((s, false) : RwS × Bool).2 = true from Bool.false_ne_true)] at hQ
              rw [nx]
              exact ih s M (by omega) h hp hF hQ
            · refine go ?_
              rw [rws_s, if_neg q]; rfl
        · rw [lg_cmp_gt] at c1
          have e6 : (y * Int32.toInt64 (nI (k + 2))).toInt = pt (30 - f) * ((k + 2 : Nat) : Int) := tl_mul9 hy e5 (by rw [Int.mul_comm]; omega)
          have := cl_nlt hv e6 c1
          rw [Int.mul_comm] at this
          rw [rws_big2 (by omega) this] at hQ
          exact hQ M h hp hF
    refine ⟨fun c => absurd ((nlt_nI (a := k + 2) (b := 1) (by omega) (by omega)).mp c) (by omega), fun _ => ⟨fun _ => ⟨fun _ => L38 f s I hf h hp FrW.rf hQ, fun c => absurd ((nK (a := k + 2) (b := 1) (by omega) (by omega)).mp c) (by omega)⟩, fun c => absurd ((nlt_nI (a := p.length) (b := 5) (by omega) (by omega)).mpr (by omega)) c⟩⟩
end CSK
end PT9x6
section PT9x7
/-! ===== the reference's rows of slices, exactly ===== -/
noncomputable abbrev RfS : Type := Nat × List Nat × (Nat → Nat)
noncomputable def rfStep (s : RfS) (r : List Nat) : RfS := (s.1 + 1, if s.1 = 0 then r else s.2.1, fun d => s.2.2 d + r.count d)
noncomputable def rfRun : List (List Nat) → RfS → RfS
  | [], s => s
  | r :: rs, s => rfRun rs (rfStep s r)
theorem rfRun_app : ∀ (a b : List (List Nat)) (s : RfS), rfRun (a ++ b) s = rfRun b (rfRun a s) := by
  intro a
  induction a with
  | nil => intro b s; rfl
  | cons r a ih => intro b s; exact ih b (rfStep s r)
theorem rfRun_n : ∀ (rs : List (List Nat)) (s : RfS), (rfRun rs s).1 = s.1 + rs.length := by
  intro rs
  induction rs with
  | nil => intro s; rfl
  | cons r rs ih =>
    intro s
    refine (ih (rfStep s r)).trans ?_
    show s.1 + 1 + rs.length = s.1 + (rs.length + 1)
    omega
theorem rfRun_f : ∀ (rs : List (List Nat)) (s : RfS), ¬ s.1 = 0 → (rfRun rs s).2.1 = s.2.1 := by
  intro rs
  induction rs with
  | nil => intro s _; rfl
  | cons r rs ih =>
    intro s h
    refine (ih (rfStep s r) (by show ¬ s.1 + 1 = 0; omega)).trans ?_
    exact if_neg h
theorem rfRun_c {r : List Nat} {rs : List (List Nat)} {s : RfS} (h : s.1 = 0) : (rfRun (r :: rs) s).2.1 = r := by
  refine (rfRun_f rs (rfStep s r) (by show ¬ s.1 + 1 = 0; omega)).trans ?_
  exact if_pos h
/-- a set's slices below another -/
noncomputable def SB (A : Int32) (b d : Nat) : Bool := inS A (nI d) && decide (d < b)
noncomputable def RfI (s : RfS) (I : Im) : Prop := I 97 31 = nI s.1 ∧ (∀ i, i < s.2.1.length → I 106 i = nI (s.2.1.getD i 0)) ∧ (∀ d : Nat, d ≤ 30 → I 107 d = nI (s.2.2 d))
noncomputable def RfP (r : List Nat) (I : Im) : Prop := ∀ i, i < r.length → I 105 i = nI (r.getD i 0)
noncomputable abbrev WRf : Nat → Nat → Prop := fun c k => (c = 97 ∧ k = 31) ∨ c = 105 ∨ c = 106 ∨ c = 107
noncomputable abbrev FrF (I : Im) (J : Jm) (I2 : Im) (J2 : Jm) : Prop := FrW WRf nV I J I2 J2
section CRR
variable {I : Im} {J : Jm} {R : Rm}
theorem px_parts {d n : Nat} {Q : Qt} (h1 : 1 ≤ n) (h2 : n ≤ 30) (hQ : ∀ y : Int64, y.toInt = pt n → Q 0 y I J R) : AM (d + 1) 240 112 [.int (nI n)] I J R Q :=
  w_X12_partsOf ⟨(ptL n (by omega) h1).2.2, hQ _ (ptL n (by omega) h1).2.1⟩
theorem nI_z9 {n : Nat} (h : n < 2 ^ 31) : nI n = 0 ↔ n = 0 := nI_eq (b := 0) h (by decide)
/-- a row that is full -/
theorem px_row0 {z : Nat} {r : List Nat} {s : RfS} {v3 v4 v7 : Int32} {v5 : Int64} {l : Int} {d : Nat} {Q : Qt} (hv : v5.toInt = l) (hl : r.length = z) (h5 : z ≤ 5) (hm : ∀ x, x ∈ r → 1 ≤ x ∧ x ≤ 30) (hs : s.1 < 2 ^ 31) (h : RfI s I) (hr : RfP r I) (hQ : ∀ I2, RfI (if l = 0 then rfStep s r else s) I2 → I2 105 = I 105 → FrF I J I2 J → Q 0 0 I2 J R) : AM (d + 1) 271 112 [.ref 97, .int (nI z), .int (nI z), .int v3, .int v4, .long v5, .int v7] I J R Q := by
  refine am_X12_rows (fun P hc => sg_X12_rows_0 hc _ _ _ _ _ _ _ _ _ ⟨fun c => absurd rfl c, fun _ => ⟨fun c => ?_, fun c => ?_⟩⟩)
  · rw [lg_cmp_eq] at c
    have l0 : l = 0 := cl_eq hv (show (0 : Int64).toInt = 0 from rfl) c
    rw [if_pos l0] at hQ
    -- how often each is in the rows
    have L62 : ∀ (t q : List Nat) (M : Im), r = q ++ t → FrF I J M J → M 105 = I 105 → M 97 31 = nI (s.1 + 1) → (∀ i, i < (rfStep s r).2.1.length → M 106 i = nI ((rfStep s r).2.1.getD i 0)) → (∀ d : Nat, d ≤ 30 → M 107 d = nI (s.2.2 d + q.count d)) → P 62 112 [(0, .ref 97), (2, .int (nI z)), (8, .int (nI q.length))] [] M J R := by
      intro t
      induction t with
      | nil =>
        intro q M hq hF h5' h31 h6 h7
        rw [List.append_nil] at hq
        subst hq
        refine sg_X12_rows_62 hc _ _ _ _ _ ⟨fun _ => hQ M ⟨h31, h6, h7⟩ h5' hF, fun c2 => ?_⟩
        rw [← hl] at c2
        exact absurd ((nle_nI (by omega) (by omega)).mpr (Nat.le_refl _)) c2
      | cons x t ih =>
        intro q M hq hF h5' h31 h6 h7
        have hlen : r.length = q.length + (t.length + 1) := by rw [hq, List.length_append, List.length_cons]
        have hx := hm x (by rw [hq]; exact List.mem_append_right _ (List.mem_cons_self ..))
        have hgx : r.getD q.length 0 = x := by
          rw [hq, List.getD_eq_getElem?_getD, List.getElem?_append_right (Nat.le_refl _), Nat.sub_self]
          rfl
        have hrow : M 105 q.length = nI x := by rw [h5', hr q.length (by omega), hgx]
        refine sg_X12_rows_62 hc _ _ _ _ _ ⟨fun c2 => ?_, fun _ => ⟨vp_nI (by omega) (by omega), ?_⟩⟩
        · have := (nle_nI (by omega) (by omega)).mp c2
          omega
        · rw [tn_nI (by omega), hrow, tn_nI (by omega), nI_k1]
          refine ⟨vp_nI (by omega) (by omega), vp_nI (by omega) (by omega), ?_⟩
          have eq2 : r = (q ++ [x]) ++ t := by rw [hq, List.append_assoc]; rfl
          have elen : (q ++ [x]).length = q.length + 1 := by rw [List.length_append]; rfl
          rw [← elen]
          refine ih (q ++ [x]) _ eq2 (hF.u (Or.inr (Or.inr (Or.inr rfl)))) ((uI_ne (by decide)).trans h5') ((rd_ne (by decide)).trans h31) (fun i hi => (rd_ne (by decide)).trans (h6 i hi)) (fun d hd => ?_)
          rw [List.count_append, List.count_singleton]
          by_cases qd : d = x
          · subst qd
            rw [rd_eq, h7 d hd, nI_k1, if_pos (by rw [beq_self_eq_true])]
            exact congrArg nI (by omega)
          · rw [rd_k qd, h7 d hd, if_neg (by intro z; exact qd (beq_iff_eq.mp z).symm)]
            rfl
    have L49 : ∀ M : Im, FrF I J M J → M 105 = I 105 → M 97 31 = nI s.1 → M 107 = I 107 → (∀ i, i < (rfStep s r).2.1.length → M 106 i = nI ((rfStep s r).2.1.getD i 0)) → P 49 112 [(0, .ref 97), (2, .int (nI z))] [] M J R := fun M hF h5' h31 h7 h6 => by
      refine sg_X12_rows_49 hc _ _ _ _ (L62 r [] _ rfl (hF.u (Or.inl ⟨rfl, rfl⟩)) ((uI_ne (by decide)).trans h5') ?_ (fun i hi => (rd_ne (by decide)).trans (h6 i hi)) (fun d hd => ?_))
      · rw [rd_eq, h31, nI_k1]
      · rw [rd_ne (by decide), h7, h.2.2 d hd]; rfl
    refine ⟨fun c2 => ?_, fun c2 => ?_⟩
    · have s0 : ¬ s.1 = 0 := fun q => c2 (by rw [h.1, q]; rfl)
      have es : (rfStep s r).2.1 = s.2.1 := if_neg s0
      refine L49 I FrW.rf rfl h.1 rfl ?_
      rw [es]; exact h.2.1
    · rw [h.1] at c2
      have s0 : s.1 = 0 := (nI_z9 hs).mp c2
      have es : (rfStep s r).2.1 = r := if_pos s0
      have L23 : ∀ (t q : List Nat) (M : Im), r = q ++ t → FrF I J M J → M 105 = I 105 → M 97 31 = nI s.1 → M 107 = I 107 → (∀ i, i < q.length → M 106 i = nI (r.getD i 0)) → P 23 112 [(0, .ref 97), (2, .int (nI z)), (8, .int (nI q.length))] [] M J R := by
        intro t
        induction t with
        | nil =>
          intro q M hq hF h5' h31 h7 h6
          rw [List.append_nil] at hq
          subst hq
          refine sg_X12_rows_23 hc _ _ _ _ _ ⟨fun _ => L49 M hF h5' h31 h7 (by rw [es]; exact h6), fun c3 => ?_⟩
          rw [← hl] at c3
          exact absurd ((nle_nI (by omega) (by omega)).mpr (Nat.le_refl _)) c3
        | cons x t ih =>
          intro q M hq hF h5' h31 h7 h6
          have hlen : r.length = q.length + (t.length + 1) := by rw [hq, List.length_append, List.length_cons]
          refine sg_X12_rows_23 hc _ _ _ _ _ ⟨fun c3 => ?_, fun _ => ⟨vp_nI (by omega) (by omega), vp_nI (by omega) (by omega), ?_⟩⟩
          · have := (nle_nI (by omega) (by omega)).mp c3
            omega
          · rw [tn_nI (by omega), nI_k1]
            have eq2 : r = (q ++ [x]) ++ t := by rw [hq, List.append_assoc]; rfl
            have elen : (q ++ [x]).length = q.length + 1 := by rw [List.length_append]; rfl
            rw [← elen]
            refine ih (q ++ [x]) _ eq2 (hF.u (Or.inr (Or.inr (Or.inl rfl)))) ((uI_ne (by decide)).trans h5') ((rd_ne (by decide)).trans h31) ((uI_ne (by decide)).trans h7) (fun i hi => ?_)
            rw [elen] at hi
            by_cases qi : i = q.length
            · subst qi
              rw [rd_eq, h5']; exact hr _ (by omega)
            · rw [rd_k qi]; exact h6 i (by omega)
      exact L23 r [] I rfl FrW.rf rfl h.1 rfl (fun i hi => absurd hi (Nat.not_lt_zero _))
  · rw [lg_cmp_eq] at c
    have l0 : ¬ l = 0 := cl_ne hv (show (0 : Int64).toInt = 0 from rfl) c
    rw [if_neg l0] at hQ
    exact hQ I h rfl FrW.rf
theorem rsP_0 {rs : List (List Nat)} : rsP [] rs = rs := by
  unfold rsP
  exact List.map_id rs
theorem px_rrows {A : Int32} {b z : Nat} (hA : 0 ≤ A.toInt) (hb : b ≤ 31) (h5 : z ≤ 5) : ∀ (m f : Nat) (p : List Nat) (l : Int) (v5 : Int64) (s : RfS) (d : Nat) (I : Im) (Q : Qt), v5.toInt = l → -1000000000000000 ≤ l ∧ l ≤ 1000000000000000 → p.length + m = z → f ≤ 30 → (∀ x, x ∈ p → 1 ≤ x ∧ x ≤ 30) → RfI s I → RfP p I → s.1 + (rws (SB A b) f m l).length ≤ 2 ^ 30 → (∀ I2, RfI (rfRun (rsP p (rws (SB A b) f m l)) s) I2 → RfP p I2 → FrF I J I2 J → Q 0 0 I2 J R) → AM (d + m + 2) 271 112 [.ref 97, .int (nI p.length), .int (nI z), .int (nI (31 - f)), .int (nI b), .long v5, .int A] I J R Q := by
  intro m
  induction m with
  | zero =>
    intro f p l v5 s d I Q hv hl hz hf hm h hp hn hQ
    have hz2 : p.length = z := hz
    rw [hz2]
    refine px_row0 (d := d + 1) hv hz2 h5 hm (by have : (2 : Nat) ^ 30 < 2 ^ 31 := by decide
                                                 omega) h hp (fun I2 a e c => hQ I2 ?_ (fun i hi => by rw [e]; exact hp i hi) c)
    rw [rws_0]
    by_cases q : l = 0
    · rw [if_pos q] at a
      rw [if_pos q]
      have e1 : rfRun (rsP p [[]]) s = rfStep s p := by
        show rfStep s (p ++ []) = _
        rw [List.append_nil]
      rw [e1]; exact a
    · rw [if_neg q] at a
      rw [if_neg q]; exact a
  | succ m ih =>
    intro f p l v5 s d I Q hv hl hz hf hm h hp hn hQ
    have ne : ¬ nI p.length = nI z := fun q => by
      have := (nK (a := p.length) (b := z) (by omega) (by omega)).mp q
      omega
    refine am_X12_rows (fun P hc => sg_X12_rows_0 hc _ _ _ _ _ _ _ _ _ ⟨fun _ => ?_, fun c => absurd c ne⟩)
    have esz : nI z - nI p.length = nI (m + 1) := (nI_sub (by omega) (by omega)).trans (congrArg nI (by omega))
    have L94 : ∀ (f : Nat) (s : RfS) (M : Im), f ≤ 30 → RfI s M → RfP p M → FrF I J M J → s.1 + (rws (SB A b) f (m + 1) l).length ≤ 2 ^ 30 → (∀ I2, RfI (rfRun (rsP p (rws (SB A b) f (m + 1) l)) s) I2 → RfP p I2 → FrF I J I2 J → Q 0 0 I2 J R) → P 94 112 [(0, .ref 97), (1, .int (nI p.length)), (2, .int (nI z)), (4, .int (nI b)), (5, .long v5), (7, .int A), (8, .int (nI (31 - f)))] [] M J R := by
      intro f
      induction f with
      | zero =>
        intro s M hf h hp hF hn hQ
        exact sg_X12_rows_94 hc _ _ _ _ _ _ _ _ _ ⟨fun _ => hQ M h hp hF, fun c => absurd ((nle_nI (a := b) (b := 31 - 0) (by omega) (by omega)).mpr (by omega)) c⟩
      | succ f ihf =>
        intro s M hf h hp hF hn hQ
        have ed : 31 - (f + 1) = 30 - f := by omega
        have d1 : 1 ≤ 30 - f := by omega
        rw [ed]
        by_cases qb : b ≤ 30 - f
        · have e : rws (SB A b) (f + 1) (m + 1) l = [] := rws_none (f + 1) m l (by omega) (fun x h1 h2 => by unfold SB; rw [decide_eq_false (by omega), Bool.and_false])
          rw [e] at hQ
          exact sg_X12_rows_94 hc _ _ _ _ _ _ _ _ _ ⟨fun _ => hQ M h hp hF, fun c => absurd ((nle_nI (by omega) (by omega)).mpr qb) c⟩
        have nx : nI (30 - f) + 1 = nI (31 - f) := by rw [nI_k1]; exact congrArg nI (by omega)
        obtain ⟨p1, p2, p3⟩ := pt_b (d := 30 - f) d1 (by omega)
        have ek : ((m + 1 : Nat) : Int) * pt (30 - f) ≤ 5 * 2329089562800 := Int.le_trans (Int.mul_le_mul_of_nonneg_right (by omega) (by omega)) (Int.mul_le_mul_of_nonneg_left p2 (by decide))
        have ek0 : 0 ≤ ((m + 1 : Nat) : Int) * pt (30 - f) := Int.mul_nonneg (by omega) (by omega)
        have e5 : (Int32.toInt64 (nI (m + 1))).toInt = ((m + 1 : Nat) : Int) := tl_i2l (nI_toInt (by omega))
        have elen : (rws (SB A b) (f + 1) (m + 1) l).length = (if SB A b (30 - f) = true then (rws (SB A b) f m (l - pt (30 - f))).length else 0) + (rws (SB A b) f (m + 1) l).length := by
          rw [rws_s, List.length_append]
          split
          · rw [List.length_map]
          · rfl
        -- on to the next slice
        have go : rws (SB A b) (f + 1) (m + 1) l = rws (SB A b) f (m + 1) l → P 94 112 [(0, .ref 97), (1, .int (nI p.length)), (2, .int (nI z)), (4, .int (nI b)), (5, .long v5), (7, .int A), (8, .int (nI (30 - f) + 1))] [] M J R := fun e => by
          rw [nx]
          rw [e] at hQ hn
          exact ihf s M (by omega) h hp hF hn hQ
        refine sg_X12_rows_94 hc _ _ _ _ _ _ _ _ _ ⟨fun c => absurd ((nle_nI (by omega) (by omega)).mp c) qb, fun _ => px_parts d1 (by omega) (fun y hy => ?_)⟩
        rw [esz]
        have e6 : (y * Int32.toInt64 (nI (m + 1))).toInt = pt (30 - f) * ((m + 1 : Nat) : Int) := tl_mul9 hy e5 (by rw [Int.mul_comm]; omega)
        refine ⟨fun c1 => ?_, fun c1 => ?_⟩
        · rw [lg_cmp_lt] at c1
          have := cl_lt e6 hv c1
          rw [Int.mul_comm] at this
          rw [rws_big f m l (by omega) this] at hQ
          exact hQ M h hp hF
        · refine px_isOf hA ((nle_nI (a := 1) (by omega) (by omega)).mpr d1) ((nle_nI (b := 30) (by omega) (by omega)).mpr (by omega)) (fun hi _ => ⟨fun q => absurd q (by decide), fun _ => ?_⟩) (fun hi _ => ⟨fun _ => ?_, fun q => absurd rfl q⟩)
          · have hS : SB A b (30 - f) = true := by unfold SB; rw [hi, decide_eq_true (by omega)]; rfl
            rw [if_pos hS] at elen
            refine px_parts d1 (by omega) (fun y3 hy3 => ⟨fun c3 => ⟨vp_nI (by omega) (by omega), ?_⟩, fun c3 => ?_⟩)
            · rw [lg_cmp_le] at c3
              have le3 := cl_le hy3 hv c3
              rw [tn_nI (by omega)]
              refine px_parts d1 (by omega) (fun y4 hy4 => ?_)
              have ep : (p ++ [30 - f]).length = p.length + 1 := by rw [List.length_append]; rfl
              rw [nI_k1, nx, ← ep]
              have hm2 : ∀ x, x ∈ p ++ [30 - f] → 1 ≤ x ∧ x ≤ 30 := fun x hx => by
                rcases List.mem_append.mp hx with q | q
                · exact hm x q
                · rw [List.mem_singleton.mp q]; omega
              have h' : RfI s (uI M 105 p.length (nI (30 - f))) := by
                have n97 : uI M 105 p.length (nI (30 - f)) 97 = M 97 := uI_ne (by decide)
                have n106 : uI M 105 p.length (nI (30 - f)) 106 = M 106 := uI_ne (by decide)
                have n107 : uI M 105 p.length (nI (30 - f)) 107 = M 107 := uI_ne (by decide)
                unfold RfI
                rw [n97, n106, n107]
                exact h
              have hp' : RfP (p ++ [30 - f]) (uI M 105 p.length (nI (30 - f))) := fun i hi2 => by
                rw [ep] at hi2
                by_cases q : i = p.length
                · subst q
                  rw [rd_eq, List.getD_eq_getElem?_getD, List.getElem?_append_right (Nat.le_refl _), Nat.sub_self]; rfl
                · have hi3 : i < p.length := by omega
                  rw [rd_k q, hp i hi3, List.getD_eq_getElem?_getD, List.getD_eq_getElem?_getD, List.getElem?_append_left hi3]
              have hF' : FrF I J (uI M 105 p.length (nI (30 - f))) J := hF.u (Or.inr (Or.inl rfl))
              have hv' : (v5 - y4).toInt = l - pt (30 - f) := tl_sub hv hy4 (by omega)
              have eall : rsP p (rws (SB A b) (f + 1) (m + 1) l) = rsP (p ++ [30 - f]) (rws (SB A b) f m (l - pt (30 - f))) ++ rsP p (rws (SB A b) f (m + 1) l) := by
                rw [rws_s, if_pos hS, rsP_app, rsP_cons]
              rw [eall, rfRun_app] at hQ
              refine ih f (p ++ [30 - f]) (l - pt (30 - f)) (v5 - y4) s d _ _ hv' (by omega) (by omega) (by omega) hm2 h' hp' (by omega) (fun I2 a b2 c => ?_)
              have hp2 : RfP p I2 := fun i hi2 => by
                have hb2 := b2 i (by omega)
                rw [hb2, List.getD_eq_getElem?_getD, List.getD_eq_getElem?_getD, List.getElem?_append_left hi2]
              refine ihf _ I2 (by omega) a hp2 (hF'.tr c) ?_ hQ
              rw [rfRun_n]
              unfold rsP
              rw [List.length_map]
              omega
            · rw [lg_cmp_le] at c3
              have lt3 := cl_nle hy3 hv c3
              refine go ?_
              rw [rws_s, if_pos hS]
              have e0 : rws (SB A b) f m (l - pt (30 - f)) = [] := by
                cases m with
                | zero => rw [rws_0, if_neg (by omega)]
                | succ m => exact rws_np f m _ (by omega) (by omega)
              rw [e0]; rfl
          · refine go ?_
            have hS : ¬ SB A b (30 - f) = true := by unfold SB; rw [hi, Bool.false_and]; exact Bool.false_ne_true
            rw [rws_s, if_neg hS]; rfl
    exact L94 f s I hf h hp FrW.rf hn hQ
end CRR
end PT9x7
section PT9x8
/-! ===== rows looked for, on both sides ===== -/
theorem rws_congr {S S2 : Nat → Bool} : ∀ (f k : Nat) (l : Int), f ≤ 30 → (∀ x, 31 - f ≤ x → x ≤ 30 → S x = S2 x) → rws S f k l = rws S2 f k l := by
  intro f
  induction f with
  | zero => intro k l _ _; cases k <;> rfl
  | succ f ih =>
    intro k l hf hS
    cases k with
    | zero => rw [rws_0, rws_0]
    | succ k => rw [rws_s, rws_s, ih k _ (by omega) (fun x h1 h2 => hS x (by omega) h2), ih (k + 1) l (by omega) (fun x h1 h2 => hS x (by omega) h2), hS (30 - f) (by omega) (by omega)]
theorem rws_SB {A : Int32} {k : Nat} {l : Int} : rws (SB A 31) 30 k l = rws (SA A) 30 k l :=
  rws_congr 30 k l (by decide) (fun x _ h2 => by unfold SB SA; rw [decide_eq_true (by omega), Bool.and_true])
/-- the first of the rows of the fewest, from n on -/
noncomputable def fwR (S : Nat → Bool) (l : Int) : Nat → Nat → Option (List Nat)
  | 0, _ => none
  | f + 1, n => match rws S 30 n l with
    | [] => fwR S l f (n + 1)
    | r :: _ => some r
theorem fwR_n {S : Nat → Bool} {l : Int} {f n : Nat} (h : rws S 30 n l = []) : fwR S l (f + 1) n = fwR S l f (n + 1) := by
  show (match rws S 30 n l with
    | [] => fwR S l f (n + 1)
    | r :: _ => some r) = _
  rw [h]
theorem fwR_c {S : Nat → Bool} {l : Int} {f n : Nat} {r : List Nat} {rs : List (List Nat)} (h : rws S 30 n l = r :: rs) : fwR S l (f + 1) n = some r := by
  show (match rws S 30 n l with
    | [] => fwR S l f (n + 1)
    | r :: _ => some r) = _
  rw [h]
noncomputable def fwC (S : Nat → Bool) (l : Int) : Option (List Nat) := if l = 0 then some [] else if l < 0 then none else fwR S l 5 1
noncomputable def lnO : Option (List Nat) → Int32
  | none => -1
  | some r => nI r.length
noncomputable def atO (k : Int32) : Option (List Nat) → Int32
  | none => -1
  | some r => if 0 ≤ k.toInt ∧ k.toInt < r.length then nI (r.getD k.toNatClampNeg 0) else -1
section RWL
variable {I : Im} {J : Jm} {R : Rm} {Q : Qt}
/-! the reference -/
theorem px_laysRows {A : Int32} {b z d : Nat} {v3 : Int64} {l : Int} (hA : 0 ≤ A.toInt) (hb : b ≤ 31) (h5 : z ≤ 5) (hv : v3.toInt = l) (hl : -1000000000000000 ≤ l ∧ l ≤ 1000000000000000) (hQ : ∀ I2, RfI (rfRun (rws (SB A b) 30 z l) (0, [], fun _ => 0)) I2 → FrF I J I2 J → Q (bl (!(rws (SB A b) 30 z l).isEmpty)) 0 I2 J R) : AM (d + z + 3) 272 112 [.ref 97, .int (nI z), .int (nI b), .long v3, .int A] I J R Q := by
  refine am_X12_laysRows (fun P hc => sg_X12_laysRows_0 hc _ _ _ _ _ _ _ ?_)
  have hlen : (rws (SB A b) 30 z l).length ≤ 2 ^ 30 := rws_len 30 z l
  have h31 : (2 : Nat) ^ 30 < 2 ^ 31 := by decide
  have L8 : ∀ (t : Nat) (M : Im), t ≤ 31 → FrF I J M J → M 97 31 = 0 → (∀ k, k < 31 - t → M 107 k = 0) → P 8 112 [(0, .ref 97), (1, .int (nI z)), (2, .int (nI b)), (3, .long v3), (5, .int A), (6, .int (nI (31 - t)))] [] M J R := by
    intro t
    induction t with
    | zero =>
      intro M ht hF h31' h7
      refine sg_X12_laysRows_8 hc _ _ _ _ _ _ _ _ ⟨fun _ => ?_, fun c => absurd ((nlt_nI (a := 30) (b := 31 - 0) (by omega) (by omega)).mpr (by omega)) c⟩
      refine px_rrows (A := A) (b := b) (z := z) hA hb h5 z 30 [] l v3 (0, [], fun _ => 0) d M _ hv hl (Nat.zero_add z) (by decide) (fun x hx => absurd hx List.not_mem_nil) ⟨h31', fun i hi => absurd hi (Nat.not_lt_zero _), fun k hk => h7 k (by omega)⟩ (fun i hi => absurd hi (Nat.not_lt_zero _)) (by show 0 + (rws (SB A b) 30 z l).length ≤ 2 ^ 30; omega) (fun I2 a _ c => ?_)
      rw [rsP_0] at a
      have key := hQ I2 a (hF.tr c)
      have e31 : I2 97 31 = nI (rws (SB A b) 30 z l).length := by rw [a.1, rfRun_n]; exact congrArg nI (Nat.zero_add _)
      have et : (I2 97 31).toInt = ((rws (SB A b) 30 z l).length : Int) := by rw [e31]; exact nI_toInt (by omega)
      refine ⟨fun c1 => ⟨Or.inl rfl, ?_⟩, fun c1 => ⟨Or.inr rfl, ?_⟩⟩
      · rw [Int32.le_iff_toInt_le, et, show (0 : Int32).toInt = 0 from rfl] at c1
        have e0 : rws (SB A b) 30 z l = [] := List.eq_nil_of_length_eq_zero (by omega)
        rw [e0] at key; exact key
      · rw [Int32.le_iff_toInt_le, et, show (0 : Int32).toInt = 0 from rfl] at c1
        cases q : rws (SB A b) 30 z l with
        | nil => rw [q] at c1; exact absurd (Int.le_refl 0) c1
        | cons r rs => rw [q] at key; exact key
    | succ t ih =>
      intro M ht hF h31' h7
      have ed : 31 - (t + 1) = 30 - t := by omega
      rw [ed]
      refine sg_X12_laysRows_8 hc _ _ _ _ _ _ _ _ ⟨fun c => absurd ((nlt_nI (a := 30) (by omega) (by omega)).mp c) (by omega), fun _ => ⟨vp_nI (by omega) (by omega), ?_⟩⟩
      rw [tn_nI (by omega), show nI (30 - t) + 1 = nI (31 - t) from by rw [nI_k1]; exact congrArg nI (by omega)]
      refine ih _ (by omega) (hF.u (Or.inr (Or.inr (Or.inr rfl)))) ((rd_ne (by decide)).trans h31') (fun k hk => ?_)
      by_cases q : k = 30 - t
      · subst q; exact rd_eq
      · rw [rd_k q]; exact h7 k (by omega)
  exact L8 31 _ (by decide) (FrW.rf.u (Or.inl ⟨rfl, rfl⟩)) rd_eq (fun k hk => absurd hk (Nat.not_lt_zero _))
theorem px_fewestOf {A : Int32} {v1 : Int64} {l : Int} {t d : Nat} (hA : 0 ≤ A.toInt) (hv : v1.toInt = l) (hl : -1000000000000000 ≤ l ∧ l ≤ 1000000000000000) (ht : t ≤ 6) (hQ : ∀ I2, (∀ r, fwR (SA A) l (6 - t) t = some r → ∀ i, i < r.length → I2 106 i = nI (r.getD i 0)) → FrF I J I2 J → Q (lnO (fwR (SA A) l (6 - t) t)) 0 I2 J R) : AM (d + 9) 273 112 [.ref 97, .long v1, .int A, .int (nI t)] I J R Q := by
  refine am_X12_fewestOf (fun P hc => sg_X12_fewestOf_0 hc _ _ _ _ _ _ ?_)
  have L4 : ∀ (f t : Nat) (M : Im), t + f = 6 → FrF I J M J → (∀ I2, (∀ r, fwR (SA A) l f t = some r → ∀ i, i < r.length → I2 106 i = nI (r.getD i 0)) → FrF I J I2 J → Q (lnO (fwR (SA A) l f t)) 0 I2 J R) → P 4 112 [(0, .ref 97), (1, .long v1), (3, .int A), (5, .int (nI t))] [] M J R := by
    intro f
    induction f with
    | zero =>
      intro t M ht hF hQ
      exact sg_X12_fewestOf_4 hc _ _ _ _ _ _ ⟨fun _ => hQ M (fun r h => by cases h) hF, fun c => absurd ((nlt_nI (a := 5) (by omega) (by omega)).mpr (by omega)) c⟩
    | succ f ih =>
      intro t M ht hF hQ
      refine sg_X12_fewestOf_4 hc _ _ _ _ _ _ ⟨fun c => absurd ((nlt_nI (a := 5) (by omega) (by omega)).mp c) (by omega), fun _ => ?_⟩
      have e8 : d + 8 = (d + (5 - t)) + t + 3 := by omega
      rw [e8]
      refine px_laysRows (b := 31) hA (by decide) (by omega) hv hl (fun I2 a c _ => ?_)
      rw [rws_SB] at a
      rw [rws_SB]
      cases q : rws (SA A) 30 t l with
      | nil =>
        rw [fwR_n q] at hQ
        refine ⟨fun _ => ?_, fun z => absurd rfl z⟩
        rw [nI_k1]
        exact ih (t + 1) I2 (by omega) (hF.tr c) hQ
      | cons r rs =>
        rw [q] at a
        have hr := (rws_mem 30 t l r (by decide) (by rw [q]; exact List.mem_cons_self ..)).1
        have e1 : (rfRun (r :: rs) (0, [], fun _ => 0)).2.1 = r := rfRun_c rfl
        have a2 := a.2.1
        rw [e1] at a2
        rw [fwR_c q] at hQ
        have key := hQ I2 (fun r2 h2 i hi => by
          have e : r = r2 := Option.some.inj h2
          subst e
          exact a2 i hi) (hF.tr c)
        rw [show lnO (some r) = nI t from congrArg nI hr] at key
        exact ⟨fun z => absurd (show (1 : Int32) = 0 from z) (by decide), fun _ => key⟩
  exact L4 (6 - t) t I (by omega) FrW.rf hQ
/-! the class -/
theorem px_fill0 {d : Nat} (hQ : ∀ (x : Int32) (y : Int64) (I2 : Im), (∀ i, ¬ i = 38 → I2 i = I i) → (∀ k, k < 31 → I2 38 k = 0) → Q x y I2 J R) : AM (d + 1) 321 112 [.ref 38, .int 0] I J R Q := by
  refine am_J7_fill_53178 (fun P hc => ?_)
  have e31 : Int32.ofNat (aL 38) = nI 31 := rfl
  have ha : isA 112 38 0 = true := rfl
  have L : ∀ (t : Nat) (M : Im), t ≤ 31 → (∀ i, ¬ i = 38 → M i = I i) → (∀ k, k < 31 - t → M 38 k = 0) → P 5 112 [(0, .ref 38), (1, .int 0), (2, .int (nI (31 - t))), (3, .int (Int32.ofNat (aL 38)))] [] M J R := by
    intro t
    induction t with
    | zero =>
      intro M ht h1 h2
      refine sg_J7_fill_53178_5 hc _ _ _ _ _ _ _ ⟨fun _ => hQ _ _ M h1 h2, fun c => ?_⟩
      rw [e31] at c
      exact absurd ((nle_nI (a := 31) (b := 31 - 0) (by omega) (by omega)).mpr (by omega)) c
    | succ t ih =>
      intro M ht h1 h2
      have ed : 31 - (t + 1) = 30 - t := by omega
      rw [ed]
      refine sg_J7_fill_53178_5 hc _ _ _ _ _ _ _ ⟨fun c => ?_, fun c => ?_⟩
      · rw [e31] at c
        exact absurd ((nle_nI (a := 31) (b := 30 - t) (by omega) (by omega)).mp c) (by omega)
      · refine bif_t ha ⟨vp_nI (by omega) (by show 30 - t < 31; omega), ?_⟩
        rw [tn_nI (by omega), show nI (30 - t) + 1 = nI (31 - t) from by rw [nI_k1]; exact congrArg nI (by omega)]
        refine ih _ (by omega) (fun i hi => (uI_ne hi).trans (h1 i hi)) (fun k hk => ?_)
        by_cases q : k = 30 - t
        · subst q; exact rd_eq
        · rw [rd_k q]; exact h2 k (by omega)
  refine sg_J7_fill_53178_0 hc _ _ _ _ _ ?_
  refine bif_tF ha ?_
  exact L 31 I (by decide) (fun _ _ => rfl) (fun k hk => absurd hk (Nat.not_lt_zero _))
noncomputable def s0R : RwS := (31, [], 0, fun _ => 0)
theorem RwI_z {g z z2 : Nat} {A : Int32} {s : RwS} (h : RwI g A z s I) : RwI g A z2 s (uI I 35 2 (nI z2)) := by
  obtain ⟨e0, e1, e2, e5, e7, e6, e8, eb, hg⟩ := h
  refine ⟨(rd_k (by decide)).trans e0, fun d a b => ?_, rd_eq, (rd_k (by decide)).trans e5, fun i hi => (rd_ne (by decide)).trans (e7 i hi), (rd_k (by decide)).trans e6, fun d hd => (rd_ne (by decide)).trans (e8 d hd), eb, hg⟩
  rw [rd_k (by decide)]; exact e1 d a b
theorem px_begin {g d : Nat} {A : Int32} (hg : g ≤ 2) (hQ : ∀ (I2 : Im), (∀ z, RwI g A z s0R (uI I2 35 2 (nI z))) → FrO I J I2 J → Q 0 0 I2 J R) : AM (d + 2) 75 112 [.ref 35, .int (nI g), .int A] I J R Q := by
  refine w_X7_begin (px_fill0 (fun x y I2 h1 h2 => hQ I2 (fun z => ?_) ?_))
  · have e35 := h1 35 (by decide)
    refine ⟨?_, fun d a b => ?_, rd_eq, ?_, fun i hi => absurd hi (Nat.not_lt_zero _), ?_, fun d hd => ?_, Or.inr rfl, hg⟩
    · rw [rd_k (by decide), e35, rd_k (by decide), rd_k (by decide), rd_k (by decide), rd_eq]
    · rw [rd_k (by decide), e35, rd_k (by decide), rd_k (by decide), rd_eq]
      show inS A (nI d) = (SA A d && decide (d < 31))
      rw [decide_eq_true (by omega), Bool.and_true]; rfl
    · rw [rd_k (by decide), e35, rd_k (by decide), rd_eq]; rfl
    · rw [rd_k (by decide), e35, rd_eq]; rfl
    · rw [rd_ne (by decide)]
      exact h2 d (by omega)
  · have hF : FrO I J (uI (uI (uI (uI I 35 0 (nI g)) 35 1 A) 35 5 0) 35 6 0) J := (((FrW.rf.u (Or.inl rfl)).u (Or.inl rfl)).u (Or.inl rfl)).u (Or.inl rfl)
    exact ⟨fun o k q => (congrFun (h1 o (fun z => q (Or.inr (Or.inr (Or.inr z))))) k).trans (hF.1 o k q), fun _ _ _ => rfl⟩
theorem px_seekRows {g k d : Nat} {A : Int32} {s : RwS} {v : Int64} {l : Int} (hk : k + 1 ≤ 5) (hv : v.toInt = l) (hl : -1000000000000000 ≤ l ∧ l ≤ 1000000000000000) (h : RwI g A (k + 1) s (uI I 35 2 (nI (k + 1)))) (hQ : ∀ I2, RwI g A (k + 1) (rwRun g (rws (SA A) 30 (k + 1) l) s).1 I2 → FrO I J I2 J → Q (bl (rwRun g (rws (SA A) 30 (k + 1) l) s).2) 0 I2 J R) : AM (d + k + 5) 79 112 [.ref 35, .int (nI (k + 1)), .long v] I J R Q := by
  have e0 : ([] : List Nat).length + (k + 1) = k + 1 := Nat.zero_add _
  refine w_X7_seekRowsOf (px_seek (g := g) (A := A) k 30 [] l v s d _ _ hv hl (by rw [e0]; exact hk) (by decide) (fun x hx => absurd hx List.not_mem_nil) (by rw [e0]; exact h) (fun i hi => absurd hi (Nat.not_lt_zero _)) (fun I2 a _ c _ => ⟨bl_01, ?_⟩))
  rw [e0, rsP_0] at a
  rw [rsP_0]
  exact hQ I2 a ((FrW.rf.u (Or.inl rfl)).tr c)
theorem px_findFewest {d : Nat} {A : Int32} {v : Int64} {l : Int} (hv : v.toInt = l) (hl : -1000000000000000 ≤ l ∧ l ≤ 1000000000000000) (hQ : ∀ I2, (∀ r, fwC (SA A) l = some r → I2 35 5 = nI r.length ∧ ∀ i, i < r.length → I2 37 i = nI (r.getD i 0)) → FrO I J I2 J → Q (bl (fwC (SA A) l).isSome) 0 I2 J R) : AM (d + 10) 76 112 [.ref 35, .int A, .long v] I J R Q := by
  refine am_X7_findFewest (fun P hc => sg_X7_findFewest_0 hc _ _ _ _ _ ?_)
  refine px_begin (g := 0) (by decide) (fun I1 h0 hF1 => ?_)
  have z0 : (0 : Int64).toInt = 0 := rfl
  refine ⟨fun c => ?_, fun c => ?_⟩
  · rw [lg_cmp_eq] at c
    have l0 := cl_ne hv z0 c
    by_cases ln : l < 0
    · have e : fwC (SA A) l = none := by unfold fwC; rw [if_neg l0, if_pos ln]
      rw [e] at hQ
      have fin := hQ I1 (fun r h => by cases h) hF1
      refine sg_X7_findFewest_22 hc _ _ _ _ _ _ ⟨fun _ => ⟨Or.inl rfl, fin⟩, fun _ => ⟨fun q => absurd rfl q, fun _ => ⟨fun _ => ⟨Or.inl rfl, fin⟩, fun q => ?_⟩⟩⟩
      rw [lg_cmp_le] at q
      have := cl_nle hv z0 q
      omega
    · have e : fwC (SA A) l = fwR (SA A) l 5 1 := by unfold fwC; rw [if_neg l0, if_neg ln]
      rw [e] at hQ
      have L22 : ∀ (f n : Nat) (M : Im), n + f = 6 → 1 ≤ n → (∀ z, RwI 0 A z s0R (uI M 35 2 (nI z))) → FrO I J M J → (∀ I2, (∀ r, fwR (SA A) l f n = some r → I2 35 5 = nI r.length ∧ ∀ i, i < r.length → I2 37 i = nI (r.getD i 0)) → FrO I J I2 J → Q (bl (fwR (SA A) l f n).isSome) 0 I2 J R) → P 22 112 [(0, .ref 35), (2, .long v), (4, .int 0), (5, .int (nI n))] [] M J R := by
        intro f
        induction f with
        | zero =>
          intro n M hn h1 h0 hF hQ
          exact sg_X7_findFewest_22 hc _ _ _ _ _ _ ⟨fun _ => ⟨Or.inl rfl, hQ M (fun r h => by cases h) hF⟩, fun c => absurd ((nlt_nI (a := 5) (by omega) (by omega)).mpr (by omega)) c⟩
        | succ f ih =>
          intro n M hn h1 h0 hF hQ
          obtain ⟨k, rfl⟩ : ∃ k, n = k + 1 := ⟨n - 1, by omega⟩
          refine sg_X7_findFewest_22 hc _ _ _ _ _ _ ⟨fun c => absurd ((nlt_nI (a := 5) (by omega) (by omega)).mp c) (by omega), fun _ => ⟨fun q => absurd rfl q, fun _ => ⟨fun q => ?_, fun _ => ?_⟩⟩⟩
          · rw [lg_cmp_le] at q
            have := cl_le hv z0 q
            omega
          have e9 : d + 9 = (d + (4 - k)) + k + 5 := by omega
          rw [e9]
          refine px_seekRows (g := 0) (A := A) (by omega) hv hl (h0 (k + 1)) (fun I2 a c _ => ?_)
          cases q : rws (SA A) 30 (k + 1) l with
          | nil =>
            rw [q] at a
            rw [fwR_n q] at hQ
            rw [nI_k1]
            exact ih (k + 2) I2 (by omega) (by omega) (fun z => RwI_z a) (hF.tr c) hQ
          | cons r rs =>
            rw [q] at a
            rw [fwR_c q] at hQ
            have fin := hQ I2 (fun r2 h2 => by
              have e : r = r2 := Option.some.inj h2
              subst e
              exact ⟨a.2.2.2.1, a.2.2.2.2.1⟩) (hF.tr c)
            exact sg_X7_findFewest_22 hc _ _ _ _ _ _ ⟨fun _ => ⟨Or.inr rfl, fin⟩, fun _ => ⟨fun _ => ⟨Or.inr rfl, fin⟩, fun z => absurd (show (1 : Int32) = 0 from z) (by decide)⟩⟩
      exact L22 5 1 I1 (by decide) (by decide) h0 hF1 hQ
  · rw [lg_cmp_eq] at c
    have l0 : l = 0 := cl_eq hv z0 c
    have e : fwC (SA A) l = some [] := if_pos l0
    rw [e] at hQ
    have a0 := h0 0
    have e5 : I1 35 5 = 0 := by
      have := a0.2.2.2.1
      rw [rd_k (by decide)] at this
      exact this
    have fin := hQ I1 (fun r h => by
      have e2 : [] = r := Option.some.inj h
      subst e2
      exact ⟨e5, fun i hi => absurd hi (Nat.not_lt_zero _)⟩) hF1
    exact sg_X7_findFewest_22 hc _ _ _ _ _ _ ⟨fun _ => ⟨Or.inr rfl, fin⟩, fun _ => ⟨fun _ => ⟨Or.inr rfl, fin⟩, fun z => absurd z (by decide)⟩⟩
end RWL
end PT9x8
