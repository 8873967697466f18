/-! ===== the scribe reads days: a block's end, the loop ===== -/
section DYL
variable {T : Nat → Int32} {e a d : Nat} {N : Nat → Int64} {I : Im} {J : Jm} {R : Rm} {Q : Qt} {p M : Nat}
theorem px_end {s : DS} (hO : isO 112 p 2 = true) (hs : SDs s p I) (hD : DOk s) (h : Rd T e a I J) (hE : ∀ q I2 J2, dyE T e s a = .error q → FrY p I J I2 J2 → Ft q I2 → Q 0 0 I2 J2 R) (hK : ∀ s2 b I2 J2, dyE T e s a = .ok (s2, b) → FrY p I J I2 J2 → Rd T e b I2 J2 → SDs s2 p I2 → DOk s2 → Q 1 0 I2 J2 R) : AM (d + 5) 34 112 [.ref 7, .ref p, .ref 3] I J R Q := by
  have hp := p_ge hO
  obtain ⟨h30, h3, hLL, ho4, -⟩ := id hD
  have eE : dyE T e s a = if dD s = 0 then .error (mis T e a) else rb (tkS T e (tB (tok T e a))) fun _ b => .ok (dsE s, b) := rfl
  refine w_X3_readEnd ?_
  rw [hs.2.2.1]
  refine ⟨fun c1 => ?_, fun c1 => ?_⟩
  · have n0 : ¬ dD s = 0 := by have := (nle_nI (a := 1) (by omega) (by omega)).mp c1; omega
    rw [if_neg n0] at eE
    obtain ⟨k, hk⟩ : ∃ k, dD s = k + 1 := ⟨dD s - 1, by omega⟩
    have hb := ho4 k (by omega)
    refine px_any h (fun I1 J1 hF1 h1 _ _ => bif_t hO ?_)
    have hs1 := hs.fr (by omega) hF1
    rw [hs1.2.2.1, hk, nI_pred]
    have e2 : uI I1 7 1 (nI k) p 2 = nI (dL s) := (rd_ne (by omega)).trans hs1.2.1
    refine px_addD hO (by omega) e2 (fun _ => ⟨fun _ => ?_, fun z => absurd z (by decide)⟩)
    have q7 : adI (uI I1 7 1 (nI k)) p (dL s) (20, 0, 0, 0) 7 1 = nI k := by rw [adI_o (by omega)]; exact rd_eq
    have q8 : adI (uI I1 7 1 (nI k)) p (dL s) (20, 0, 0, 0) 8 k = nI (dO s k) := by rw [adI_o (by omega), rd_ne (by omega)]; exact hs1.2.2.2.1 k (by omega)
    have q2 : adI (uI I1 7 1 (nI k)) p (dL s) (20, 0, 0, 0) p 2 = nI (dL s + 1) := ad_p2
    show vp_in (adI (uI I1 7 1 (nI k)) p (dL s) (20, 0, 0, 0) 7 1) 3 ∧ (bif isO 112 p 2 then (bif isO 112 p 2 then AM (d + 4) 31 112 [.ref p, .int (adI (uI I1 7 1 (nI k)) p (dL s) (20, 0, 0, 0) 8 (Int32.toNatClampNeg (adI (uI I1 7 1 (nI k)) p (dL s) (20, 0, 0, 0) 7 1))), .int ((adI (uI I1 7 1 (nI k)) p (dL s) (20, 0, 0, 0) p 2) - 1)] (adI (uI I1 7 1 (nI k)) p (dL s) (20, 0, 0, 0)) J1 R _ else False) else False)
    rw [q7, tn_nI (by omega), q8, q2, nI_pred]
    refine ⟨vp_nI (by omega) (by omega), bif_t hO (bif_t hO (px_pairD hO (L := dL s + 1) (by omega) (by omega) (by omega) q2 ?_))⟩
    have hF3 : FrY p I J (uI (uI (adI (uI I1 7 1 (nI k)) p (dL s) (20, 0, 0, 0)) (p + 5) (dO s k) (nI (dL s))) (p + 5) (dL s) (nI (dO s k))) J1 := ((FrY.ad (hF1.y.u (Or.inr (Or.inl rfl)))).u (Or.inr (Or.inr (Or.inr (by omega))))).u (Or.inr (Or.inr (Or.inr (by omega))))
    have hs3 : SDs (dsE s) p (uI (uI (adI (uI I1 7 1 (nI k)) p (dL s) (20, 0, 0, 0)) (p + 5) (dO s k) (nI (dL s))) (p + 5) (dL s) (nI (dO s k))) := by
      have hd : dD (dsE s) = k := by show dD s - 1 = k; omega
      refine ⟨?_, ?_, ?_, fun j hj => ?_, fun j hj => ?_⟩
      · rw [rd_ne (by omega), rd_ne (by omega), ad_p1, rd_ne (by omega)]; exact hs1.1
      · rw [rd_ne (by omega), rd_ne (by omega)]; exact ad_p2
      · rw [rd_ne (by omega), rd_ne (by omega), hd]; exact q7
      · rw [hd] at hj
        rw [rd_ne (by omega), rd_ne (by omega), adI_o (by omega), rd_ne (by omega)]; exact hs1.2.2.2.1 j (by omega)
      · have hj2 : j < dL s + 1 := hj
        have o1 : ∀ c, ¬ c = p + 5 → uI (uI (adI (uI I1 7 1 (nI k)) p (dL s) (20, 0, 0, 0)) (p + 5) (dO s k) (nI (dL s))) (p + 5) (dL s) (nI (dO s k)) c = adI (uI I1 7 1 (nI k)) p (dL s) (20, 0, 0, 0) c := fun c hc => (uI_ne hc).trans (uI_ne hc)
        rw [o1 (p + 1) (by omega), o1 (p + 2) (by omega), o1 (p + 3) (by omega), o1 (p + 4) (by omega), ad_1, ad_2, ad_3, ad_4]
        have eC : dC (dsE s) j = if j = dL s then (20, 0, 0, 0) else dC s j := rfl
        have eM : dM (dsE s) j = if j = dL s then dO s (dD s - 1) else if j = dO s (dD s - 1) then dL s else if j = dL s then dL s else dM s j := rfl
        rw [eC, eM, show dD s - 1 = k by omega]
        by_cases q : j = dL s
        · subst q
          rw [if_pos rfl, if_pos rfl, if_pos rfl, if_pos rfl, if_pos rfl, if_pos rfl, rd_eq]
          exact ⟨rfl, rfl, rfl, rfl, rfl⟩
        · have old := hs1.2.2.2.2 j (by omega)
          rw [if_neg q, if_neg q, if_neg q, if_neg q, if_neg q, if_neg q, if_neg q, rd_k q, rd_ne (show ¬ p + 1 = 7 by omega), rd_ne (show ¬ p + 2 = 7 by omega), rd_ne (show ¬ p + 3 = 7 by omega), rd_ne (show ¬ p + 4 = 7 by omega)]
          refine ⟨old.1, old.2.1, old.2.2.1, old.2.2.2.1, ?_⟩
          by_cases q2 : j = dO s k
          · subst q2; rw [if_pos rfl, rd_eq]
          · rw [if_neg q2, rd_k q2, ad_5, if_neg q, rd_ne (by omega)]; exact old.2.2.2.2
    have hR3 : Rd T e (tB (tok T e a)) (uI (uI (adI (uI I1 7 1 (nI k)) p (dL s) (20, 0, 0, 0)) (p + 5) (dO s k) (nI (dL s))) (p + 5) (dL s) (nI (dO s k))) J1 :=
      h1.o ((uI_ne (by omega)).trans ((uI_ne (by omega)).trans ((adI_o (by omega)).trans (uI_ne (by decide))))) ((uI_ne (by omega)).trans ((uI_ne (by omega)).trans ((adI_o (by omega)).trans (uI_ne (by decide))))) rfl rfl
    exact px_semi hR3 (fun q I4 J4 hq hF4 hf _ => ⟨Or.inl rfl, hE q I4 J4 (by rw [eE]; exact rb_e hq) (hF3.tr hF4.y) hf⟩) (fun b I4 J4 hq hF4 h4 _ => ⟨Or.inr rfl, hK _ b I4 J4 (by rw [eE, rb_k hq]) (hF3.tr hF4.y) h4 (hs3.fr (by omega) hF4) (hD.e n0)⟩)
  · have e0 : dD s = 0 := by
      rcases Nat.eq_zero_or_pos (dD s) with z | z
      · exact z
      · exact absurd ((nle_nI (a := 1) (by omega) (by omega)).mpr z) c1
    rw [if_pos e0] at eE
    exact px_mis h (fun I2 J2 hF hf _ => ⟨Or.inl rfl, hE _ I2 J2 eE hF.y hf⟩)
theorem px_intoD {o : Nat} (hO : isO 112 p 2 = true) (hN : isO 112 o 0 = true) (hop : o + 5 < p ∨ p + 5 < o) (hm : MnA N M o I J) (h : Rd T e 0 I J) (hE : ∀ q I2 J2, dyB T e N M (e + 1) ds0 0 = .error q → FrY p I J I2 J2 → Ft q I2 → Q 0 0 I2 J2 R) (hK : ∀ s b I2 J2, dyB T e N M (e + 1) ds0 0 = .ok (s, b) → FrY p I J I2 J2 → Rd T e b I2 J2 → SDs s p I2 → I2 p 0 = 1 → DOk s → Q 1 0 I2 J2 R) : AM (d + 7) 33 112 [.ref 7, .ref p, .ref o, .ref 3] I J R Q := by
  have hp := p_ge hO
  have ho := o_ge hN
  have he := h.e
  refine am_X3_readInto (fun P hc => sg_X3_readInto_0 hc _ _ _ _ _ (bif_t hO (px_forgetD hO ?_)))
  have hFs : FrY p I J (uI (uI (uI (uI I p 0 0) p 1 0) p 2 0) 7 1 0) J := (((FrW.rf.u (Or.inr (Or.inr (Or.inr (by omega))))).u (Or.inr (Or.inr (Or.inr (by omega))))).u (Or.inr (Or.inr (Or.inr (by omega))))).u (Or.inr (Or.inl rfl))
  have Z : ∀ (q : Nat × Nat) (v5 : Int32) (I2 : Im) (J2 : Jm), dyB T e N M (e + 1) ds0 0 = .error q → FrY p I J I2 J2 → Ft q I2 → P 15 112 [(0, .ref 7), (1, .ref p), (2, .ref o), (3, .ref 3), (4, .int 0), (5, .int v5)] [] I2 J2 R := by
    intro q v5 I2 J2 hq hF hf
    have g : bif isO 112 p 2 then (((0 : Int32) = 0 ∨ (0 : Int32) = 1) ∧ (((0 : Int32) = 0 ∨ (0 : Int32) = 1) ∧ Q 0 0 (uI I2 p 0 0) J2 R)) else False := bif_t hO ⟨Or.inl rfl, Or.inl rfl, hE q _ J2 hq (hF.u (Or.inr (Or.inr (Or.inr (by omega))))) (hf.w_ (by omega))⟩
    exact sg_X3_readInto_15 hc _ _ _ _ _ _ _ ⟨fun _ => ⟨fun _ => g, fun z => absurd rfl z⟩, fun _ => ⟨fun _ => ⟨fun _ => g, fun z => absurd rfl z⟩, fun z => absurd rfl z⟩⟩
  have L : ∀ (f j a : Nat) (s : DS) (I2 : Im) (J2 : Jm), e < a + f → j ≤ a → dyB T e N M (e + 1) ds0 0 = dyB T e N M f s a → DOk s → FrY p I J I2 J2 → Rd T e a I2 J2 → SDs s p I2 → P 15 112 [(0, .ref 7), (1, .ref p), (2, .ref o), (3, .ref 3), (4, .int 1), (5, .int (nI j))] [] I2 J2 R := by
    intro f
    induction f with
    | zero => intro j a s I2 J2 hf hj hr hD hF hR hs; have := hR.a; omega
    | succ f ih =>
      intro j a s I2 J2 hf hj hr hD hF hR hs
      have ha := hR.a
      have eB : dyB T e N M (f + 1) s a = if tK (tok T e a) = 0 then (if dD s = 0 then .ok (s, a) else .error (mis T e a)) else rb (if tI (tok T e a) = 20 then dyE T e s a else dyS T e N M s a) fun s b => dyB T e N M f s b := rfl
      have h3 := hD.2.1
      have W : tK (tok T e a) = 0 → (((1 : Int32) = 0 → (bif isO 112 p 2 then (((1 : Int32) = 0 ∨ (1 : Int32) = 1) ∧ (((1 : Int32) = 0 ∨ (1 : Int32) = 1) ∧ Q 1 0 (uI I2 p 0 1) J2 R)) else False)) ∧ (¬ (1 : Int32) = 0 → ((I2 7 1 ≤ (0 : Int32) → (bif isO 112 p 2 then (((1 : Int32) = 0 ∨ (1 : Int32) = 1) ∧ (((1 : Int32) = 0 ∨ (1 : Int32) = 1) ∧ Q 1 0 (uI I2 p 0 1) J2 R)) else False)) ∧ (¬ I2 7 1 ≤ (0 : Int32) → AM (d + 6) 66 112 [.ref 3] I2 J2 R (fun x1 y1 I1 J1 R1 => (x1 = 0 ∨ x1 = 1) → (bif isO 112 p 2 then (((x1 : Int32) = 0 ∨ (x1 : Int32) = 1) ∧ (((x1 : Int32) = 0 ∨ (x1 : Int32) = 1) ∧ Q x1 0 (uI I1 p 0 x1) J1 R)) else False)))))) := by
        intro k0
        rw [if_pos k0] at eB
        refine ⟨fun z => absurd z (by decide), fun _ => ?_⟩
        rw [hs.2.2.1]
        refine ⟨fun c => ?_, fun c => ?_⟩
        · have d0 : dD s = 0 := by have := (nle_nI (b := 0) (by omega) (by omega)).mp c; omega
          rw [if_pos d0] at eB
          refine bif_t hO ⟨Or.inr rfl, Or.inr rfl, hK s a _ J2 (hr.trans eB) (hF.u (Or.inr (Or.inr (Or.inr (by omega))))) (hR.o (uI_ne (by omega)) (uI_ne (by omega)) rfl rfl) ⟨?_, ?_, ?_, fun k hk => ?_, fun k hk => ?_⟩ rd_eq hD⟩
          · rw [rd_k (by decide)]; exact hs.1
          · rw [rd_k (by decide)]; exact hs.2.1
          · rw [rd_ne (by omega)]; exact hs.2.2.1
          · rw [rd_ne (by omega)]; exact hs.2.2.2.1 k hk
          · rw [rd_ne (by omega), rd_ne (by omega), rd_ne (by omega), rd_ne (by omega), rd_ne (by omega)]; exact hs.2.2.2.2 k hk
        · have d0 : ¬ dD s = 0 := fun z => c (by rw [z]; decide)
          rw [if_neg d0] at eB
          exact px_mis hR (fun I3 J3 hF3 hf3 _ => bif_t hO ⟨Or.inl rfl, Or.inl rfl, hE _ _ J3 (hr.trans eB) ((hF.tr hF3.y).u (Or.inr (Or.inr (Or.inr (by omega))))) (hf3.w_ (by omega))⟩)
      refine sg_X3_readInto_15 hc _ _ _ _ _ _ _ ⟨fun c9 => W ?_, fun c9 => ⟨fun z => absurd z (by decide), fun _ => ⟨fun c8 => W ((hR.k_is (n := 0) (by omega)).mp c8), fun c8 => ?_⟩⟩⟩
      · have := (nle_nI (a := 900) (by omega) (by omega)).mp c9
        have ae : a = e := by omega
        have hb := tB_le (T := T) (e := e) (a := a) ha
        rcases Nat.eq_zero_or_pos (tK (tok T e a)) with z | z
        · exact z
        · have := tB_lt (T := T) ha (by omega); omega
      · have k0 : ¬ tK (tok T e a) = 0 := fun z => c8 ((hR.k_is (n := 0) (by omega)).mpr z)
        rw [if_neg k0] at eB
        rw [hR.w, nI_k1]
        have hj9 : j < 900 := by
          rcases Nat.lt_or_ge j 900 with z | z
          · exact z
          · exact absurd ((nle_nI (a := 900) (by omega) (by omega)).mpr z) c9
        refine ⟨fun c20 => ?_, fun c20 => ?_⟩
        · rw [if_neg c20] at eB
          exact px_step hO hN hop (hm.y ho hop hF) hs hD hR (fun q I3 J3 hq hF3 hf3 _ => Z q _ I3 J3 (by rw [hr, eB]; exact rb_e hq) (hF.tr hF3) hf3) (fun s2 b I3 J3 hq hF3 h3 hs3 hD3 _ => by
            have hu := up_dyS (T := T) (e := e) (N := N) (M := M) (s := s) ha
            rw [hq] at hu
            have hu1 : a < b := hu.1
            exact ih (j + 1) b s2 I3 J3 (by omega) (by omega) (by rw [hr, eB, rb_k hq]) hD3 (hF.tr hF3) h3 hs3)
        · rw [if_pos c20] at eB
          exact px_end hO hs hD hR (fun q I3 J3 hq hF3 hf3 _ => Z q _ I3 J3 (by rw [hr, eB]; exact rb_e hq) (hF.tr hF3) hf3) (fun s2 b I3 J3 hq hF3 h3 hs3 hD3 _ => by
            have hu := up_dyE (T := T) (e := e) (s := s) ha c20
            rw [hq] at hu
            have hu1 : a < b := hu.1
            exact ih (j + 1) b s2 I3 J3 (by omega) (by omega) (by rw [hr, eB, rb_k hq]) hD3 (hF.tr hF3) h3 hs3)
  refine L (e + 1) 0 0 ds0 _ J (by omega) (Nat.le_refl _) rfl DOk.z hFs (h.o ((uI_ne (by decide)).trans ((uI_ne (by omega)).trans ((uI_ne (by omega)).trans (uI_ne (by omega))))) ((uI_ne (by decide)).trans ((uI_ne (by omega)).trans ((uI_ne (by omega)).trans (uI_ne (by omega))))) rfl rfl) ⟨?_, ?_, ?_, fun k hk => absurd hk (by show ¬ k < 0; omega), fun k hk => absurd hk (by show ¬ k < 0; omega)⟩
  · rw [rd_ne (by omega), rd_k (by decide)]; exact rd_eq
  · rw [rd_ne (by omega)]; exact rd_eq
  · exact rd_eq
end DYL
