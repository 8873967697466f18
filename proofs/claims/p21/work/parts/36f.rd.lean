/-! ===== the scribe reads a bakery: men, the whole ===== -/
section RB3
variable {T : Nat → Int32} {e a d o : Nat} {I : Im} {J : Jm} {R : Rm} {Q : Qt} {B : BS}
theorem px_named {C : Nat → Int32} {N : Nat → Int64} {w : Int64} (hO : isO 112 o 0 = true) (hC : COk C) (hB : BkC C N o I J) (hQ : Q (nmG N w (mnN C) 0) 0 I J R) : AM (d + 1) 5 112 [.ref o, .long w] I J R Q := by
  refine am_X0_manNamed (fun P hc => sg_X0_manNamed_0 hc _ _ _ _ _ ?_)
  obtain ⟨hA, hL, -⟩ := fa_0_5 hO
  have hm := hC.m
  have L : ∀ f k : Nat, k + f = mnN C → nmG N w (mnN C) 0 = nmG N w f k → P 2 112 [(0, .ref o), (1, .long w), (3, .int (nI k))] [] I J R := by
    intro f
    induction f with
    | zero =>
      intro k hk hv
      refine sg_X0_manNamed_2 hc _ _ _ _ _ _ (bif_t hO ?_)
      rw [hB.1, hm.2]
      refine ⟨fun _ => ?_, fun c => absurd ?_ c⟩
      · rw [hv] at hQ; exact hQ
      · rw [show k = mnN C by omega]; exact (nle_nI (by omega) (by omega)).mpr (Nat.le_refl _)
    | succ f ih =>
      intro k hk hv
      refine sg_X0_manNamed_2 hc _ _ _ _ _ _ (bif_t hO ?_)
      rw [hB.1, hm.2]
      refine ⟨fun c => absurd ((nle_nI (by omega) (by omega)).mp c) (by omega), fun _ => bif_t hO (bif_t hA ⟨vp_nI (by omega) (by omega), ?_⟩)⟩
      rw [tn_nI (by omega), (hB.2.2.2.2.2 k (by omega)).1, nI_k1, lg_cmp_eq]
      have e1 : nmG N w (f + 1) k = if N k = w then nI k else nmG N w f (k + 1) := rfl
      rw [e1] at hv
      refine ⟨fun c => ?_, fun c => ?_⟩
      · rw [if_neg c] at hv
        exact ih (k + 1) (by omega) hv
      · rw [if_pos c] at hv
        rw [hv] at hQ; exact hQ
  exact L (mnN C) 0 (by omega) rfl
noncomputable abbrev Wo (o : Nat) : Nat → Nat → Prop := fun c _ => o ≤ c ∧ c ≤ o + 5
noncomputable abbrev Vo (o : Nat) : Nat → Nat → Prop := fun c _ => c = o + 2
theorem px_addMan {C : Nat → Int32} {N : Nat → Int64} {w : Int64} {p q : Int32} {m : Nat} (hO : isO 112 o 0 = true) (hm : m ≤ 5) (e : C 0 = nI m) (hB : BkC C N o I J) (hQ : ∀ I2 J2, FrW (Wo o) (Vo o) I J I2 J2 → BkC (upd (upd (upd (upd C (34 + m) p) (40 + m) q) (46 + m) 0) 0 (nI m + 1)) (vp_updL N m w) o I2 J2 → Q (nI m) 0 I2 J2 R) : AM (d + 1) 4 112 [.ref o, .long w, .int p, .int q] I J R Q := by
  refine w_X0_addMan (bif_t hO ?_)
  obtain ⟨hA2, hL2, -⟩ := fa_0_5 hO
  obtain ⟨hA3, hL3, -⟩ := fa_0_6 hO
  obtain ⟨hA4, hL4, -⟩ := fa_0_7 hO
  obtain ⟨hA5, hL5, -⟩ := fa_0_8 hO
  have e0 : I o 4 = nI m := hB.1.trans e
  have e1 : uI I (o + 3) m p o 4 = nI m := (rd_ne (by omega)).trans e0
  have e2 : uI (uI I (o + 3) m p) (o + 4) m q o 4 = nI m := (rd_ne (by omega)).trans e1
  have e3 : uI (uI (uI I (o + 3) m p) (o + 4) m q) (o + 5) m 0 o 4 = nI m := (rd_ne (by omega)).trans e2
  have tn : Int32.toNatClampNeg (nI m) = m := tn_nI (by omega)
  rw [e0, tn, e1, tn, e2, tn, e3, rd_eq]
  refine ⟨fun _ => bif_t hO (bif_t hO (bif_t hA2 ⟨vp_nI (by omega) (by omega), bif_t hO (bif_t hO (bif_t hA3 ⟨vp_nI (by omega) (by omega), bif_t hO (bif_t hO (bif_t hA4 ⟨vp_nI (by omega) (by omega), bif_t hO (bif_t hO (bif_t hA5 ⟨vp_nI (by omega) (by omega), bif_t hO (bif_t hO (bif_t hO ?_))⟩))⟩))⟩))⟩)), fun c => absurd ((nlt_nI (b := 6) (by omega) (by omega)).mpr (by omega)) c⟩
  have e5 : nI m + 1 - 1 = nI m := by rw [nI_k1, nI_pred]
  rw [e5]
  exact hQ _ _ ((((FrW.rf.u ⟨by omega, by omega⟩).u ⟨by omega, by omega⟩).u ⟨by omega, by omega⟩).u ⟨by omega, by omega⟩ |>.uj rfl) (hB.man hm e)
theorem FrW.mb {o : Nat} {I I2 : Im} {J J2 : Jm} (h : FrW (Wo o) (Vo o) I J I2 J2) : FrB o I J I2 J2 := h.up (fun _ _ q => Or.inr (Or.inr q)) (fun _ _ q => Or.inr q)
theorem px_isMan {m x : Nat} (hO : isO 112 o 0 = true) (hm : m ≤ 6) (e : I o 4 = nI m) (hx : x < m) (hQ : Q 1 0 I J R) : AM (d + 1) 3 112 [.ref o, .int (nI x)] I J R Q := by
  refine w_X0_isMan ⟨fun c => absurd c (nI_pos (by omega)), fun _ => bif_t hO ?_⟩
  rw [e]
  exact ⟨fun c => absurd ((nle_nI (by omega) (by omega)).mp c) (by omega), fun _ => ⟨Or.inr rfl, hQ⟩⟩
theorem Rd.f_ {I2 : Im} {J2 : Jm} (h : Rd T e a I J) (ho : 9 ≤ o) (hF : FrW (Wo o) (Vo o) I J I2 J2) : Rd T e a I2 J2 :=
  h.o (hF.c (by intro k q; omega)) (hF.c (by intro k q; omega)) (hF.cj (by intro k q; omega)) (hF.cj (by intro k q; omega))
theorem px_rMan (ho : 9 ≤ o) (hO : isO 112 o 0 = true) (hC : COk B.1) (h : Rd T e a I J) (hB : BkS B o I J) (hE : ∀ p I2 J2, prM T e B a = .error p → FrB o I J I2 J2 → Ft p I2 → Q 0 0 I2 J2 R) (hK : ∀ B2 b I2 J2, prM T e B a = .ok (B2, b) → FrB o I J I2 J2 → Rd T e b I2 J2 → BkS B2 o I2 J2 → Q 1 0 I2 J2 R) : AM (d + 5) 24 112 [.ref o, .ref 3] I J R Q := by
  have hm := hC.m
  obtain ⟨hA5, hL5, -⟩ := fa_0_8 hO
  refine w_X1_readMan (px_any h (fun I1 J1 hF1 h1 h7 _ => bif_t hO ?_))
  have hB1 := hB.r ho hF1
  rw [hB1.1.1, hm.2]
  refine ⟨fun c => ?_, fun c => ?_⟩
  · have hm5 : mnN B.1 < 6 := (nlt_nI (b := 6) (by omega) (by omega)).mp c
    have c6 : ¬ B.1 0 = 6 := fun q => by
      rw [hm.2] at q
      have := (nK (b := 6) (by omega) (by omega)).mp q
      omega
    have hv : prM T e B a = rb (tkM T e (tB (tok T e a))) fun w b => if nmG B.2.1 w (mnN B.1) 0 = -1 then
        rb (tkW T e 5 b) fun _ b => rb (tkN T e 1 99 b) fun p b => rb (tkW T e 6 b) fun _ b => rb (tkN T e 1 30 b) fun q b =>
        rb (if tI (tok T e b) = 7 then tkL T e 31 0 (tB (tok T e b)) else .ok (0, b)) fun h b => rb (tkS T e b) fun _ b =>
        .ok ((upd (upd (upd (upd B.1 (34 + mnN B.1) p) (40 + mnN B.1) q) (46 + mnN B.1) h) 0 (B.1 0 + 1), vp_updL B.2.1 (mnN B.1) w, B.2.2), b)
      else .error (3, tS (tok T e (tB (tok T e a)))) := by
      unfold prM; rw [if_neg c6]
    refine px_name h1 (fun p I2 J2 hp hF2 hf => ?_) (fun w b I2 J2 hp hw hF2 h2 h72 => ?_)
    · refine ⟨fun q => absurd ((lg_cmp_eq 0 0).mpr rfl) q, fun _ => ⟨Or.inl rfl, hE p _ _ (by rw [hv, rb_e hp]) (hF1.rb.tr hF2.rb) hf⟩⟩
    rw [rb_k hp] at hv
    have hB2 := hB1.r ho hF2
    have hFa := hF1.rb.tr (hF2.rb (o := o))
    refine ⟨fun _ => bif_t hO (px_named hO hC hB2.1 ⟨fun c3 => ?_, fun c3 => ?_⟩), fun q => absurd ((lg_cmp_eq _ _).mp q) hw⟩
    · rw [if_pos c3] at hv
      refine px_word h2 (fun p I4 J4 hp4 hF4 hf _ => ⟨fun _ => ⟨fun _ => ⟨Or.inl rfl, hE p _ _ (by rw [hv, rb_e hp4]) (hFa.tr hF4.rb) hf⟩, fun q => absurd rfl q⟩, fun q => absurd rfl q⟩) (fun b4 I4 J4 hp4 hF4 h4 _ => ⟨fun q => absurd q (by decide), fun _ => ?_⟩)
      rw [rb_k hp4] at hv
      refine px_num h4 (fun p I5 J5 hp5 hF5 hf => ⟨fun _ => ⟨Or.inl rfl, hE p _ _ (by rw [hv, rb_e hp5]) ((hFa.tr hF4.rb).tr hF5.rb) hf⟩, fun q => absurd rfl q⟩) (fun p b5 I5 J5 hp5 m1 m2 hF5 h5 h75 => ?_)
      rw [rb_k hp5] at hv
      refine ⟨fun q => by rw [q] at m1; exact absurd m1 (by decide), fun _ => ?_⟩
      refine px_word h5 (fun p I6 J6 hp6 hF6 hf _ => ⟨fun q => absurd rfl q, fun _ => ⟨Or.inl rfl, hE p _ _ (by rw [hv, rb_e hp6]) (((hFa.tr hF4.rb).tr hF5.rb).tr hF6.rb) hf⟩⟩) (fun b6 I6 J6 hp6 hF6 h6 _ => ⟨fun _ => ?_, fun q => absurd q (by decide)⟩)
      rw [rb_k hp6] at hv
      have hFb := ((hFa.tr hF4.rb).tr hF5.rb).tr (hF6.rb (o := o))
      refine px_num h6 (fun p I7 J7 hp7 hF7 hf => ⟨fun q => absurd rfl q, fun _ => ⟨Or.inl rfl, hE p _ _ (by rw [hv, rb_e hp7]) (hFb.tr hF7.rb) hf⟩⟩) (fun q b7 I7 J7 hp7 n1 n2 hF7 h7_ h77 => ?_)
      rw [rb_k hp7] at hv
      have hB7 := (((hB2.r ho hF4).r ho hF5).r ho hF6).r ho hF7
      refine ⟨fun _ => bif_t hO (px_addMan (p := p) (q := q) (m := mnN B.1) hO (by omega) hm.2 hB7.1 (fun I8 J8 hF8 hB8 => ?_)), fun z => by rw [z] at n1; exact absurd n1 (by decide)⟩
      have h8 : Rd T e b7 I8 J8 := h7_.f_ ho hF8
      have hFc := (hFb.tr hF7.rb).tr hF8.mb
      have e6 : I8 6 = I7 6 := hF8.c (by intro k z; omega)
      have hS8 : ∀ s : Int32, ∀ I9 J9, FrW (WB o) (VB o) I J I9 J9 → BkC (upd (upd (upd (upd B.1 (34 + mnN B.1) p) (40 + mnN B.1) q) (46 + mnN B.1) s) 0 (B.1 0 + 1)) (vp_updL B.2.1 (mnN B.1) w) o I9 J9 → I9 6 = I8 6 → BkS (upd (upd (upd (upd B.1 (34 + mnN B.1) p) (40 + mnN B.1) q) (46 + mnN B.1) s) 0 (B.1 0 + 1), vp_updL B.2.1 (mnN B.1) w, B.2.2) o I9 J9 := fun s I9 J9 _ hb h6 => by
        refine ⟨hb, ?_⟩
        rw [h6, e6]; exact hB7.2
      rw [← hm.2] at hB8
      rw [h8.w, h8.f]
      refine ⟨fun c9 => ⟨fun z => absurd rfl z, fun _ => ?_⟩, fun c9 => bif_t hO (px_isMan hO (m := mnN B.1 + 1) (by omega) ?_ (by omega) (fun _ => ⟨fun z => absurd z (by decide), fun _ => ?_⟩))⟩
      · rw [if_neg c9] at hv
        have hv2 : prM T e B a = rb (tkS T e b7) fun _ b => .ok ((upd (upd (upd (upd B.1 (34 + mnN B.1) p) (40 + mnN B.1) q) (46 + mnN B.1) 0) 0 (B.1 0 + 1), vp_updL B.2.1 (mnN B.1) w, B.2.2), b) := hv
        have hB9 := hS8 0 I8 J8 hFc hB8 rfl
        exact px_semi h8 (fun p I4 J4 hp4 hF4 hf _ => ⟨fun _ => ⟨Or.inl rfl, hE p _ _ (by rw [hv2, rb_e hp4]) (hFc.tr hF4.rb) hf⟩, fun q => absurd rfl q⟩) (fun b2 I4 J4 hp4 hF4 h4 _ => ⟨fun q => absurd q (by decide), fun _ => ⟨Or.inr rfl, hK _ _ _ _ (by rw [hv2, rb_k hp4]) (hFc.tr hF4.rb) h4 (hB9.r ho hF4)⟩⟩)
      · rw [hB8.1, upd_s, hm.2, nI_k1]
      · rw [if_pos c9] at hv
        refine px_any h8 (fun I9 J9 hF9 h9 _ _ => bif_t hO (px_slices h9 (fun p x I10 J10 hp10 hF10 hf => bif_t hA5 ⟨vp_nI (by omega) (by omega), ?_⟩) (fun s b10 I10 J10 hp10 hF10 h10 => bif_t hA5 ⟨vp_nI (by omega) (by omega), ?_⟩)))
        · have hf2 : Ft p (uI I10 (o + 5) (Int32.toNatClampNeg (nI (mnN B.1))) x) := hf.w_ (by omega)
          refine ⟨fun _ => ⟨Or.inl rfl, hE p _ _ (by rw [hv, rb_e hp10]) (((hFc.tr hF9.rb).tr hF10.rb).u (Or.inr (Or.inr ⟨by omega, by omega⟩))) hf2⟩, fun z => absurd z hf2.ne⟩
        · rw [rb_k hp10] at hv
          have hFd : FrB o I J (uI I10 (o + 5) (Int32.toNatClampNeg (nI (mnN B.1))) s) J10 := ((hFc.tr hF9.rb).tr hF10.rb).u (Or.inr (Or.inr ⟨by omega, by omega⟩))
          have h11 : Rd T e b10 (uI I10 (o + 5) (Int32.toNatClampNeg (nI (mnN B.1))) s) J10 := h10.w_ (by omega) (by omega)
          have hB10 : BkC (upd (upd (upd (upd B.1 (34 + mnN B.1) p) (40 + mnN B.1) q) (46 + mnN B.1) s) 0 (B.1 0 + 1)) (vp_updL B.2.1 (mnN B.1) w) o (uI I10 (o + 5) (Int32.toNatClampNeg (nI (mnN B.1))) s) J10 := by
            have h12 : BkC (upd (upd (upd (upd B.1 (34 + mnN B.1) p) (40 + mnN B.1) q) (46 + mnN B.1) 0) 0 (B.1 0 + 1)) (vp_updL B.2.1 (mnN B.1) w) o I10 J10 := (hB8.cp (fun c _ _ => hF9.six (by omega)) (hF9.cj (VR.no (by omega)))).cp (fun c _ _ => hF10.six (by omega)) (hF10.cj (VR.no (by omega)))
            have h13 := h12.having (v := s) (m := mnN B.1) (by omega) (by rw [show mnN (upd (upd (upd (upd B.1 (34 + mnN B.1) p) (40 + mnN B.1) q) (46 + mnN B.1) 0) 0 (B.1 0 + 1)) = mnN B.1 + 1 from mnN_of (by omega) (by rw [upd_s, hm.2, nI_k1])]; omega)
            rw [tn_nI (by omega)]
            have ec : upd (upd (upd (upd (upd B.1 (34 + mnN B.1) p) (40 + mnN B.1) q) (46 + mnN B.1) 0) 0 (B.1 0 + 1)) (46 + mnN B.1) s = upd (upd (upd (upd B.1 (34 + mnN B.1) p) (40 + mnN B.1) q) (46 + mnN B.1) s) 0 (B.1 0 + 1) := by
              funext j
              by_cases z : j = 46 + mnN B.1
              · subst z; rw [upd_s, upd_i (by omega), upd_s]
              · rw [upd_i z]
                by_cases z2 : j = 0
                · subst z2; rw [upd_s, upd_s]
                · rw [upd_i z2, upd_i z, upd_i z2, upd_i z]
            rw [ec] at h13
            exact h13
          have e66 : uI I10 (o + 5) (Int32.toNatClampNeg (nI (mnN B.1))) s 6 = I8 6 := (uI_ne (by omega)).trans ((hF10.six (by decide)).trans (hF9.six (by decide)))
          have hB11 := hS8 s _ _ hFd hB10 e66
          refine ⟨fun z => absurd h11.f z, fun _ => ?_⟩
          exact px_semi h11 (fun p I4 J4 hp4 hF4 hf _ => ⟨fun _ => ⟨Or.inl rfl, hE p _ _ (by rw [hv, rb_e hp4]) (hFd.tr hF4.rb) hf⟩, fun q => absurd rfl q⟩) (fun b2 I4 J4 hp4 hF4 h4 _ => ⟨fun q => absurd q (by decide), fun _ => ⟨Or.inr rfl, hK _ _ _ _ (by rw [hv, rb_k hp4]) (hFd.tr hF4.rb) h4 (hB11.r ho hF4)⟩⟩)
    · rw [if_neg c3] at hv
      exact px_wt (k := 3) (by decide) h72 (fun I3 hF3 hf _ => ⟨Or.inl rfl, hE _ _ _ hv (hFa.tr hF3.rb) hf⟩)
  · have hm6 : mnN B.1 = 6 := by have := ge_of (b := 6) (by omega) (by omega) c; omega
    refine px_wt (k := 6) (by decide) h7 (fun I2 hF2 hf _ => ⟨Or.inl rfl, hE _ _ _ ?_ (hF1.rb.tr hF2.rb) hf⟩)
    unfold prM; rw [if_pos (by rw [hm.2, hm6]; rfl)]
end RB3
