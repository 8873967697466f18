/-! ===== the scribe's bakery() ===== -/
section RB4
variable {T : Nat → Int32} {e a d o : Nat} {I : Im} {J : Jm} {R : Rm} {Q : Qt} {B : BS}
theorem px_forgetB (hO : isO 112 o 0 = true) (ho : 9 ≤ o) {N : Nat → Int64} (hQ : ∀ I2, FrW (Wo o) nV I J I2 J → BkC emC N o I2 J → Q 0 0 I2 J R) : AM (d + 2) 1 112 [.ref o] I J R Q := by
  obtain ⟨hA, hL, -⟩ := fa_0_0 hO
  refine w_X0_forget (bif_t hO (px_fill hA (fun I2 h1 h2 => bif_t hO (bif_t hO (bif_t hO (bif_t hO ?_))))))
  rw [hL] at h2
  have hF : FrW (Wo o) nV I J I2 J := ⟨fun c k q => by
    by_cases z : c = o + 1
    · exact absurd ⟨by omega, by omega⟩ (fun w => q (show o ≤ c ∧ c ≤ o + 5 from w))
    · rw [h1 c z], fun _ _ _ => rfl⟩
  refine hQ _ ((((hF.u ⟨by omega, by omega⟩).u ⟨by omega, by omega⟩).u ⟨by omega, by omega⟩).u ⟨by omega, by omega⟩) ⟨?_, ?_, ?_, ?_, fun d h3 h4 => ?_, fun k hk => ?_⟩
  · rw [rd_eq]; rfl
  · rw [rd_k (by decide), rd_k (by decide), rd_k (by decide), rd_eq]; rfl
  · rw [rd_k (by decide), rd_eq]; rfl
  · rw [rd_k (by decide), rd_k (by decide), rd_eq]; rfl
  · rw [rd_ne (by omega), rd_ne (by omega), rd_ne (by omega), rd_ne (by omega), h2, if_pos (by omega)]
    unfold emC
    rw [if_neg (by omega), if_neg (by omega)]
  · exact absurd hk (by rw [show mnN emC = 0 from rfl]; omega)
theorem rd_into {Q : Nat → Qt} {P : Kt} (hc : Cl (AM (d + 5)) true false 0 (fun _ => 0) 2 112 kX1_readInto Q P) {I0 : Im} {J0 : Jm} (ho : 9 ≤ o) (hO : isO 112 o 0 = true) (r : Rs BS) (hE : ∀ p I2 J2, r = .error p → FrB o I0 J0 I2 J2 → Ft p I2 → Q 112 0 0 I2 J2 R) (hK : ∀ B2 b I2 J2, r = .ok (B2, b) → FrB o I0 J0 I2 J2 → Rd T e b I2 J2 → BkS B2 o I2 J2 → BOk B2 → Q 112 1 0 I2 J2 R) :
    ∀ (f i a : Nat) (B : BS) (I : Im) (J : Jm), e < a + f → i ≤ a → r = prB T e f B a → BOk B → FrB o I0 J0 I J → Rd T e a I J → BkS B o I J → P 24 112 [(0, .ref 6), (1, .ref o), (2, .ref 3), (3, .int 1), (4, .int (nI i))] [] I J R := by
  have bad : ∀ p (i : Nat) (I : Im) (J : Jm), r = .error p → FrB o I0 J0 I J → Ft p I → P 24 112 [(0, .ref 6), (1, .ref o), (2, .ref 3), (3, .int 0), (4, .int (nI i + 1))] [] I J R := fun p i I J he hF hf =>
    sg_X1_readInto_24 hc _ _ _ _ _ _ ⟨fun _ => ⟨Or.inl rfl, hE p I J he hF hf⟩, fun _ => ⟨fun _ => ⟨Or.inl rfl, hE p I J he hF hf⟩, fun q => absurd rfl q⟩⟩
  intro f
  induction f with
  | zero => intro i a B I J h _ _ _ _ hR; have := hR.a; omega
  | succ f ih =>
    intro i a B I J hf hi hv hBO hF h hB
    have he := h.e
    have ha := h.a
    have done : tK (tok T e a) = 0 → Q 112 1 0 I J R := fun z => hK B a I J (by rw [hv]; unfold prB; rw [if_pos z]) hF h hB hBO
    have tend : e ≤ a → tK (tok T e a) = 0 := fun z => by
      have h1 := tok_s (T := T) ha
      have h2 := tok_b (T := T) ha
      exact h2.2.2.2.mpr (by omega)
    refine sg_X1_readInto_24 hc _ _ _ _ _ _ ⟨fun c => ⟨Or.inr rfl, done (tend ?_)⟩, fun c => ⟨fun q => absurd q (by decide), fun _ => ?_⟩⟩
    · have := (nle_nI (a := 900) (by omega) (by omega)).mp c; omega
    have hi9 : i < 900 := gt_of (a := 900) (b := i) (by omega) (by omega) c
    refine ⟨fun c => ⟨Or.inr rfl, done ((h.k_is (n := 0) (by omega)).mp c)⟩, fun c => ?_⟩
    have hk : ¬ tK (tok T e a) = 0 := fun q => c ((h.k_is (n := 0) (by omega)).mpr q)
    have hv2 : r = rb (prP T e B a) fun B b => prB T e f B b := by rw [hv]; conv => lhs; unfold prB
                                                                   rw [if_neg hk]
    have up := up_prP (T := T) (B := B) ha
    have er : ∀ p I2 J2, prP T e B a = .error p → FrB o I J I2 J2 → Ft p I2 → P 24 112 [(0, .ref 6), (1, .ref o), (2, .ref 3), (3, .int 0), (4, .int (nI i + 1))] [] I2 J2 R := fun p I2 J2 hp hF2 hf2 => bad p i I2 J2 (by rw [hv2, rb_e hp]) (hF.tr hF2) hf2
    have ok : ∀ B2 b I2 J2, prP T e B a = .ok (B2, b) → FrB o I J I2 J2 → Rd T e b I2 J2 → BkS B2 o I2 J2 → P 24 112 [(0, .ref 6), (1, .ref o), (2, .ref 3), (3, .int 1), (4, .int (nI i + 1))] [] I2 J2 R := fun B2 b I2 J2 hp hF2 h2 hB2 => by
      rw [hp] at up
      rw [nI_k1]
      exact ih (i + 1) b B2 I2 J2 (by have := up.1; omega) (by have := up.1; omega) (by rw [hv2, rb_k hp]) (bok_prP hBO hp) (hF.tr hF2) h2 hB2
    have ms : prP T e B a = .error (mis T e a) → AM (d + 5) 66 112 [.ref 3] I J R (fun x y I' J' R' => (x = 0 ∨ x = 1) → P 24 112 [(0, .ref 6), (1, .ref o), (2, .ref 3), (3, .int x), (4, .int (nI i + 1))] [] I' J' R) := fun hp => px_mis h (fun I2 J2 hF2 hf2 _ => er _ I2 J2 hp hF2.rb hf2)
    rw [h.w]
    refine ⟨fun c1 => ?_, fun c1 => ⟨fun c2 => ?_, fun c2 => ⟨fun c3 => ms ?_, fun c3 => ⟨fun c4 => ?_, fun c4 => ⟨fun c5 => ms ?_, fun c5 => ⟨fun c6 => ms ?_, fun c6 => ⟨fun c7 => ms ?_, fun c7 => ⟨fun c8 => ?_, fun c8 => ms ?_⟩⟩⟩⟩⟩⟩⟩⟩
    · have e1 : prP T e B a = prO T e B a := by unfold prP; rw [if_pos c1]
      exact px_rOdds ho hO h hB (fun p I2 J2 hp hF2 hf2 _ => er p I2 J2 (e1.trans hp) hF2 hf2) (fun B2 b I2 J2 hp hF2 h2 hB2 _ => ok B2 b I2 J2 (e1.trans hp) hF2 h2 hB2)
    · have e1 : prP T e B a = prS T e B a := by unfold prP; rw [if_neg c1, if_pos c2]
      exact px_rStore ho hO h hB (fun p I2 J2 hp hF2 hf2 _ => er p I2 J2 (e1.trans hp) hF2 hf2) (fun B2 b I2 J2 hp hF2 h2 hB2 _ => ok B2 b I2 J2 (e1.trans hp) hF2 h2 hB2)
    · unfold prP; rw [c3]; rfl
    · have e1 : prP T e B a = prM T e B a := by unfold prP; rw [if_neg c1, if_neg c2, if_pos c4]
      exact px_rMan ho hO hBO.1 h hB (fun p I2 J2 hp hF2 hf2 _ => er p I2 J2 (e1.trans hp) hF2 hf2) (fun B2 b I2 J2 hp hF2 h2 hB2 _ => ok B2 b I2 J2 (e1.trans hp) hF2 h2 hB2)
    · unfold prP; rw [c5]; rfl
    · unfold prP; rw [c6]; rfl
    · unfold prP; rw [c7]; rfl
    · have e1 : prP T e B a = prK T e B a := by unfold prP; rw [if_neg c1, if_neg c2, if_neg c4, if_pos c8]
      exact px_rKnown ho hO h hB (fun p I2 J2 hp hF2 hf2 _ => er p I2 J2 (e1.trans hp) hF2 hf2) (fun B2 b I2 J2 hp hF2 h2 hB2 _ => ok B2 b I2 J2 (e1.trans hp) hF2 h2 hB2)
    · unfold prP; rw [if_neg c1, if_neg c2, if_neg c4, if_neg c8]
theorem px_intoB (ho : 9 ≤ o) (hO : isO 112 o 0 = true) (h : Rd T e 0 I J) (hE : ∀ p I2 J2, prB T e (e + 1) em0 0 = .error p → FrB o I J I2 J2 → Ft p I2 → Q 0 0 I2 J2 R) (hK : ∀ B2 b I2 J2, prB T e (e + 1) em0 0 = .ok (B2, b) → FrB o I J I2 J2 → Rd T e b I2 J2 → BkS B2 o I2 J2 → BOk B2 → Q 1 0 I2 J2 R) : AM (d + 6) 21 112 [.ref 6, .ref o, .ref 3] I J R Q := by
  refine am_X1_readInto (fun P hc => sg_X1_readInto_0 hc _ _ _ _ (bif_t hO (px_forgetB (N := fun _ => 0) hO ho (fun I2 hF2 hB2 => ⟨Or.inl rfl, Or.inl rfl, ?_⟩))))
  have hF3 : FrB o I J (uI (uI (uI I2 6 0 0) 6 1 0) 6 2 0) J := ((((hF2.up (V2 := VB o) (W2 := WB o) (fun _ _ q => Or.inr (Or.inr q)) nV.up).u (Or.inr (Or.inl rfl))).u (Or.inr (Or.inl rfl))).u (Or.inr (Or.inl rfl)))
  have es : ∀ c, ¬ c = 6 → c < o → uI (uI (uI I2 6 0 0) 6 1 0) 6 2 0 c = I c := fun c h1 h2 => (uI_ne h1).trans ((uI_ne h1).trans ((uI_ne h1).trans (hF2.c (by intro k q; omega))))
  refine rd_into (T := T) (e := e) (R := R) (o := o) hc (I0 := I) (J0 := J) ho hO _ hE hK (e + 1) 0 0 em0 _ J (by omega) (by omega) rfl BOk.em hF3 (h.o (es 3 (by decide) (by omega)) (es 4 (by decide) (by omega)) rfl rfl) ⟨hB2.cp (fun c _ _ => (uI_ne (by omega)).trans ((uI_ne (by omega)).trans (uI_ne (by omega)))) rfl, ?_, ?_, rd_eq⟩
  · rw [rd_k (by decide), rd_k (by decide), rd_eq]; rfl
  · rw [rd_k (by decide), rd_eq]; rfl
/-- days that are not there -/
theorem px_forgetD {p : Nat} (hO : isO 112 p 2 = true) (hQ : Q 0 0 (uI (uI (uI I p 0 0) p 1 0) p 2 0) J R) : AM (d + 1) 28 112 [.ref p] I J R Q :=
  w_X2_forget (bif_t hO ⟨Or.inl rfl, bif_t hO (bif_t hO hQ)⟩)
/-- a text is opened -/
noncomputable abbrev W3 : Nat → Nat → Prop := fun c _ => c = 3
theorem px_open {f n : Nat} (hf : f ≤ 900) (hn : n ≤ f) (h1 : I 3 1 = nI f) (hJ : ∀ k, k < 22 → J 5 k = rsv.getD k 0) (hQ : ∀ I2 J2, FrW W3 VR I J I2 J2 → Rd (I 4) n 0 I2 J2 → I2 3 1 = 0 → I2 3 3 = 1 → Q 0 0 I2 J2 R) : AM (d + 3) 61 112 [.ref 3, .int (nI n)] I J R Q := by
  refine w_X6_open ⟨Or.inr rfl, ?_⟩
  have e1 : (if (I 3 1 : Int32) < nI n then (I 3 1) else nI n) = nI n := by
    rw [h1, if_neg (fun q => by have := (nlt_nI (by omega) (by omega)).mp q; omega)]
  have e2 : (if (0 : Int32) < nI n then nI n else 0) = nI n := by
    by_cases q : (0 : Int32) < nI n
    · rw [if_pos q]
    · rw [if_neg q]
      have := ge_of (a := 0) (b := n) (by omega) (by omega) q
      rw [show n = 0 by omega]; rfl
  rw [e1, e2]
  have hF : FrW W3 VR I J (uI (uI (uI (uI (uI (uI I 3 4 (nI n)) 3 1 0) 3 3 1) 3 5 0) 3 12 0) 3 13 (-1)) J := ((((((FrW.rf (W := W3) (V := VR)).u rfl).u rfl).u rfl).u rfl).u rfl).u rfl
  refine px_advance (T := I 4) (e := n) (a := 0) (by omega) (by omega) (hF.c (by intro k q; exact absurd (show (4 : Nat) = 3 from q) (by decide))) (by rw [rd_k (by decide), rd_k (by decide), rd_k (by decide), rd_k (by decide), rd_k (by decide), rd_eq]) (by rw [rd_k (by decide), rd_k (by decide), rd_eq]; rfl) hJ (fun I2 J2 hF2 hS h7 => ?_)
  refine hQ I2 J2 (hF.tr (hF2.up (fun _ _ q => q.1) (fun _ _ q => q))) ⟨hS, ⟨?_, ?_⟩, by omega, by omega⟩ ?_ ?_
  · rw [hF2.i (by decide), rd_k (by decide), rd_eq]
  · rw [hF2.i (by decide), rd_eq]
  · rw [hF2.i (by decide), rd_k (by decide), rd_k (by decide), rd_k (by decide), rd_k (by decide), rd_eq]
  · rw [hF2.i (by decide), rd_k (by decide), rd_k (by decide), rd_k (by decide), rd_eq]
end RB4
