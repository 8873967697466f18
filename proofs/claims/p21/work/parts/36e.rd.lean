/-! ===== the scribe reads a bakery: store, known, men ===== -/
section RB2
variable {T : Nat → Int32} {e a d o : Nat} {I : Im} {J : Jm} {R : Rm} {Q : Qt} {B : BS}
theorem px_rKnown (ho : 9 ≤ o) (hO : isO 112 o 0 = true) (h : Rd T e a I J) (hB : BkS B o I J) (hE : ∀ p I2 J2, prK T e B a = .error p → FrB o I J I2 J2 → Ft p I2 → Q 0 0 I2 J2 R) (hK : ∀ B2 b I2 J2, prK T e B a = .ok (B2, b) → FrB o I J I2 J2 → Rd T e b I2 J2 → BkS B2 o I2 J2 → Q 1 0 I2 J2 R) : AM (d + 5) 25 112 [.ref 6, .ref o, .ref 3] I J R Q := by
  refine w_X1_readKnown (px_any h (fun I1 J1 hF1 h1 h7 _ => ⟨fun c => ⟨Or.inr rfl, ?_⟩, fun c => ?_⟩))
  all_goals have hB1 := hB.r ho hF1
  · rw [hB1.2.2.1] at c
    have hv : prK T e B a = rb (tkL T e 31 0 (tB (tok T e a))) fun s b => rb (tkS T e b) fun _ b => .ok ((upd B.1 3 s, B.2.1, B.2.2.1, 1, B.2.2.2.2), b) := by
      unfold prK; rw [if_pos c]
    have hFw : FrB o I J (uI I1 6 1 1) J1 := hF1.rb.u (Or.inr (Or.inl rfl))
    have hBw : BkS (B.1, B.2.1, B.2.2.1, 1, B.2.2.2.2) o (uI I1 6 1 1) J1 := ⟨hB1.1.cp (fun c _ _ => uI_ne (by omega)) rfl, by rw [rd_k (by decide)]; exact hB1.2.1, rd_eq, by rw [rd_k (by decide)]; exact hB1.2.2.2⟩
    refine px_slices (h1.w_ (by decide) (by decide)) (fun p x I2 J2 hp hF2 hf => ?_) (fun v b I2 J2 hp hF2 h2 => ?_)
    · have hf2 : Ft p (uI I2 o 2 x) := hf.w_ (by omega)
      exact bif_t hO ⟨fun _ => ⟨Or.inl rfl, hE p _ _ (by rw [hv, rb_e hp]) ((hFw.tr hF2.rb).u (Or.inr (Or.inr ⟨Nat.le_refl _, by omega⟩))) hf2⟩, fun q => absurd q hf2.ne⟩
    · have hF3 : FrB o I J (uI I2 o 2 v) J2 := (hFw.tr hF2.rb).u (Or.inr (Or.inr ⟨Nat.le_refl _, by omega⟩))
      have h3 : Rd T e b (uI I2 o 2 v) J2 := h2.w_ (by omega) (by omega)
      have hB3 := hBw.r ho hF2
      have hB4 : BkS (upd B.1 3 v, B.2.1, B.2.2.1, 1, B.2.2.2.2) o (uI I2 o 2 v) J2 := by
        obtain ⟨b1, b7⟩ := hB3
        exact ⟨b1.known, by rw [uI_ne (a := o) (by omega)]; exact b7⟩
      refine bif_t hO ⟨fun q => absurd h3.f q, fun _ => ?_⟩
      exact px_semi h3 (fun p I4 J4 hp4 hF4 hf _ => ⟨fun _ => ⟨Or.inl rfl, hE p _ _ (by rw [hv, rb_k hp, rb_e hp4]) (hF3.tr hF4.rb) hf⟩, fun q => absurd rfl q⟩) (fun b2 I4 J4 hp4 hF4 h4 _ => ⟨fun q => absurd q (by decide), fun _ => ⟨Or.inr rfl, hK _ _ _ _ (by rw [hv, rb_k hp, rb_k hp4]) (hF3.tr hF4.rb) h4 (hB4.r ho hF4)⟩⟩)
  · rw [hB1.2.2.1] at c
    refine px_wt (k := 5) (by decide) h7 (fun I2 hF2 hf _ => ⟨Or.inl rfl, hE _ _ _ ?_ (hF1.rb.tr hF2.rb) hf⟩)
    unfold prK; rw [if_neg c]
theorem px_rStore (ho : 9 ≤ o) (hO : isO 112 o 0 = true) (h : Rd T e a I J) (hB : BkS B o I J) (hE : ∀ p I2 J2, prS T e B a = .error p → FrB o I J I2 J2 → Ft p I2 → Q 0 0 I2 J2 R) (hK : ∀ B2 b I2 J2, prS T e B a = .ok (B2, b) → FrB o I J I2 J2 → Rd T e b I2 J2 → BkS B2 o I2 J2 → Q 1 0 I2 J2 R) : AM (d + 5) 23 112 [.ref 6, .ref o, .ref 3] I J R Q := by
  refine am_X1_readStore (fun P hc => ?_)
  obtain ⟨hA, hL, -⟩ := fa_0_0 hO
  -- what stands behind the count
  have tail : ∀ (v n : Int32) (b : Nat) (I2 : Im) (J2 : Jm), (1 : Int32) ≤ v → v ≤ 30 → ¬ n = -1 → prS T e B a = (rb (tkS T e b) fun _ b => .ok ((upd B.1 (3 + v.toNatClampNeg) n, B.2.1, B.2.2.1, B.2.2.2.1, B.2.2.2.2 ||| biS v), b)) → FrB o I J I2 J2 → Rd T e b I2 J2 → BkS (B.1, B.2.1, B.2.2.1, B.2.2.2.1, B.2.2.2.2 ||| biS v) o I2 J2 → P 77 112 [(1, .ref o), (2, .ref 3), (3, .int v), (4, .int n)] [] I2 J2 R := fun v n b I2 J2 l1 l2 hn hv hF h2 hB2 => by
    obtain ⟨t1, t2, t3, t4⟩ := tn_sl l1 l2
    refine sg_X1_readStore_77 hc _ _ _ _ _ _ (bif_t hO (bif_t hA ⟨vp_of t4 (by omega) (by omega), fun q => absurd q hn, fun _ => ?_⟩))
    have hF3 : FrB o I J (uI I2 (o + 1) v.toNatClampNeg n) J2 := hF.u (Or.inr (Or.inr ⟨by omega, by omega⟩))
    have hB4 : BkS (upd B.1 (3 + v.toNatClampNeg) n, B.2.1, B.2.2.1, B.2.2.2.1, B.2.2.2.2 ||| biS v) o (uI I2 (o + 1) v.toNatClampNeg n) J2 := by
      obtain ⟨b1, b7⟩ := hB2
      exact ⟨b1.store t1 t2, by rw [uI_ne (a := o + 1) (by omega)]; exact b7⟩
    exact px_semi (h2.w_ (by omega) (by omega)) (fun p I4 J4 hp4 hF4 hf _ => ⟨fun _ => ⟨Or.inl rfl, hE p _ _ (by rw [hv, rb_e hp4]) (hF3.tr hF4.rb) hf⟩, fun q => absurd rfl q⟩) (fun b2 I4 J4 hp4 hF4 h4 _ => ⟨fun q => absurd q (by decide), fun _ => ⟨Or.inr rfl, hK _ _ _ _ (by rw [hv, rb_k hp4]) (hF3.tr hF4.rb) h4 (hB4.r ho hF4)⟩⟩)
  refine sg_X1_readStore_0 hc _ _ _ _ (px_any h (fun I1 J1 hF1 h1 h7 _ => ?_))
  have hB1 := hB.r ho hF1
  refine px_num h1 (fun p I2 J2 hp hF2 hf => ?_) (fun v b I2 J2 hp l1 l2 hF2 h2 h72 => ?_)
  · refine px_isSlice (fun q => absurd q sl_yes) (fun _ _ => ⟨fun q => absurd rfl q, fun _ => ⟨Or.inl rfl, hE p _ _ (by unfold prS; rw [rb_e hp]) (hF1.rb.tr hF2.rb) hf⟩⟩)
  · have hv : prS T e B a = if inS B.2.2.2.2 v = true then .error (5, tS (tok T e (tB (tok T e a)))) else rb (if tI (tok T e b) = 3 then tkN T e 0 99 (tB (tok T e b)) else .ok (1, b)) fun n b => rb (tkS T e b) fun _ b => .ok ((upd B.1 (3 + v.toNatClampNeg) n, B.2.1, B.2.2.1, B.2.2.2.1, B.2.2.2.2 ||| biS v), b) := by
      unfold prS; rw [rb_k hp]
    have hB2 := hB1.r ho hF2
    obtain ⟨t1, t2, t3, t4⟩ := tn_sl l1 l2
    have e62 : I2 6 2 = B.2.2.2.2 := hB2.2.2.2
    refine px_isSlice (fun _ _ _ => ⟨fun _ => ?_, fun q => absurd q (by decide)⟩) (fun q => absurd q (sl_no l1 l2))
    rw [e62]
    refine px_isIn (fun hi _ => ⟨fun q => absurd q (by decide), fun _ => ?_⟩) (fun hi _ => ⟨fun _ => ?_, fun q => absurd rfl q⟩)
    · refine px_wt (k := 5) (by decide) h72 (fun I3 hF3 hf _ => ⟨Or.inl rfl, hE _ _ _ (by rw [hv, if_pos hi]) ((hF1.rb.tr hF2.rb).tr hF3.rb) hf⟩)
    · rw [if_neg (by rw [hi]; decide)] at hv
      refine w_X11_bit ?_
      have hF3 : FrB o I J (uI I2 6 2 (B.2.2.2.2 ||| biS v)) J2 := (hF1.rb.tr hF2.rb).u (Or.inr (Or.inl rfl))
      have h3 : Rd T e b (uI I2 6 2 (B.2.2.2.2 ||| biS v)) J2 := h2.w_ (by decide) (by decide)
      have hB3 : BkS (B.1, B.2.1, B.2.2.1, B.2.2.2.1, B.2.2.2.2 ||| biS v) o (uI I2 6 2 (B.2.2.2.2 ||| biS v)) J2 := ⟨hB2.1.cp (fun c _ _ => uI_ne (by omega)) rfl, by rw [rd_k (by decide)]; exact hB2.2.1, by rw [rd_k (by decide)]; exact hB2.2.2.1, rd_eq⟩
      show ((¬ uI I2 6 2 ((I2 6 2) ||| biS v) 3 9 = 3 → _) ∧ (uI I2 6 2 ((I2 6 2) ||| biS v) 3 9 = 3 → AM (d + 4) 68 112 [.ref 3] (uI I2 6 2 ((I2 6 2) ||| biS v)) J2 R _))
      rw [e62, h3.w]
      refine ⟨fun c => ?_, fun c => px_any h3 (fun I4 J4 hF4 h4 h74 _ => ?_)⟩
      · rw [if_neg c] at hv
        have hv2 : prS T e B a = rb (tkS T e b) fun _ b => .ok ((upd B.1 (3 + v.toNatClampNeg) 1, B.2.1, B.2.2.1, B.2.2.2.1, B.2.2.2.2 ||| biS v), b) := hv
        exact tail v 1 b _ _ l1 l2 (by decide) hv2 hF3 h3 hB3
      · rw [if_pos c] at hv
        refine px_num h4 (fun p I5 J5 hp5 hF5 hf => ?_) (fun n b5 I5 J5 hp5 m1 m2 hF5 h5 h75 => ?_)
        · rw [rb_e hp5] at hv
          refine sg_X1_readStore_77 hc _ _ _ _ _ _ (bif_t hO (bif_t hA ⟨vp_of t4 (by omega) (by omega), fun _ => ⟨Or.inl rfl, hE p _ _ hv (((hF3.tr hF4.rb).tr hF5.rb).u (Or.inr (Or.inr ⟨by omega, by omega⟩))) (hf.w_ (by omega))⟩, fun q => absurd rfl q⟩))
        · rw [rb_k hp5] at hv
          exact tail v n b5 _ _ l1 l2 (fun q => by rw [q] at m1; exact absurd m1 (by decide)) hv ((hF3.tr hF4.rb).tr hF5.rb) h5 ((hB3.r ho hF4).r ho hF5)
end RB2
