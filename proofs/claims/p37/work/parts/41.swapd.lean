section PT7x1
/-- who is named is there -/
noncomputable def NmOk (v : Int32) (x men : Int) : Prop := v.toInt = 0 → x < men
noncomputable def TdOk (b : Int) (v : Int32) (x men : Int) : Prop := b = 0 → v.toInt = 0 → x < men
noncomputable def Hid (p : Prop) : Prop := p
theorem Hid.i {p : Prop} (h : p) : Hid p := h
theorem Hid.o {p : Prop} (h : Hid p) : p := h
/-- what there is still to read -/
noncomputable def MUf (I : Im) : Int := 2 * (901 - (I 97 16).toInt) + min (I 97 14).toInt 1
/-- what is read goes on; what is amiss stays so -/
noncomputable def PMp (I I2 : Im) : Prop := MUf I2 ≤ MUf I ∧ ((I2 97 12).toInt = 0 → (I 97 12).toInt = 0)
theorem PMp.refl (I : Im) : PMp I I := ⟨Int.le_refl _, fun h => h⟩
theorem PMp.tr {I M N : Im} (h1 : PMp I M) (h2 : PMp M N) : PMp I N := ⟨Int.le_trans h2.1 h1.1, fun h => h1.2 (h2.2 h)⟩
theorem PMp.mk {I I2 : Im} (h1 : (2 * (901 - (I2 97 16).toInt) + min (I2 97 14).toInt 1) ≤ (2 * (901 - (I 97 16).toInt) + min (I 97 14).toInt 1)) (h2 : (I 97 12).toInt = 0 ∨ 1 ≤ (I2 97 12).toInt) : PMp I I2 := ⟨h1, fun h => by omega⟩
theorem MUf.keep {I I2 : Im} (h14 : I2 97 14 = I 97 14) (h16 : I2 97 16 = I 97 16) : MUf I2 = MUf I := by unfold MUf; rw [h14, h16]
theorem PMp.keep {I I2 : Im} (h12 : I2 97 12 = I 97 12) (h14 : I2 97 14 = I 97 14) (h16 : I2 97 16 = I 97 16) : PMp I I2 := ⟨by rw [MUf.keep h14 h16]; exact Int.le_refl _, fun h => by rw [← h12]; exact h⟩
theorem PMp.fail {I I2 : Im} (h14 : I2 97 14 = I 97 14) (h16 : I2 97 16 = I 97 16) (hb : 1 ≤ (I2 97 12).toInt) : PMp I I2 := ⟨by rw [MUf.keep h14 h16]; exact Int.le_refl _, fun h => by omega⟩
theorem PMp.adv {I I2 : Im} (h12 : I2 97 12 = I 97 12) (h1 : (2 * (901 - (I2 97 16).toInt) + min (I2 97 14).toInt 1) ≤ (2 * (901 - (I 97 16).toInt) + min (I 97 14).toInt 1)) : PMp I I2 := ⟨h1, fun h => by rw [← h12]; exact h⟩
theorem PMp.may {I I2 : Im} (h14 : I2 97 14 = I 97 14) (h16 : I2 97 16 = I 97 16) (h2 : (I 97 12).toInt = 0 ∨ 1 ≤ (I2 97 12).toInt) : PMp I I2 := ⟨by rw [MUf.keep h14 h16]; exact Int.le_refl _, fun h => by omega⟩
theorem PMp.o {I M : Im} {o k : Nat} {v : Int32} (h : PMp I M) (ho : ¬ (97 : Nat) = o) : PMp I (uI M o k v) := h.tr (PMp.keep (rd_ne ho) (rd_ne ho) (rd_ne ho))
theorem PMp.k {I M : Im} {k : Nat} {v : Int32} (h : PMp I M) (hk : (Nat.beq k 12 || (Nat.beq k 14 || Nat.beq k 16)) = false) : PMp I (uI M 97 k v) := by
  have h12 : ¬ (12 : Nat) = k := fun z => by subst z; cases hk
  have h14 : ¬ (14 : Nat) = k := fun z => by subst z; cases hk
  have h16 : ¬ (16 : Nat) = k := fun z => by subst z; cases hk
  exact h.tr (PMp.keep (rd_k h12) (rd_k h14) (rd_k h16))
theorem PMp.bad {I M : Im} (h : PMp I M) (hz : (M 97 12).toInt = 0) : (I 97 12).toInt = 0 := h.2 hz
/-- something went on, or is amiss -/
noncomputable def Prog (I I2 : Im) : Prop := 1 ≤ (I2 97 12).toInt ∨ MUf I2 < MUf I
end PT7x1
section PT7x2
/-! ===== the scribe's bakery(), whole ===== -/
theorem uR_k {R : Rm} {o j k v : Nat} (h : ¬ k = j) : uR R o j v o k = R o k := by rw [uR_eq, va_up_ne _ _ h]
theorem uR_s {R : Rm} {o j v : Nat} : uR R o j v o j = v := by rw [uR_eq, va_up_self]
theorem o_9 : ∀ o, o < 113 → isO 112 o 0 = true → o = 9 ∨ o = 15 ∨ o = 61 ∨ o = 73 ∨ o = 85 := by decide +kernel
theorem o_lt {o ci : Nat} (h : isO 112 o ci = true) : o < 113 := by have := (isO_spec h).2.1; omega
theorem o_ge {o : Nat} (h : isO 112 o 0 = true) : 9 ≤ o := by have := o_9 o (o_lt h) h; omega
theorem p_21 : ∀ o, o < 113 → isO 112 o 2 = true → o = 21 ∨ o = 27 ∨ o = 67 ∨ o = 79 ∨ o = 91 := by decide +kernel
theorem p_ge {p : Nat} (h : isO 112 p 2 = true) : 21 ≤ p := by have := p_21 p (o_lt h) h; omega
theorem op_ne {o p : Nat} (h : isO 112 o 0 = true) (h2 : isO 112 p 2 = true) : p + 5 < o ∨ o + 5 < p := by
  have := o_9 o (o_lt h) h
  have := p_21 p (o_lt h2) h2
  omega
noncomputable abbrev WC (o p : Nat) : Nat → Nat → Prop := fun c k => (c = 1 ∧ k = 0) ∨ c = 3 ∨ c = 6 ∨ (o ≤ c ∧ c ≤ o + 5) ∨ (c = p ∧ k ≤ 2)
section CB
variable {d : Nat} {I : Im} {J : Jm} {R : Rm} {Q : Qt}
theorem px_cbN {v : Int32} {f : Nat} (hf : f ≤ 900) (h1 : I 3 1 = nI f) (hv : v < 0 ∨ nI f < v) (hQ : Q (-1) 0 (uI I 1 0 5) J R) : AM (d + 8) 108 112 [.ref 1, .int v] I J R Q := by
  refine am2_of (k := kX11_bakery) rfl rfl rfl rfl rfl rfl (Nat.le_of_ble_eq_true rfl) (fun P hc => sg_X11_bakery_0 hc _ _ _ _ ⟨fun _ => w_X11_refuse ⟨rfl, hQ⟩, fun c1 => ⟨fun c2 => ?_, fun _ => w_X11_refuse ⟨rfl, hQ⟩⟩⟩)
  rw [h1] at c2
  rcases hv with z | z
  · exact absurd z c1
  · rw [Int32.lt_iff_toInt_lt] at z
    rw [Int32.le_iff_toInt_le] at c2
    omega
theorem px_cbY {n f : Nat} (hf : f ≤ 900) (hn : n ≤ f) (h1 : I 3 1 = nI f) (hJ : ∀ k, k < 22 → J 5 k = rsv.getD k 0) (hR : RI R)
    (hE : ∀ p I2 J2, prB (I 4) n (n + 1) em0 0 = .error p → FrW (WC (R 1 8) (R 1 9)) (VB (R 1 8)) I J I2 J2 → I2 3 1 = 0 → I2 3 3 = 1 → Ft p I2 → Q (-1) 0 I2 J2 R)
    (hK : ∀ B2 b I2 J2, prB (I 4) n (n + 1) em0 0 = .ok (B2, b) → BOk B2 → FrW (WC (R 1 8) (R 1 9)) (VB (R 1 8)) I J I2 J2 → I2 3 1 = 0 → I2 3 3 = 1 → I2 3 12 = 0 → I2 3 13 = -1 → BkC B2.1 B2.2.1 (R 1 8) I2 J2 → I2 (R 1 9) 0 = 0 → I2 (R 1 9) 1 = 0 → I2 (R 1 9) 2 = 0 → Q (B2.1 0) 0 I2 J2 (uR (uR R 1 7 (R 1 8)) 1 8 (R 1 7))) : AM (d + 8) 108 112 [.ref 1, .int (nI n)] I J R Q := by
  have hO := hR.spare.1
  have ho := o_ge hO
  have hP := hR.plan.1
  have hp := p_ge hP
  have hop := op_ne hO hP
  refine am2_of (k := kX11_bakery) rfl rfl rfl rfl rfl rfl (Nat.le_of_ble_eq_true rfl) (fun P hc => sg_X11_bakery_0 hc _ _ _ _ ⟨fun c => absurd c (nI_pos (by omega)), fun _ => ⟨fun _ => ?_, fun c => absurd ?_ c⟩⟩)
  · refine px_open hf hn h1 hJ (fun I2 J2 hF2 h2 h31 h33 => ⟨hR.spare.2, px_intoB ho hO h2 (fun p I3 J3 he hF3 hf3 _ => ?_) (fun B2 b I3 J3 he hF3 h3 hB3 hO3 _ => ?_)⟩)
    · refine ⟨fun q => absurd rfl q, fun _ => w_X11_refuse ⟨rfl, ?_⟩⟩
      have hFa : FrW (WC (R 1 8) (R 1 9)) (VB (R 1 8)) I J (uI I3 1 0 10) J3 := ((hF2.up (fun c k q => Or.inr (Or.inl q)) (fun _ _ q => Or.inl q)).tr (hF3.up (fun c k q => q.elim (fun z => Or.inr (Or.inl z.1)) (fun z => z.elim (fun y => Or.inr (Or.inr (Or.inl y))) (fun y => Or.inr (Or.inr (Or.inr (Or.inl y)))))) (fun _ _ q => q))).u (Or.inl ⟨rfl, rfl⟩)
      refine hE p _ J3 he hFa ?_ ?_ (hf3.w_ (by decide))
      · rw [rd_ne (by decide), hF3.i (by rintro (q | q | q) <;> first | exact absurd q.2 (by decide) | omega)]; exact h31
      · rw [rd_ne (by decide), hF3.i (by rintro (q | q | q) <;> first | exact absurd q.2 (by decide) | omega)]; exact h33
    · refine ⟨fun _ => ⟨hR.now.2, hR.spare.2, hR.spare.2, hR.now.2, ?_⟩, fun q => absurd q (by decide)⟩
      have e9 : uR (uR R 1 7 (R 1 8)) 1 8 (R 1 7) 1 9 = R 1 9 := by rw [uR_k (by decide), uR_k (by decide)]
      have e7 : uR (uR R 1 7 (R 1 8)) 1 8 (R 1 7) 1 7 = R 1 8 := by rw [uR_k (by decide), uR_s]
      rw [e9, e7]
      refine ⟨hR.plan.2, bif_t hP (px_forgetD hP ⟨hR.spare.2, bif_t hO (w_X11_answer ⟨rfl, ?_⟩)⟩)⟩
      have hFa : FrW (WC (R 1 8) (R 1 9)) (VB (R 1 8)) I J (uI (uI (uI (uI I3 (R 1 9) 0 0) (R 1 9) 1 0) (R 1 9) 2 0) 1 0 0) J3 := (((((hF2.up (fun c k q => Or.inr (Or.inl q)) (fun _ _ q => Or.inl q)).tr (hF3.up (fun c k q => q.elim (fun z => Or.inr (Or.inl z.1)) (fun z => z.elim (fun y => Or.inr (Or.inr (Or.inl y))) (fun y => Or.inr (Or.inr (Or.inr (Or.inl y)))))) (fun _ _ q => q))).u (Or.inr (Or.inr (Or.inr (Or.inr ⟨rfl, by omega⟩))))).u (Or.inr (Or.inr (Or.inr (Or.inr ⟨rfl, by omega⟩))))).u (Or.inr (Or.inr (Or.inr (Or.inr ⟨rfl, by omega⟩))))).u (Or.inl ⟨rfl, rfl⟩)
      have es : ∀ c, ¬ c = R 1 9 → ¬ c = 1 → uI (uI (uI (uI I3 (R 1 9) 0 0) (R 1 9) 1 0) (R 1 9) 2 0) 1 0 0 c = I3 c := fun c z1 z2 => (uI_ne z2).trans ((uI_ne z1).trans ((uI_ne z1).trans (uI_ne z1)))
      have e4 : uI (uI (uI I3 (R 1 9) 0 0) (R 1 9) 1 0) (R 1 9) 2 0 (R 1 8) 4 = B2.1 0 := by
        rw [rd_ne (by first | decide | omega), rd_ne (by first | decide | omega), rd_ne (by first | decide | omega)]; exact hB3.1.1
      rw [e4]
      refine hK B2 b _ J3 he hO3 hFa ?_ ?_ ?_ ?_ (hB3.1.cp (fun c z1 z2 => es c (by omega) (by omega)) rfl) ?_ ?_ ?_
      · rw [es 3 (by omega) (by decide), hF3.i (by rintro (q | q | q) <;> first | exact absurd q.2 (by decide) | omega)]; exact h31
      · rw [es 3 (by omega) (by decide), hF3.i (by rintro (q | q | q) <;> first | exact absurd q.2 (by decide) | omega)]; exact h33
      · rw [es 3 (by omega) (by decide)]; exact h3.f
      · rw [es 3 (by omega) (by decide)]; exact h3.f13
      · rw [rd_ne (by first | decide | omega), rd_k (by decide), rd_k (by decide), rd_eq]
      · rw [rd_ne (by first | decide | omega), rd_k (by decide), rd_eq]
      · rw [rd_ne (by first | decide | omega), rd_eq]
  · rw [h1]; exact (nle_nI (by omega) (by omega)).mpr hn
end CB
end PT7x2
