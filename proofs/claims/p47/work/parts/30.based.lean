section PT3x0
theorem xori {x y : Int32} {a b : Int} (hx : x.toInt = a) (hy : y.toInt = b) (ha : 0 ≤ a) (hb : 0 ≤ b) : 0 ≤ (x ^^^ y).toInt := by
  have r1 := i32 x
  have r2 := i32 y
  have h1 := ti_nat (x := x) (k := a.toNat) (by omega) (by omega)
  have h2 := ti_nat (x := y) (k := b.toNat) (by omega) (by omega)
  have h3 : (x ^^^ y).toBitVec.toNat = a.toNat ^^^ b.toNat := by
    rw [Int32.toBitVec_xor, BitVec.toNat_xor, h1, h2]
  have h4 : a.toNat ^^^ b.toNat < 2 ^ 31 := Nat.xor_lt_two_pow (by omega) (by omega)
  have h5 : (x ^^^ y).toInt = (x ^^^ y).toBitVec.toInt := rfl
  rw [h5, BitVec.toInt_eq_toNat_cond, h3]
  have h6 : (2 : Nat) ^ 31 = 2147483648 := by decide
  split <;> omega
end PT3x0
section PT3x1
/-! printed by fa.py: where the arrays of an object lie; what the references are -/
theorem fa_0_0 {o : Nat} (h : isO 112 o 0 = true) : isA 112 (o + 1) 0 = true ∧ aL (o + 1) = 31 ∧ bna (o + 1) = none := by
  have h2 : ∀ o, o < 113 → isO 112 o 0 = true → (isA 112 (o + 1) 0 = true ∧ aL (o + 1) = 31 ∧ bna (o + 1) = none) := by decide +kernel
  exact h2 o (by have := (isO_spec h).2.1; omega) h
theorem fa_0_5 {o : Nat} (h : isO 112 o 0 = true) : isA 112 (o + 2) 1 = true ∧ aL (o + 2) = 6 ∧ bna (o + 2) = none := by
  have h2 : ∀ o, o < 113 → isO 112 o 0 = true → (isA 112 (o + 2) 1 = true ∧ aL (o + 2) = 6 ∧ bna (o + 2) = none) := by decide +kernel
  exact h2 o (by have := (isO_spec h).2.1; omega) h
theorem fa_0_6 {o : Nat} (h : isO 112 o 0 = true) : isA 112 (o + 3) 0 = true ∧ aL (o + 3) = 6 ∧ bna (o + 3) = none := by
  have h2 : ∀ o, o < 113 → isO 112 o 0 = true → (isA 112 (o + 3) 0 = true ∧ aL (o + 3) = 6 ∧ bna (o + 3) = none) := by decide +kernel
  exact h2 o (by have := (isO_spec h).2.1; omega) h
theorem fa_0_7 {o : Nat} (h : isO 112 o 0 = true) : isA 112 (o + 4) 0 = true ∧ aL (o + 4) = 6 ∧ bna (o + 4) = none := by
  have h2 : ∀ o, o < 113 → isO 112 o 0 = true → (isA 112 (o + 4) 0 = true ∧ aL (o + 4) = 6 ∧ bna (o + 4) = none) := by decide +kernel
  exact h2 o (by have := (isO_spec h).2.1; omega) h
theorem fa_0_8 {o : Nat} (h : isO 112 o 0 = true) : isA 112 (o + 5) 0 = true ∧ aL (o + 5) = 6 ∧ bna (o + 5) = none := by
  have h2 : ∀ o, o < 113 → isO 112 o 0 = true → (isA 112 (o + 5) 0 = true ∧ aL (o + 5) = 6 ∧ bna (o + 5) = none) := by decide +kernel
  exact h2 o (by have := (isO_spec h).2.1; omega) h
theorem fa_2_3 {o : Nat} (h : isO 112 o 2 = true) : isA 112 (o + 1) 0 = true ∧ aL (o + 1) = 60 ∧ bna (o + 1) = none := by
  have h2 : ∀ o, o < 113 → isO 112 o 2 = true → (isA 112 (o + 1) 0 = true ∧ aL (o + 1) = 60 ∧ bna (o + 1) = none) := by decide +kernel
  exact h2 o (by have := (isO_spec h).2.1; omega) h
theorem fa_2_4 {o : Nat} (h : isO 112 o 2 = true) : isA 112 (o + 2) 0 = true ∧ aL (o + 2) = 60 ∧ bna (o + 2) = none := by
  have h2 : ∀ o, o < 113 → isO 112 o 2 = true → (isA 112 (o + 2) 0 = true ∧ aL (o + 2) = 60 ∧ bna (o + 2) = none) := by decide +kernel
  exact h2 o (by have := (isO_spec h).2.1; omega) h
theorem fa_2_5 {o : Nat} (h : isO 112 o 2 = true) : isA 112 (o + 3) 0 = true ∧ aL (o + 3) = 60 ∧ bna (o + 3) = none := by
  have h2 : ∀ o, o < 113 → isO 112 o 2 = true → (isA 112 (o + 3) 0 = true ∧ aL (o + 3) = 60 ∧ bna (o + 3) = none) := by decide +kernel
  exact h2 o (by have := (isO_spec h).2.1; omega) h
theorem fa_2_6 {o : Nat} (h : isO 112 o 2 = true) : isA 112 (o + 4) 0 = true ∧ aL (o + 4) = 60 ∧ bna (o + 4) = none := by
  have h2 : ∀ o, o < 113 → isO 112 o 2 = true → (isA 112 (o + 4) 0 = true ∧ aL (o + 4) = 60 ∧ bna (o + 4) = none) := by decide +kernel
  exact h2 o (by have := (isO_spec h).2.1; omega) h
theorem fa_2_7 {o : Nat} (h : isO 112 o 2 = true) : isA 112 (o + 5) 0 = true ∧ aL (o + 5) = 60 ∧ bna (o + 5) = none := by
  have h2 : ∀ o, o < 113 → isO 112 o 2 = true → (isA 112 (o + 5) 0 = true ∧ aL (o + 5) = 60 ∧ bna (o + 5) = none) := by decide +kernel
  exact h2 o (by have := (isO_spec h).2.1; omega) h
theorem fa_4_8 {o : Nat} (h : isO 112 o 4 = true) : isA 112 (o + 1) 0 = true ∧ aL (o + 1) = 60 ∧ bna (o + 1) = none := by
  have h2 : ∀ o, o < 113 → isO 112 o 4 = true → (isA 112 (o + 1) 0 = true ∧ aL (o + 1) = 60 ∧ bna (o + 1) = none) := by decide +kernel
  exact h2 o (by have := (isO_spec h).2.1; omega) h
theorem fa_10_2 {o : Nat} (h : isO 112 o 10 = true) : isA 112 (o + 1) 1 = true ∧ aL (o + 1) = 60 ∧ bna (o + 1) = none := by
  have h2 : ∀ o, o < 113 → isO 112 o 10 = true → (isA 112 (o + 1) 1 = true ∧ aL (o + 1) = 60 ∧ bna (o + 1) = none) := by decide +kernel
  exact h2 o (by have := (isO_spec h).2.1; omega) h
/-- where the bakeries and the days lie -/
noncomputable def RP (R : Rm) : Prop := ((R 1 7 = 9 ∧ R 1 8 = 15) ∨ (R 1 7 = 15 ∧ R 1 8 = 9)) ∧ ((R 1 9 = 21 ∧ R 1 10 = 27) ∨ (R 1 9 = 27 ∧ R 1 10 = 21)) ∧ (∀ j, j < 3 → R 33 j = 61 + 12 * j) ∧ ∀ j, j < 3 → R 34 j = 67 + 12 * j
/-- what the references are: two bakeries, two plans at hand, four trays, three of each kept -/
noncomputable def RI (R : Rm) : Prop := (isO 112 (R 1 7) 0 = true ∧ ¬ R 1 7 = 0) ∧ (isO 112 (R 1 8) 0 = true ∧ ¬ R 1 8 = 0) ∧ (isO 112 (R 1 9) 2 = true ∧ ¬ R 1 9 = 0) ∧ (isO 112 (R 1 10) 2 = true ∧ ¬ R 1 10 = 0) ∧
  (∀ j, j < 4 → (¬ R 2 j = 0 ∧ isO 112 (R 2 j) 10 = true)) ∧ (∀ j, j < 3 → (¬ R 33 j = 0 ∧ isO 112 (R 33 j) 0 = true)) ∧ (∀ j, j < 3 → (¬ R 34 j = 0 ∧ isO 112 (R 34 j) 2 = true)) ∧ (∀ j, j < 4 → R 2 j = 53 + 2 * j) ∧ RP R
theorem RI.now {R : Rm} (h : RI R) : isO 112 (R 1 7) 0 = true ∧ ¬ R 1 7 = 0 := h.1
theorem RI.spare {R : Rm} (h : RI R) : isO 112 (R 1 8) 0 = true ∧ ¬ R 1 8 = 0 := h.2.1
theorem RI.plan {R : Rm} (h : RI R) : isO 112 (R 1 9) 2 = true ∧ ¬ R 1 9 = 0 := h.2.2.1
theorem RI.splan {R : Rm} (h : RI R) : isO 112 (R 1 10) 2 = true ∧ ¬ R 1 10 = 0 := h.2.2.2.1
theorem RI.tray {R : Rm} (h : RI R) (j : Nat) (hj : (j : Int) < 4) : ¬ R 2 j = 0 ∧ isO 112 (R 2 j) 10 = true := h.2.2.2.2.1 j (by omega)
theorem RI.kb {R : Rm} (h : RI R) (j : Nat) (hj : (j : Int) < 3) : ¬ R 33 j = 0 ∧ isO 112 (R 33 j) 0 = true := h.2.2.2.2.2.1 j (by omega)
theorem RI.kd {R : Rm} (h : RI R) (j : Nat) (hj : (j : Int) < 3) : ¬ R 34 j = 0 ∧ isO 112 (R 34 j) 2 = true := h.2.2.2.2.2.2.1 j (by omega)
theorem RI.tr {R : Rm} (h : RI R) (j : Nat) (hj : j < 4) : R 2 j = 53 + 2 * j := h.2.2.2.2.2.2.2.1 j hj
theorem RI.rp {R : Rm} (h : RI R) : RP R := h.2.2.2.2.2.2.2.2
end PT3x1
section PT3x2
/-! ===== Arrays.fill ===== -/
theorem bif_tF {b : Bool} {X Y : Prop} (h : b = true) (x : X) : bif b then X else Y := by rw [h]; exact x
theorem ofNat_ti {n : Nat} (h : n ≤ 4096) : (Int32.ofNat n).toInt = n := nI_toInt (by omega)
theorem sp_J7_fill_d0a16 {d : Nat} {Q : Qt} {v0 : Nat} {v1 : Int64} {I : Im} {J : Jm} {R : Rm} (hB0 : Bd I) (hR0 : RI R) (ha : isA 112 v0 1 = true) (hQ : ∀ (x : Int32) (y : Int64) (I2 : Im) (J2 : Jm), Bd I2 → I2 = I → Q x y I2 J2 R) : AM (d + 1) 320 112 [.ref v0, .long v1] I J R Q := by
  have hn : isA 112 v0 0 = false := by
    cases h : isA 112 v0 0 with
    | false => rfl
    | true => have h1 := (isA_spec h).2.2; have h2 := (isA_spec ha).2.2; omega
  refine am_J7_fill_d0a16 (fun P hc => ?_)
  have hle := aL_le v0
  have L : ∀ n : Nat, ∀ (v3 : Int32) (J : Jm), 0 ≤ v3.toInt ∧ v3.toInt ≤ aL v0 → (aL v0 : Int) - v3.toInt < (n : Int) → P 6 112 [(0, .ref v0), (1, .long v1), (3, .int v3), (4, .int (Int32.ofNat (aL v0)))] [] I J R := by
    intro n
    induction n with
    | zero => exact fun v3 J hi hm => absurd hm (by omega)
    | succ n ih =>
      intro v3 J hi hm
      refine sg_J7_fill_d0a16_6 hc _ _ _ _ _ _ _ ?_
      refine ⟨fun c1 => ?_, fun c1 => ?_⟩
      · exact hQ _ _ _ _ hB0 rfl
      · have d1 := ci_nle (ofNat_ti hle) rfl c1
        refine bif_t ha ?_
        refine ⟨vp_of rfl hi.1 d1, ?_⟩
        have e1 : (v3 + 1 : Int32).toInt = v3.toInt + 1 := ti_add rfl rfl (by omega)
        exact ih _ _ (by omega) (by omega)
  refine sg_J7_fill_d0a16_0 hc _ _ _ _ _ ?_
  rw [hn]
  refine bif_t ha ?_
  exact L 5000 _ _ (by have h0 : (0 : Int32).toInt = 0 := rfl; omega) (by have h0 : (0 : Int32).toInt = 0 := rfl; omega)
end PT3x2
