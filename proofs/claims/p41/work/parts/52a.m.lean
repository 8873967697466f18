section PT11x0
/-- one before has been found, or there still is one -/
noncomputable def RN (I : Im) (v3 v5 v6 : Int32) : Prop := (1 ≤ v5.toInt ∧ v5.toInt ≤ 30 ∧ (I 108 v5.toNatClampNeg).toInt = (I 108 v3.toNatClampNeg).toInt - 1) ∨ (v5 = -1 ∧ ∃ e : Int32, 1 ≤ e.toInt ∧ e.toInt ≤ v6.toInt ∧ e.toInt ≤ 30 ∧ (I 108 e.toNatClampNeg).toInt = (I 108 v3.toNatClampNeg).toInt - 1 ∧ CO v3 e)
/-- what is told is not more than there is -/
noncomputable def RD (I : Im) (v2 v4 v3 : Int32) : Prop := v2.toInt - v4.toInt ≤ (I 108 v3.toNatClampNeg).toInt
/-- the members are slices -/
noncomputable def MM (I : Im) (n : Int) : Prop := ∀ k : Int32, 0 ≤ k.toInt → k.toInt < n → 1 ≤ (I 109 k.toNatClampNeg).toInt
theorem MM.zero {I : Im} {n : Int} (h : n ≤ 0) : MM I n := fun k h1 h2 => absurd h2 (by omega)
theorem MM.add {I : Im} {i v : Int32} {n : Int} (h : MM I i.toInt) (h0 : 0 ≤ i.toInt) (hn : n = i.toInt + 1) (hv : 1 ≤ v.toInt) : MM (uI I 109 (Int32.toNatClampNeg i) v) n := by
  intro k h1 h2
  by_cases q : k = i
  · rw [q, rd_eq]; exact hv
  · have h3 : ¬ k.toInt = i.toInt := fun z => q (Int32.toInt_inj.mp z)
    rw [rd_k (by have := tn_of (x := k) rfl h1; have := tn_of (x := i) rfl h0; omega)]
    exact h k h1 (by omega)
theorem MM.o {I : Im} {j : Nat} {v : Int32} {n : Int} (h : MM I n) : MM (uI I 110 j v) n := fun k h1 h2 => by
  rw [rd_ne (by decide)]; exact h k h1 h2
theorem pcn_lt {s i : Int32} {w : Int} (h : w = pcn s (i.toInt - 1).toNat) (h1 : 1 ≤ i.toInt ∧ i.toInt ≤ 30) (hp : pcn s 30 ≤ 12) (hb : ((s >>> ((i - 1) &&& 31)) &&& 1) = 1) : w ≤ 11 := by
  have h2 : (i - 1).toInt = i.toInt - 1 := ti_sub rfl rfl (by omega)
  have h3 := pcn_step (s := s) (i := i - 1) (z := i.toInt) (w := w) (b := 1) (by rw [h2]; exact h) (by omega) (by omega) (pcb1 hb)
  have h4 := pcn_le (s := s) (a := i.toInt.toNat) (b := 30) (by omega)
  omega
theorem pcn_to {s i : Int32} {w b z : Int} (h : w = pcn s (i.toInt - 1).toNat) (h1 : 1 ≤ i.toInt) (hz : z = i.toInt + 1) (hb : b = pcb s (i - 1)) : w + b = pcn s (z - 1).toNat := by
  have h2 : (i - 1).toInt = i.toInt - 1 := ti_sub rfl rfl (by have := i32 i; omega)
  exact pcn_step (s := s) (i := i - 1) (z := z - 1) (w := w) (b := b) (by rw [h2]; exact h) (by omega) (by omega) hb
/-- choices -/
noncomputable def chz (m : Int32) : Nat → Int64
  | 0 => 1
  | j + 1 => (chz m j * Int32.toInt64 (m + Int32.ofNat (j + 1))) / Int32.toInt64 (Int32.ofNat (j + 1))
theorem chz_step {m i : Int32} {x : Int64} {z : Int} (h : x = chz m (i.toInt - 1).toNat) (h1 : 1 ≤ i.toInt) (hz : z = i.toInt + 1) : (x * Int32.toInt64 (m + i)) / Int32.toInt64 i = chz m (z - 1).toNat := by
  rw [show (z - 1).toNat = (i.toInt - 1).toNat + 1 by omega]
  show _ = (chz m (i.toInt - 1).toNat * Int32.toInt64 (m + Int32.ofNat ((i.toInt - 1).toNat + 1))) / Int32.toInt64 (Int32.ofNat ((i.toInt - 1).toNat + 1))
  rw [show (i.toInt - 1).toNat + 1 = i.toInt.toNat by omega, of_toNat (by omega), ← h]
theorem chz_pos {m : Int32} {k : Nat} (h : 0 ≤ m.toInt ∧ m.toInt ≤ 12) (hk : k ≤ 12) : 0 < (chz m k).toInt := by
  have hd : ∀ a, a < 13 → ∀ k, k < 13 → 0 < (chz (Int32.ofNat a) k).toInt := by decide +kernel
  rw [← of_toNat h.1]
  exact hd _ (by omega) k (by omega)
noncomputable def p16 : Nat → Int64
  | 0 => 1
  | j + 1 => p16 j * 16
theorem p16_step {i : Int32} {x : Int64} {z : Int} (h : x = p16 i.toInt.toNat) (h1 : 0 ≤ i.toInt) (hz : z = i.toInt + 1) : x * 16 = p16 z.toNat := by
  rw [show z.toNat = i.toInt.toNat + 1 by omega, h]; rfl
theorem p16_pos {k : Nat} (hk : k ≤ 12) : ¬ p16 k = 0 := by
  have hd : ∀ k, k < 13 → ¬ p16 k = 0 := by decide +kernel
  exact hd k (by omega)
set_option maxHeartbeats 2000000 in
theorem sp_X12_greedyAt {d : Nat} {Q : Qt} {v1 : Int32} {v2 : Int32} {v3 : Int32} {I : Im} {J : Jm} {R : Rm} (hB0 : Bd I) (hR0 : RI R) (hQ : ∀ (x : Int32) (y : Int64) (I2 : Im) (J2 : Jm), Bd I2 → (True) → Q x y I2 J2 R) : AM (d + 3) 282 112 [.ref 97, .int v1, .int v2, .int v3] I J R Q := by
  have i_v1 := i32 v1
  have i_v2 := i32 v2
  have i_v3 := i32 v3
  refine am_X12_greedyAt (fun P hc => ?_)
  have L : ∀ n : Nat, (∀ (v4 : Int64) (v6 : Int64) (v8 : Int32) (M : Im) (JM : Jm), Bd M → (0 ≤ v4.toInt ∧ v4.toInt ≤ 29 ∧ 1 ≤ v6.toInt ∧ v6.toInt ≤ 300000000000000000 ∧ 0 ≤ v8.toInt ∧ v8.toInt + v4.toInt ≤ 29) → v4.toInt < (n : Int) → P 40 112 [(0, .ref 97), (3, .int v3), (4, .long v4), (6, .long v6), (8, .int v8)] [] M JM R) := by
    intro n
    induction n with
    | zero =>
      exact fun v4 v6 v8 M J _ hi hm => absurd hm (by omega)
    | succ n ih =>
      intro v4 v6 v8 M JM hB hi hm
      have i_v3 := i32 v3
      have i_v4 := i64 v4
      have i_v6 := i64 v6
      have i_v8 := i32 v8
      refine sg_X12_greedyAt_40 hc _ _ _ _ _ _ _ ?_
      refine ⟨fun c1 => ?_, fun c1 => ?_⟩
      · skip
        have d2 : ((v3.toInt) : Int) < (v8.toInt) := ci_lt rfl rfl c1
        refine w_X12_refuse ?_
        have hB3 : Bd (uI M 97 0 8) := Bd.o0 hB io9_112_97_12 (by decide) bd9_12_0
        exact hQ _ _ _ _ hB3 trivial
      · skip
        have d4 : ((v8.toInt) : Int) ≤ (v3.toInt) := ci_nlt rfl rfl c1
        refine ⟨fun c5 => ?_, fun c5 => ?_⟩
        · skip
          rw [lg_cmp_le] at c5
          have d6 : (((v4 : Int64).toInt) : Int) ≤ (0) := cl_le rfl rfl c5
          refine w_X12_refuse ?_
          have hB7 : Bd (uI M 97 0 8) := Bd.o0 hB io9_112_97_12 (by decide) bd9_12_0
          exact hQ _ _ _ _ hB7 trivial
        · skip
          rw [lg_cmp_le] at c5
          have d8 : ((0) : Int) < ((v4 : Int64).toInt) := cl_nle rfl rfl c5
          refine ⟨(fun z => by have z2 : ((v4 : Int64).toInt : Int) = 0 := cl_eq rfl rfl z; omega), ?_⟩
          refine ⟨fun c9 => ?_, fun c9 => ?_⟩
          · skip
            rw [lg_cmp_le] at c9
            have d10 : ((((((v6 + v4) - 1) / v4) : Int64).toInt) : Int) ≤ (100000000) := cl_le rfl rfl c9
            have hg := greedy1 (l := v4) (y := v6) (d := (((v6 + v4) - 1) / v4)) rfl rfl (by omega) (by omega) rfl (by omega)
            refine ⟨fun c11 => ?_, fun c11 => ?_⟩
            · skip
              have d12 : ¬ ((v8.toInt) : Int) = (v3.toInt) := ci_ne rfl rfl c11
              have e13 : ((v8 + 1) : Int32).toInt = (v8.toInt) + (1) := ti_add rfl rfl (by omega)
              exact ih _ _ _ _ _ hB (by have q0 : (((v4 * (((v6 + v4) - 1) / v4)) - v6) : Int64).toInt = (((v4 * (((v6 + v4) - 1) / v4)) - v6) : Int64).toInt := rfl; have q1 : ((v6 * (((v6 + v4) - 1) / v4)) : Int64).toInt = ((v6 * (((v6 + v4) - 1) / v4)) : Int64).toInt := rfl; have q2 : ((v8 + 1) : Int32).toInt = (v8.toInt + 1) := e13; omega) (by have q0 : (((v4 * (((v6 + v4) - 1) / v4)) - v6) : Int64).toInt = (((v4 * (((v6 + v4) - 1) / v4)) - v6) : Int64).toInt := rfl; omega)
            · skip
              have d14 : ((v8.toInt) : Int) = (v3.toInt) := ci_eq rfl rfl c11
              exact hQ _ _ _ _ hB trivial
          · skip
            rw [lg_cmp_le] at c9
            have d15 : ((100000000) : Int) < (((((v6 + v4) - 1) / v4) : Int64).toInt) := cl_nle rfl rfl c9
            refine w_X12_refuse ?_
            have hB16 : Bd (uI M 97 0 9) := Bd.o0 hB io9_112_97_12 (by decide) bd9_12_0
            exact hQ _ _ _ _ hB16 trivial
  refine sg_X12_greedyAt_0 hc _ _ _ _ _ _ ?_
  have hB17 : Bd (uI I 97 1 0) := Bd.o0 hB0 io9_112_97_12 (by decide) bd9_12_1
  have hB18 : Bd (uI (uI I 97 1 0) 97 0 0) := Bd.o0 hB17 io9_112_97_12 (by decide) bd9_12_0
  refine w_X12_isShare ?_
  refine w_X12_isIn ?_
  refine ⟨fun c19 => ?_, fun c19 => ?_⟩
  · skip
    rw [lg_cmp_lt] at c19
    have d20 : ((v1.toInt) : Int) < (1) := cl_lt (tl_i2l rfl) rfl c19
    refine ⟨Or.inl rfl, ?_⟩
    intro o21
    refine ⟨fun c22 => ?_, fun c22 => ?_⟩
    · skip
      refine ⟨Or.inl rfl, ?_⟩
      intro o23
      refine ⟨fun c24 => ?_, fun c24 => ?_⟩
      · skip
        refine w_X12_refuse ?_
        have hB25 : Bd (uI (uI (uI I 97 1 0) 97 0 0) 97 0 5) := Bd.o0 hB18 io9_112_97_12 (by decide) bd9_12_0
        exact hQ _ _ _ _ hB25 trivial
      · exact absurd c24 (by decide)
    · exact absurd c22 (by decide)
  · skip
    rw [lg_cmp_lt] at c19
    have d26 : ((1) : Int) ≤ (v1.toInt) := cl_nlt (tl_i2l rfl) rfl c19
    refine ⟨fun c27 => ?_, fun c27 => ?_⟩
    · skip
      rw [lg_cmp_gt] at c27
      have d28 : ((99) : Int) < (v1.toInt) := cl_lt rfl (tl_i2l rfl) c27
      refine ⟨Or.inl rfl, ?_⟩
      intro o29
      refine ⟨fun c30 => ?_, fun c30 => ?_⟩
      · skip
        refine ⟨Or.inl rfl, ?_⟩
        intro o31
        refine ⟨fun c32 => ?_, fun c32 => ?_⟩
        · skip
          refine w_X12_refuse ?_
          have hB33 : Bd (uI (uI (uI I 97 1 0) 97 0 0) 97 0 5) := Bd.o0 hB18 io9_112_97_12 (by decide) bd9_12_0
          exact hQ _ _ _ _ hB33 trivial
        · exact absurd c32 (by decide)
      · exact absurd c30 (by decide)
    · skip
      rw [lg_cmp_gt] at c27
      have d34 : ((v1.toInt) : Int) ≤ (99) := cl_nlt rfl (tl_i2l rfl) c27
      refine ⟨Or.inr rfl, ?_⟩
      intro o35
      refine ⟨fun c36 => ?_, fun c36 => ?_⟩
      · exact absurd c36 (by decide)
      · skip
        refine w_X12_isIn ?_
        refine ⟨fun c37 => ?_, fun c37 => ?_⟩
        · skip
          rw [lg_cmp_lt] at c37
          have d38 : ((v2.toInt) : Int) < (1) := cl_lt (tl_i2l rfl) rfl c37
          refine ⟨Or.inl rfl, ?_⟩
          intro o39
          refine ⟨fun c40 => ?_, fun c40 => ?_⟩
          · skip
            refine ⟨Or.inl rfl, ?_⟩
            intro o41
            refine ⟨fun c42 => ?_, fun c42 => ?_⟩
            · skip
              refine w_X12_refuse ?_
              have hB43 : Bd (uI (uI (uI I 97 1 0) 97 0 0) 97 0 5) := Bd.o0 hB18 io9_112_97_12 (by decide) bd9_12_0
              exact hQ _ _ _ _ hB43 trivial
            · exact absurd c42 (by decide)
          · exact absurd c40 (by decide)
        · skip
          rw [lg_cmp_lt] at c37
          have d44 : ((1) : Int) ≤ (v2.toInt) := cl_nlt (tl_i2l rfl) rfl c37
          refine ⟨fun c45 => ?_, fun c45 => ?_⟩
          · skip
            rw [lg_cmp_gt] at c45
            have d46 : ((30) : Int) < (v2.toInt) := cl_lt rfl (tl_i2l rfl) c45
            refine ⟨Or.inl rfl, ?_⟩
            intro o47
            refine ⟨fun c48 => ?_, fun c48 => ?_⟩
            · skip
              refine ⟨Or.inl rfl, ?_⟩
              intro o49
              refine ⟨fun c50 => ?_, fun c50 => ?_⟩
              · skip
                refine w_X12_refuse ?_
                have hB51 : Bd (uI (uI (uI I 97 1 0) 97 0 0) 97 0 5) := Bd.o0 hB18 io9_112_97_12 (by decide) bd9_12_0
                exact hQ _ _ _ _ hB51 trivial
              · exact absurd c50 (by decide)
            · exact absurd c48 (by decide)
          · skip
            rw [lg_cmp_gt] at c45
            have d52 : ((v2.toInt) : Int) ≤ (30) := cl_nlt rfl (tl_i2l rfl) c45
            refine ⟨Or.inr rfl, ?_⟩
            intro o53
            refine ⟨fun c54 => ?_, fun c54 => ?_⟩
            · exact absurd c54 (by decide)
            · skip
              refine ⟨Or.inr rfl, ?_⟩
              intro o55
              refine ⟨fun c56 => ?_, fun c56 => ?_⟩
              · exact absurd c56 (by decide)
              · skip
                refine ⟨fun c57 => ?_, fun c57 => ?_⟩
                · skip
                  have d58 : ((v1.toInt) : Int) < (v2.toInt) := ci_lt rfl rfl c57
                  exact (L 1000000) _ _ _ _ _ hB18 (by have q0 : ((Int32.toInt64 v1) : Int64).toInt = v1.toInt := (tl_i2l rfl); have q1 : ((Int32.toInt64 v2) : Int64).toInt = v2.toInt := (tl_i2l rfl); have q2 : (0 : Int32).toInt = 0 := rfl; omega) (by have q0 : ((Int32.toInt64 v1) : Int64).toInt = v1.toInt := (tl_i2l rfl); omega)
                · skip
                  have d59 : ((v2.toInt) : Int) ≤ (v1.toInt) := ci_nlt rfl rfl c57
                  refine w_X12_refuse ?_
                  have hB60 : Bd (uI (uI (uI I 97 1 0) 97 0 0) 97 0 5) := Bd.o0 hB18 io9_112_97_12 (by decide) bd9_12_0
                  exact hQ _ _ _ _ hB60 trivial
set_option maxHeartbeats 2000000 in
theorem sp_X12_isRow {d : Nat} {Q : Qt} {v1 : Int32} {v2 : Int32} {v3 : Int32} {v4 : Int32} {v5 : Int64} {I : Im} {J : Jm} {R : Rm} (hB0 : Bd I) (hR0 : RI R) (hv1 : 0 ≤ v1.toInt ∧ v1.toInt ≤ 3) (hv2 : v2.toInt ≤ 8) (hQ : ∀ (x : Int32) (y : Int64) (I2 : Im) (J2 : Jm), Bd I2 → (I = I2) → Q x y I2 J2 R) : AM (d + 2) 284 112 [.ref 97, .int v1, .int v2, .int v3, .int v4, .long v5] I J R Q := by
  have i_v1 := i32 v1
  have i_v2 := i32 v2
  have i_v3 := i32 v3
  have i_v4 := i32 v4
  have i_v5 := i64 v5
  refine am_X12_isRow (fun P hc => ?_)
  have L : ∀ n : Nat, (∀ (v7 : Int32) (v8 : Int64) (v10 : Int32) (M : Im) (JM : Jm), Bd M → I = M → (0 ≤ v1.toInt ∧ v1.toInt ≤ 3 ∧ v2.toInt ≤ 8 ∧ 0 ≤ v10.toInt ∧ v10.toInt ≤ 8) → 20 - v10.toInt < (n : Int) → P 10 112 [(0, .ref 97), (1, .int v1), (2, .int v2), (3, .int v3), (4, .int v4), (7, .int v7), (8, .long v8), (10, .int v10)] [] M JM R) := by
    intro n
    induction n with
    | zero =>
      exact fun v7 v8 v10 M J _ _ hi hm => absurd hm (by omega)
    | succ n ih =>
      intro v7 v8 v10 M JM hB hM hi hm
      have i_v1 := i32 v1
      have i_v2 := i32 v2
      have i_v3 := i32 v3
      have i_v4 := i32 v4
      have i_v7 := i32 v7
      have i_v8 := i64 v8
      have i_v10 := i32 v10
      refine sg_X12_isRow_10 hc _ _ _ _ _ _ _ _ _ _ ?_
      subst hM
      refine ⟨fun c1 => ?_, fun c1 => ?_⟩
      · skip
        have d2 : ((v2.toInt) : Int) ≤ (v10.toInt) := ci_le rfl rfl c1
        refine ⟨fun c3 => ?_, fun c3 => ?_⟩
        · skip
          rw [lg_cmp_eq] at c3
          have d4 : ¬ (((v8 : Int64).toInt) : Int) = (0) := cl_ne rfl rfl c3
          refine ⟨Or.inl rfl, ?_⟩
          exact hQ _ _ _ _ hB0 rfl
        · skip
          rw [lg_cmp_eq] at c3
          have d5 : (((v8 : Int64).toInt) : Int) = (0) := cl_eq rfl rfl c3
          refine ⟨Or.inr rfl, ?_⟩
          exact hQ _ _ _ _ hB0 rfl
      · skip
        have d6 : ((v10.toInt) : Int) < (v2.toInt) := ci_nle rfl rfl c1
        refine ⟨fun c7 => ?_, fun c7 => ?_⟩
        · skip
          have d8 : ¬ ((v10.toInt) : Int) = (v3.toInt) := ci_ne rfl rfl c7
          refine w_X12_numberOf ?_
          have e9 : ((60 * v1) : Int32).toInt = (60) * (v1.toInt) := ti_mul rfl rfl (by omega)
          have e10 : (((60 * v1) + v10) : Int32).toInt = ((60 * v1.toInt)) + (v10.toInt) := ti_add e9 rfl (by omega)
          refine ⟨vp_of (a := ((60 * v1.toInt) + v10.toInt)) e10 (by omega) (by omega), ?_⟩
          refine w_X12_isOf ?_
          refine ⟨fun c11 => ?_, fun c11 => ?_⟩
          · skip
            have d12 : ¬ (((((v7 >>> (((Int64.toInt32 (JM 100 (Int32.toNatClampNeg ((60 * v1) + v10)))) - 1) &&& 31)) &&& 1) : Int32).toInt) : Int) = (1) := ci_ne rfl rfl c11
            refine ⟨Or.inl rfl, ?_⟩
            intro o13
            refine ⟨fun c14 => ?_, fun c14 => ?_⟩
            · exact absurd c14 (by decide)
            · skip
              refine ⟨vp_of (a := 3) rfl (by first | (clear d6 d8 e9 e10 d12; omega) | omega) (by first | (clear d6 d8 e9 e10 d12; omega) | omega), ?_⟩
              refine w_X12_isOf ?_
              refine ⟨fun c15 => ?_, fun c15 => ?_⟩
              · skip
                have d16 : ¬ ((((((I 102 (Int32.toNatClampNeg 3)) >>> (((Int64.toInt32 (JM 100 (Int32.toNatClampNeg ((60 * v1) + v10)))) - 1) &&& 31)) &&& 1) : Int32).toInt) : Int) = (1) := ci_ne rfl rfl c15
                refine ⟨Or.inl rfl, ?_⟩
                intro o17
                refine ⟨fun c18 => ?_, fun c18 => ?_⟩
                · exact absurd c18 (by decide)
                · skip
                  refine ⟨Or.inl rfl, ?_⟩
                  exact hQ _ _ _ _ hB0 rfl
              · skip
                have d19 : ((((((I 102 (Int32.toNatClampNeg 3)) >>> (((Int64.toInt32 (JM 100 (Int32.toNatClampNeg ((60 * v1) + v10)))) - 1) &&& 31)) &&& 1) : Int32).toInt) : Int) = (1) := ci_eq rfl rfl c15
                refine ⟨Or.inr rfl, ?_⟩
                intro o20
                refine ⟨fun c21 => ?_, fun c21 => ?_⟩
                · skip
                  refine w_X12_partsOf ?_
                  have hz22 := of0 (s := (I 102 (Int32.toNatClampNeg 3))) (d := (Int64.toInt32 (JM 100 (Int32.toNatClampNeg ((60 * v1) + v10))))) (Bd.known0 hB0)
                  have i23 := i32 ((Int64.toInt32 (JM 100 (Int32.toNatClampNeg ((60 * v1) + v10)))))
                  refine ⟨(fun z => by have z2 : (((Int64.toInt32 (JM 100 (Int32.toNatClampNeg ((60 * v1) + v10)))) : Int32).toInt : Int) = 0 := cl_eq (tl_i2l rfl) rfl z; omega), ?_⟩
                  have e24 : ((v10 + 1) : Int32).toInt = (v10.toInt) + (1) := ti_add rfl rfl (by omega)
                  exact ih _ _ _ _ _ hB0 rfl (by have q0 : ((v10 + 1) : Int32).toInt = (v10.toInt + 1) := e24; omega) (by have q0 : ((v10 + 1) : Int32).toInt = (v10.toInt + 1) := e24; omega)
                · exact absurd c21 (by decide)
          · skip
            have d25 : (((((v7 >>> (((Int64.toInt32 (JM 100 (Int32.toNatClampNeg ((60 * v1) + v10)))) - 1) &&& 31)) &&& 1) : Int32).toInt) : Int) = (1) := ci_eq rfl rfl c11
            refine ⟨Or.inr rfl, ?_⟩
            intro o26
            refine ⟨fun c27 => ?_, fun c27 => ?_⟩
            · skip
              refine ⟨Or.inl rfl, ?_⟩
              exact hQ _ _ _ _ hB0 rfl
            · exact absurd c27 (by decide)
        · skip
          have d28 : ((v10.toInt) : Int) = (v3.toInt) := ci_eq rfl rfl c7
          refine w_X12_isOf ?_
          refine ⟨fun c29 => ?_, fun c29 => ?_⟩
          · skip
            have d30 : ¬ (((((v7 >>> ((v4 - 1) &&& 31)) &&& 1) : Int32).toInt) : Int) = (1) := ci_ne rfl rfl c29
            refine ⟨Or.inl rfl, ?_⟩
            intro o31
            refine ⟨fun c32 => ?_, fun c32 => ?_⟩
            · exact absurd c32 (by decide)
            · skip
              refine ⟨vp_of (a := 3) rfl (by omega) (by omega), ?_⟩
              refine w_X12_isOf ?_
              refine ⟨fun c33 => ?_, fun c33 => ?_⟩
              · skip
                have d34 : ¬ ((((((I 102 (Int32.toNatClampNeg 3)) >>> ((v4 - 1) &&& 31)) &&& 1) : Int32).toInt) : Int) = (1) := ci_ne rfl rfl c33
                refine ⟨Or.inl rfl, ?_⟩
                intro o35
                refine ⟨fun c36 => ?_, fun c36 => ?_⟩
                · exact absurd c36 (by decide)
                · skip
                  refine ⟨Or.inl rfl, ?_⟩
                  exact hQ _ _ _ _ hB0 rfl
              · skip
                have d37 : ((((((I 102 (Int32.toNatClampNeg 3)) >>> ((v4 - 1) &&& 31)) &&& 1) : Int32).toInt) : Int) = (1) := ci_eq rfl rfl c33
                refine ⟨Or.inr rfl, ?_⟩
                intro o38
                refine ⟨fun c39 => ?_, fun c39 => ?_⟩
                · skip
                  refine w_X12_partsOf ?_
                  have hz40 := of0 (s := (I 102 (Int32.toNatClampNeg 3))) (d := v4) (Bd.known0 hB0)
                  refine ⟨(fun z => by have z2 : (v4.toInt : Int) = 0 := cl_eq (tl_i2l rfl) rfl z; omega), ?_⟩
                  have e41 : ((v10 + 1) : Int32).toInt = (v10.toInt) + (1) := ti_add rfl rfl (by omega)
                  exact ih _ _ _ _ _ hB0 rfl (by have q0 : ((v10 + 1) : Int32).toInt = (v10.toInt + 1) := e41; omega) (by have q0 : ((v10 + 1) : Int32).toInt = (v10.toInt + 1) := e41; omega)
                · exact absurd c39 (by decide)
          · skip
            have d42 : (((((v7 >>> ((v4 - 1) &&& 31)) &&& 1) : Int32).toInt) : Int) = (1) := ci_eq rfl rfl c29
            refine ⟨Or.inr rfl, ?_⟩
            intro o43
            refine ⟨fun c44 => ?_, fun c44 => ?_⟩
            · skip
              refine ⟨Or.inl rfl, ?_⟩
              exact hQ _ _ _ _ hB0 rfl
            · exact absurd c44 (by decide)
  refine sg_X12_isRow_0 hc _ _ _ _ _ _ _ _ ?_
  exact (L 1000000) _ _ _ _ _ hB0 rfl (by have q0 : (0 : Int32).toInt = 0 := rfl; omega) (by have q0 : (0 : Int32).toInt = 0 := rfl; omega)
set_option maxHeartbeats 2000000 in
theorem sp_X12_laysSlips {d : Nat} {Q : Qt} {v1 : Int32} {v2 : Int32} {v3 : Int32} {v4 : Int64} {I : Im} {J : Jm} {R : Rm} (hB0 : Bd I) (hR0 : RI R) (hv1 : 0 ≤ v1.toInt ∧ v1.toInt ≤ 3) (hv2 : v2.toInt ≤ 8) (hQ : ∀ (x : Int32) (y : Int64) (I2 : Im) (J2 : Jm), Bd I2 → (True) → Q x y I2 J2 R) : AM (d + 3) 285 112 [.ref 97, .int v1, .int v2, .int v3, .long v4] I J R Q := by
  have i_v1 := i32 v1
  have i_v2 := i32 v2
  have i_v3 := i32 v3
  have i_v4 := i64 v4
  refine am_X12_laysSlips (fun P hc => ?_)
  have L : ∀ n : Nat, (∀ (v6 : Int32) (M : Im) (JM : Jm), Bd M → (0 ≤ v1.toInt ∧ v1.toInt ≤ 3 ∧ v2.toInt ≤ 8 ∧ 0 ≤ v6.toInt ∧ v6.toInt ≤ 8) → 1000 - 50 * v6.toInt < (n : Int) → P 22 112 [(0, .ref 97), (1, .int v1), (2, .int v2), (3, .int v3), (4, .long v4), (6, .int v6)] [] M JM R) ∧ (∀ (v6 : Int32) (v7 : Int32) (M : Im) (JM : Jm), Bd M → (0 ≤ v1.toInt ∧ v1.toInt ≤ 3 ∧ v2.toInt ≤ 8 ∧ 0 ≤ v6.toInt ∧ v6.toInt ≤ 7 ∧ 1 ≤ v7.toInt ∧ v7.toInt ≤ 31) → 1000 - 50 * v6.toInt - v7.toInt < (n : Int) → P 31 112 [(0, .ref 97), (1, .int v1), (2, .int v2), (3, .int v3), (4, .long v4), (6, .int v6), (7, .int v7)] [] M JM R) := by
    intro n
    induction n with
    | zero =>
      exact ⟨fun v6 M J _ hi hm => absurd hm (by omega), fun v6 v7 M J _ hi hm => absurd hm (by omega)⟩
    | succ n ih =>
      refine ⟨?_, ?_⟩
      · skip
        intro v6 M JM hB hi hm
        have i_v1 := i32 v1
        have i_v2 := i32 v2
        have i_v3 := i32 v3
        have i_v4 := i64 v4
        have i_v6 := i32 v6
        refine sg_X12_laysSlips_22 hc _ _ _ _ _ _ _ _ ?_
        refine ⟨fun c1 => ?_, fun c1 => ?_⟩
        · skip
          have d2 : ((v2.toInt) : Int) ≤ (v6.toInt) := ci_le rfl rfl c1
          exact hQ _ _ _ _ hB trivial
        · skip
          have d3 : ((v6.toInt) : Int) < (v2.toInt) := ci_nle rfl rfl c1
          exact ih.2 _ _ _ _ hB (by have q0 : (v6 : Int32).toInt = v6.toInt := rfl; have q1 : (1 : Int32).toInt = 1 := rfl; omega) (by have q0 : (v6 : Int32).toInt = v6.toInt := rfl; have q1 : (1 : Int32).toInt = 1 := rfl; omega)
      · skip
        intro v6 v7 M JM hB hi hm
        have i_v1 := i32 v1
        have i_v2 := i32 v2
        have i_v3 := i32 v3
        have i_v4 := i64 v4
        have i_v6 := i32 v6
        have i_v7 := i32 v7
        refine sg_X12_laysSlips_31 hc _ _ _ _ _ _ _ _ _ ?_
        refine ⟨fun c4 => ?_, fun c4 => ?_⟩
        · skip
          have d5 : ((30) : Int) < (v7.toInt) := ci_lt rfl rfl c4
          have e6 : ((v6 + 1) : Int32).toInt = (v6.toInt) + (1) := ti_add rfl rfl (by omega)
          exact ih.1 _ _ _ hB (by have q0 : ((v6 + 1) : Int32).toInt = (v6.toInt + 1) := e6; omega) (by have q0 : ((v6 + 1) : Int32).toInt = (v6.toInt + 1) := e6; omega)
        · skip
          have d7 : ((v7.toInt) : Int) ≤ (30) := ci_nlt rfl rfl c4
          refine sp_X12_isRow hB hR0 (by have z1 : (v1 : Int32).toInt = v1.toInt := rfl; omega) (by have z2 : (v2 : Int32).toInt = v2.toInt := rfl; omega) (fun x8 y13 I9 J10 hB11 p12 => ?_)
          intro o14
          subst p12
          have i15 := i32 x8
          refine ⟨fun c16 => ?_, fun c16 => ?_⟩
          · skip
            have d17 : ¬ ((x8.toInt) : Int) = (0) := ci_ne rfl rfl c16
            refine ⟨fun c18 => ?_, fun c18 => ?_⟩
            · skip
              have d19 : ¬ (((M 97 32).toInt) : Int) = (v3.toInt) := ci_ne rfl rfl c18
              have hB20 : Bd (uI M 97 32 ((M 97 32) + 1)) := Bd.o0 hB io9_112_97_12 (by decide) bd9_12_32
              have e21 : ((v7 + 1) : Int32).toInt = (v7.toInt) + (1) := ti_add rfl rfl (by first | (clear p12 i15 d17 d19; omega) | omega)
              exact ih.2 _ _ _ _ hB20 (by have q0 : (v6 : Int32).toInt = v6.toInt := rfl; have q1 : ((v7 + 1) : Int32).toInt = (v7.toInt + 1) := e21; omega) (by have q0 : (v6 : Int32).toInt = v6.toInt := rfl; have q1 : ((v7 + 1) : Int32).toInt = (v7.toInt + 1) := e21; omega)
            · skip
              have d22 : (((M 97 32).toInt) : Int) = (v3.toInt) := ci_eq rfl rfl c18
              have hB23 : Bd (uI M 97 33 v6) := Bd.o0 hB io9_112_97_12 (by decide) bd9_12_33
              have hB24 : Bd (uI (uI M 97 33 v6) 97 34 v7) := Bd.o0 hB23 io9_112_97_12 (by decide) bd9_12_34
              have hB25 : Bd (uI (uI (uI M 97 33 v6) 97 34 v7) 97 32 (((uI (uI M 97 33 v6) 97 34 v7) 97 32) + 1)) := Bd.o0 hB24 io9_112_97_12 (by decide) bd9_12_32
              have e26 : ((v7 + 1) : Int32).toInt = (v7.toInt) + (1) := ti_add rfl rfl (by first | (clear p12 i15 d17 d22; omega) | omega)
              exact ih.2 _ _ _ _ hB25 (by have q0 : (v6 : Int32).toInt = v6.toInt := rfl; have q1 : ((v7 + 1) : Int32).toInt = (v7.toInt + 1) := e26; omega) (by have q0 : (v6 : Int32).toInt = v6.toInt := rfl; have q1 : ((v7 + 1) : Int32).toInt = (v7.toInt + 1) := e26; omega)
          · skip
            have d27 : ((x8.toInt) : Int) = (0) := ci_eq rfl rfl c16
            have e28 : ((v7 + 1) : Int32).toInt = (v7.toInt) + (1) := ti_add rfl rfl (by omega)
            exact ih.2 _ _ _ _ hB (by have q0 : (v6 : Int32).toInt = v6.toInt := rfl; have q1 : ((v7 + 1) : Int32).toInt = (v7.toInt + 1) := e28; omega) (by have q0 : (v6 : Int32).toInt = v6.toInt := rfl; have q1 : ((v7 + 1) : Int32).toInt = (v7.toInt + 1) := e28; omega)
  refine sg_X12_laysSlips_0 hc _ _ _ _ _ _ _ ?_
  have hB29 : Bd (uI I 97 32 0) := Bd.o0 hB0 io9_112_97_12 (by decide) bd9_12_32
  refine sp_X12_isRow hB29 hR0 (by have z1 : (v1 : Int32).toInt = v1.toInt := rfl; omega) (by have z2 : (v2 : Int32).toInt = v2.toInt := rfl; omega) (fun x30 y35 I31 J32 hB33 p34 => ?_)
  intro o36
  subst p34
  have i37 := i32 x30
  refine ⟨fun c38 => ?_, fun c38 => ?_⟩
  · skip
    have d39 : ((x30.toInt) : Int) = (0) := ci_eq rfl rfl c38
    exact (L 1000000).1 _ _ _ hB29 (by have q0 : (0 : Int32).toInt = 0 := rfl; omega) (by have q0 : (0 : Int32).toInt = 0 := rfl; omega)
  · skip
    have d40 : ¬ ((x30.toInt) : Int) = (0) := ci_ne rfl rfl c38
    exact hQ _ _ _ _ hB29 trivial
set_option maxHeartbeats 2000000 in
theorem sp_X12_slips {d : Nat} {Q : Qt} {v1 : Int32} {v2 : Int32} {v3 : Int32} {v4 : Int32} {I : Im} {J : Jm} {R : Rm} (hB0 : Bd I) (hR0 : RI R) (hQ : ∀ (x : Int32) (y : Int64) (I2 : Im) (J2 : Jm), Bd I2 → (True) → Q x y I2 J2 R) : AM (d + 4) 286 112 [.ref 97, .int v1, .int v2, .int v3, .int v4] I J R Q := by
  have i_v1 := i32 v1
  have i_v2 := i32 v2
  have i_v3 := i32 v3
  have i_v4 := i32 v4
  refine w_X12_slips ?_
  have hB1 : Bd (uI I 97 1 0) := Bd.o0 hB0 io9_112_97_12 (by decide) bd9_12_1
  refine sp_X12_whyNoRow hB1 hR0 (fun x2 y7 I3 J4 hB5 p6 => ?_)
  obtain ⟨heI3, p6⟩ := p6
  subst heI3
  have i8 := i32 x2
  have hB9 : Bd (uI (uI I 97 1 0) 97 0 x2) := Bd.o0 hB1 io9_112_97_12 (by decide) bd9_12_0
  refine ⟨fun c10 => ?_, fun c10 => ?_⟩
  · skip
    have e11 : (((uI (uI I 97 1 0) 97 0 x2) 97 0) : Int32).toInt = x2.toInt := Eq.trans (congrArg Int32.toInt rd_eq) rfl
    have d12 : ((x2.toInt) : Int) ≤ (0) := ci_le e11 rfl c10
    refine w_X12_shareOf ?_
    refine ⟨(fun z => by have z2 : (v4.toInt : Int) = 0 := cl_eq (tl_i2l rfl) rfl z; omega), ?_⟩
    refine sp_X12_laysSlips hB9 hR0 (by have z1 : (v1 : Int32).toInt = v1.toInt := rfl; omega) (by have z2 : (v2 : Int32).toInt = v2.toInt := rfl; omega) (fun x13 y18 I14 J15 hB16 p17 => ?_)
    exact hQ _ _ _ _ hB16 trivial
  · skip
    have e19 : (((uI (uI I 97 1 0) 97 0 x2) 97 0) : Int32).toInt = x2.toInt := Eq.trans (congrArg Int32.toInt rd_eq) rfl
    have d20 : ((0) : Int) < (x2.toInt) := ci_nle e19 rfl c10
    exact hQ _ _ _ _ hB9 trivial
set_option maxHeartbeats 2000000 in
theorem sp_X12_slipAt {d : Nat} {Q : Qt} {v1 : Int32} {v2 : Int32} {v3 : Int32} {v4 : Int32} {v5 : Int32} {v6 : Int32} {I : Im} {J : Jm} {R : Rm} (hB0 : Bd I) (hR0 : RI R) (hQ : ∀ (x : Int32) (y : Int64) (I2 : Im) (J2 : Jm), Bd I2 → (True) → Q x y I2 J2 R) : AM (d + 4) 287 112 [.ref 97, .int v1, .int v2, .int v3, .int v4, .int v5, .int v6] I J R Q := by
  have i_v1 := i32 v1
  have i_v2 := i32 v2
  have i_v3 := i32 v3
  have i_v4 := i32 v4
  have i_v5 := i32 v5
  have i_v6 := i32 v6
  refine am_X12_slipAt (fun P hc => ?_)
  have L : ∀ n : Nat, (∀ (M : Im) (JM : Jm), Bd M → ((M 97 0).toInt ≤ 0 → 0 ≤ v1.toInt ∧ v1.toInt ≤ 3 ∧ 1 ≤ v2.toInt ∧ v2.toInt ≤ 8 ∧ 1 ≤ v4.toInt ∧ v4.toInt ≤ 30) → 1 < (n : Int) → P 41 112 [(0, .ref 97), (1, .int v1), (2, .int v2), (3, .int v3), (4, .int v4), (5, .int v5), (6, .int v6)] [] M JM R) := by
    intro n
    induction n with
    | zero =>
      exact fun  M J _ hi hm => absurd hm (by omega)
    | succ n ih =>
      intro  M JM hB hi hm
      have i_v1 := i32 v1
      have i_v2 := i32 v2
      have i_v3 := i32 v3
      have i_v4 := i32 v4
      have i_v5 := i32 v5
      have i_v6 := i32 v6
      refine sg_X12_slipAt_41 hc _ _ _ _ _ _ _ _ _ ?_
      refine ⟨fun c1 => ?_, fun c1 => ?_⟩
      · skip
        have d2 : (((M 97 0).toInt) : Int) ≤ (0) := ci_le rfl rfl c1
        refine w_X12_shareOf ?_
        refine ⟨(fun z => by have z2 : (v4.toInt : Int) = 0 := cl_eq (tl_i2l rfl) rfl z; omega), ?_⟩
        refine sp_X12_laysSlips hB hR0 (by have z1 : (v1 : Int32).toInt = v1.toInt := rfl; omega) (by have z2 : (v2 : Int32).toInt = v2.toInt := rfl; omega) (fun x3 y8 I4 J5 hB6 p7 => ?_)
        refine w_X12_isIn ?_
        refine ⟨fun c9 => ?_, fun c9 => ?_⟩
        · skip
          rw [lg_cmp_lt] at c9
          have d10 : ((v5.toInt) : Int) < (0) := cl_lt (tl_i2l rfl) rfl c9
          refine ⟨Or.inl rfl, ?_⟩
          intro o11
          refine ⟨fun c12 => ?_, fun c12 => ?_⟩
          · exact absurd c12 (by decide)
          · skip
            refine w_X12_refuse ?_
            have hB13 : Bd (uI I4 97 0 8) := Bd.o0 hB6 io9_112_97_12 (by decide) bd9_12_0
            exact hQ _ _ _ _ hB13 trivial
        · skip
          rw [lg_cmp_lt] at c9
          have d14 : ((0) : Int) ≤ (v5.toInt) := cl_nlt (tl_i2l rfl) rfl c9
          refine ⟨fun c15 => ?_, fun c15 => ?_⟩
          · skip
            rw [lg_cmp_gt] at c15
            have i16 := i32 (((I4 97 32) - 1))
            have d17 : (((((I4 97 32) - 1) : Int32).toInt) : Int) < (v5.toInt) := cl_lt (tl_i2l rfl) (tl_i2l rfl) c15
            refine ⟨Or.inl rfl, ?_⟩
            intro o18
            refine ⟨fun c19 => ?_, fun c19 => ?_⟩
            · exact absurd c19 (by decide)
            · skip
              refine w_X12_refuse ?_
              have hB20 : Bd (uI I4 97 0 8) := Bd.o0 hB6 io9_112_97_12 (by decide) bd9_12_0
              exact hQ _ _ _ _ hB20 trivial
          · skip
            rw [lg_cmp_gt] at c15
            have i21 := i32 (((I4 97 32) - 1))
            have d22 : ((v5.toInt) : Int) ≤ ((((I4 97 32) - 1) : Int32).toInt) := cl_nlt (tl_i2l rfl) (tl_i2l rfl) c15
            refine ⟨Or.inr rfl, ?_⟩
            intro o23
            refine ⟨fun c24 => ?_, fun c24 => ?_⟩
            · skip
              refine ⟨fun c25 => ?_, fun c25 => ?_⟩
              · skip
                have d26 : ¬ ((v6.toInt) : Int) = (0) := ci_ne rfl rfl c25
                exact hQ _ _ _ _ hB6 trivial
              · skip
                have d27 : ((v6.toInt) : Int) = (0) := ci_eq rfl rfl c25
                exact hQ _ _ _ _ hB6 trivial
            · exact absurd c24 (by decide)
      · skip
        have d28 : ((0) : Int) < ((M 97 0).toInt) := ci_nle rfl rfl c1
        exact hQ _ _ _ _ hB trivial
  refine sg_X12_slipAt_0 hc _ _ _ _ _ _ _ _ _ ?_
  have hB29 : Bd (uI I 97 1 0) := Bd.o0 hB0 io9_112_97_12 (by decide) bd9_12_1
  refine sp_X12_whyNoRow hB29 hR0 (fun x30 y35 I31 J32 hB33 p34 => ?_)
  obtain ⟨heI31, p34⟩ := p34
  subst heI31
  have i36 := i32 x30
  have hB37 : Bd (uI (uI I 97 1 0) 97 0 x30) := Bd.o0 hB29 io9_112_97_12 (by decide) bd9_12_0
  refine ⟨fun c38 => ?_, fun c38 => ?_⟩
  · skip
    have e39 : (((uI (uI I 97 1 0) 97 0 x30) 97 0) : Int32).toInt = x30.toInt := Eq.trans (congrArg Int32.toInt rd_eq) rfl
    have d40 : ¬ ((x30.toInt) : Int) = (0) := ci_ne e39 rfl c38
    exact (L 1000000) _ _ hB37 (by have q0 : (((uI (uI I 97 1 0) 97 0 x30) 97 0) : Int32).toInt = x30.toInt := e39; omega) (by omega)
  · skip
    have e41 : (((uI (uI I 97 1 0) 97 0 x30) 97 0) : Int32).toInt = x30.toInt := Eq.trans (congrArg Int32.toInt rd_eq) rfl
    have d42 : ((x30.toInt) : Int) = (0) := ci_eq e41 rfl c38
    refine w_X12_isIn ?_
    refine ⟨fun c43 => ?_, fun c43 => ?_⟩
    · skip
      rw [lg_cmp_lt] at c43
      have d44 : ((v6.toInt) : Int) < (0) := cl_lt (tl_i2l rfl) rfl c43
      refine ⟨Or.inl rfl, ?_⟩
      intro o45
      refine ⟨fun c46 => ?_, fun c46 => ?_⟩
      · exact absurd c46 (by decide)
      · skip
        have hB47 : Bd (uI (uI (uI I 97 1 0) 97 0 x30) 97 0 5) := Bd.o0 hB37 io9_112_97_12 (by decide) bd9_12_0
        have e48 : (((uI (uI (uI I 97 1 0) 97 0 x30) 97 0 5) 97 0) : Int32).toInt = 5 := Eq.trans (congrArg Int32.toInt rd_eq) rfl
        exact (L 1000000) _ _ hB47 (by have q0 : (((uI (uI (uI I 97 1 0) 97 0 x30) 97 0 5) 97 0) : Int32).toInt = 5 := e48; omega) (by omega)
    · skip
      rw [lg_cmp_lt] at c43
      have d49 : ((0) : Int) ≤ (v6.toInt) := cl_nlt (tl_i2l rfl) rfl c43
      refine ⟨fun c50 => ?_, fun c50 => ?_⟩
      · skip
        rw [lg_cmp_gt] at c50
        have d51 : ((1) : Int) < (v6.toInt) := cl_lt rfl (tl_i2l rfl) c50
        refine ⟨Or.inl rfl, ?_⟩
        intro o52
        refine ⟨fun c53 => ?_, fun c53 => ?_⟩
        · exact absurd c53 (by decide)
        · skip
          have hB54 : Bd (uI (uI (uI I 97 1 0) 97 0 x30) 97 0 5) := Bd.o0 hB37 io9_112_97_12 (by decide) bd9_12_0
          have e55 : (((uI (uI (uI I 97 1 0) 97 0 x30) 97 0 5) 97 0) : Int32).toInt = 5 := Eq.trans (congrArg Int32.toInt rd_eq) rfl
          exact (L 1000000) _ _ hB54 (by have q0 : (((uI (uI (uI I 97 1 0) 97 0 x30) 97 0 5) 97 0) : Int32).toInt = 5 := e55; omega) (by omega)
      · skip
        rw [lg_cmp_gt] at c50
        have d56 : ((v6.toInt) : Int) ≤ (1) := cl_nlt rfl (tl_i2l rfl) c50
        refine ⟨Or.inr rfl, ?_⟩
        intro o57
        refine ⟨fun c58 => ?_, fun c58 => ?_⟩
        · skip
          exact (L 1000000) _ _ hB37 (by have q0 : (((uI (uI I 97 1 0) 97 0 x30) 97 0) : Int32).toInt = x30.toInt := e41; omega) (by omega)
        · exact absurd c58 (by decide)
end PT11x0
section PT11x1
set_option maxHeartbeats 2000000 in
theorem sp_X12_plates {d : Nat} {Q : Qt} {v1 : Int32} {I : Im} {J : Jm} {R : Rm} (hB0 : Bd I) (hR0 : RI R) (hp30 : pcn v1 30 ≤ 12) (hQ : ∀ (x : Int32) (y : Int64) (I2 : Im) (J2 : Jm), Bd I2 → (True) → Q x y I2 J2 R) : AM (d + 2) 299 112 [.ref 97, .int v1] I J R Q := by
  have i_v1 := i32 v1
  refine am_X12_plates (fun P hc => ?_)
  have L : ∀ n : Nat, (∀ (v2 : Int32) (v3 : Int32) (M : Im) (JM : Jm), Bd M → (v2.toInt = pcn v1 (v3.toInt - 1).toNat) → (MM M v2.toInt) → (0 ≤ v2.toInt ∧ v2.toInt ≤ 12 ∧ 1 ≤ v3.toInt ∧ v3.toInt ≤ 31) → 100000000 - v3.toInt < (n : Int) → P 4 112 [(0, .ref 97), (1, .int v1), (2, .int v2), (3, .int v3)] [] M JM R) ∧ (∀ (v2 : Int32) (v3 : Int32) (M : Im) (JM : Jm), Bd M → (MM M v2.toInt) → (0 ≤ v2.toInt ∧ v2.toInt ≤ 12 ∧ -1 ≤ v3.toInt ∧ v3.toInt ≤ 4095) → 100 * v3.toInt + 200 < (n : Int) → P 45 112 [(0, .ref 97), (2, .int v2), (3, .int v3)] [] M JM R) ∧ (∀ (v2 : Int32) (v3 : Int32) (v4 : Int64) (v6 : Int32) (M : Im) (JM : Jm), Bd M → (MM M v2.toInt) → (0 ≤ v2.toInt ∧ v2.toInt ≤ 12 ∧ 0 ≤ v3.toInt ∧ v3.toInt ≤ 4095 ∧ 0 ≤ v6.toInt ∧ v6.toInt ≤ v2.toInt) → 100 * v3.toInt + 199 - v6.toInt < (n : Int) → P 57 112 [(0, .ref 97), (2, .int v2), (3, .int v3), (4, .long v4), (6, .int v6)] [] M JM R) ∧ (∀ (v2 : Int32) (v3 : Int32) (v4 : Int64) (v6 : Int32) (M : Im) (JM : Jm), Bd M → (MM M v2.toInt) → (0 ≤ v2.toInt ∧ v2.toInt ≤ 12 ∧ 0 ≤ v3.toInt ∧ v3.toInt ≤ 4095 ∧ -1 ≤ v6.toInt ∧ v6.toInt < v2.toInt) → 100 * v3.toInt + 150 + v6.toInt < (n : Int) → P 109 112 [(0, .ref 97), (2, .int v2), (3, .int v3), (4, .long v4), (6, .int v6)] [] M JM R) := by
    intro n
    induction n with
    | zero =>
      exact ⟨fun v2 v3 M J _ _ _ hi hm => absurd hm (by omega), fun v2 v3 M J _ _ hi hm => absurd hm (by omega), fun v2 v3 v4 v6 M J _ _ hi hm => absurd hm (by omega), fun v2 v3 v4 v6 M J _ _ hi hm => absurd hm (by omega)⟩
    | succ n ih =>
      refine ⟨?_, ?_, ?_, ?_⟩
      · skip
        intro v2 v3 M JM hB hq_0 hq_1 hi hm
        have i_v1 := i32 v1
        have i_v2 := i32 v2
        have i_v3 := i32 v3
        refine sg_X12_plates_4 hc _ _ _ _ _ _ ?_
        refine ⟨fun c1 => ?_, fun c1 => ?_⟩
        · skip
          have d2 : ((30) : Int) < (v3.toInt) := ci_lt rfl rfl c1
          have hn12 : v2.toInt ≤ 12 := by have := pcn_le (s := v1) (a := (v3.toInt - 1).toNat) (b := 30) (by omega); omega
          have s3 := shl1 (show (v2 : Int32).toInt = v2.toInt from rfl) (by omega)
          have e4 : (((1 <<< (v2 &&& 31)) - 1) : Int32).toInt = (((1 <<< (v2 &&& 31)) : Int32).toInt) - (1) := ti_sub rfl rfl (by omega)
          have hv5 : MM M v2.toInt := hq_1
          exact ih.2.1 _ _ _ _ hB hv5 (by have q0 : (v2 : Int32).toInt = v2.toInt := rfl; have q1 : (((1 <<< (v2 &&& 31)) - 1) : Int32).toInt = (((1 <<< (v2 &&& 31)) : Int32).toInt - 1) := e4; omega) (by have q0 : (((1 <<< (v2 &&& 31)) - 1) : Int32).toInt = (((1 <<< (v2 &&& 31)) : Int32).toInt - 1) := e4; omega)
        · skip
          have d6 : ((v3.toInt) : Int) ≤ (30) := ci_nlt rfl rfl c1
          refine w_X12_isOf ?_
          refine ⟨fun c7 => ?_, fun c7 => ?_⟩
          · skip
            have d8 : ¬ (((((v1 >>> ((v3 - 1) &&& 31)) &&& 1) : Int32).toInt) : Int) = (1) := ci_ne rfl rfl c7
            refine ⟨Or.inl rfl, ?_⟩
            intro o9
            refine ⟨fun c10 => ?_, fun c10 => ?_⟩
            · exact absurd c10 (by decide)
            · skip
              have e11 : ((v3 + 1) : Int32).toInt = (v3.toInt) + (1) := ti_add rfl rfl (by omega)
              have hv12 : v2.toInt = pcn v1 ((v3 + 1).toInt - 1).toNat := (by have z1 : v2.toInt + 0 = pcn v1 (((v3 + 1)).toInt - 1).toNat := pcn_to hq_0 (by omega) (ti_add rfl rfl (by omega)) (pcb0 c7); rw [← z1]; omega)
              have hv13 : MM M v2.toInt := hq_1
              exact ih.1 _ _ _ _ hB hv12 hv13 (by have q0 : (v2 : Int32).toInt = v2.toInt := rfl; have q1 : ((v3 + 1) : Int32).toInt = (v3.toInt + 1) := e11; omega) (by have q0 : ((v3 + 1) : Int32).toInt = (v3.toInt + 1) := e11; omega)
          · skip
            have d14 : (((((v1 >>> ((v3 - 1) &&& 31)) &&& 1) : Int32).toInt) : Int) = (1) := ci_eq rfl rfl c7
            refine ⟨Or.inr rfl, ?_⟩
            intro o15
            refine ⟨fun c16 => ?_, fun c16 => ?_⟩
            · skip
              have hn11 := pcn_lt hq_0 (by omega) hp30 c7
              refine ⟨vp_of (a := v2.toInt) rfl (by omega) (by omega), ?_⟩
              have hB17 : Bd (uI M 109 (Int32.toNatClampNeg v2) v3) := Bd.a0 hB (show isA 112 109 0 = true from rfl) (show bna 109 = none from rfl)
              have e18 : ((v2 + 1) : Int32).toInt = (v2.toInt) + (1) := ti_add rfl rfl (by omega)
              have e19 : ((v3 + 1) : Int32).toInt = (v3.toInt) + (1) := ti_add rfl rfl (by omega)
              have hv20 : (v2 + 1).toInt = pcn v1 ((v3 + 1).toInt - 1).toNat := (by have z1 : ((v2 + 1) : Int32).toInt = v2.toInt + 1 := ti_add rfl rfl (by omega); rw [z1]; exact pcn_to hq_0 (by omega) (ti_add rfl rfl (by omega)) (pcb1 c7))
              have hv21 : MM (uI M 109 (Int32.toNatClampNeg v2) v3) (v2 + 1).toInt := (MM.add hq_1 (by omega) (ti_add rfl rfl (by omega)) (by omega))
              exact ih.1 _ _ _ _ hB17 hv20 hv21 (by have q0 : ((v2 + 1) : Int32).toInt = (v2.toInt + 1) := e18; have q1 : ((v3 + 1) : Int32).toInt = (v3.toInt + 1) := e19; omega) (by have q0 : ((v3 + 1) : Int32).toInt = (v3.toInt + 1) := e19; omega)
            · exact absurd c16 (by decide)
      · skip
        intro v2 v3 M JM hB hq_0 hi hm
        have i_v2 := i32 v2
        have i_v3 := i32 v3
        refine sg_X12_plates_45 hc _ _ _ _ _ ?_
        refine ⟨fun c22 => ?_, fun c22 => ?_⟩
        · skip
          have d23 : ((v3.toInt) : Int) < (0) := ci_lt rfl rfl c22
          refine ⟨vp_of (a := 0) rfl (by omega) (by omega), ?_⟩
          exact hQ _ _ _ _ hB trivial
        · skip
          have d24 : ((0) : Int) ≤ (v3.toInt) := ci_nlt rfl rfl c22
          have hv25 : MM M v2.toInt := hq_0
          exact ih.2.2.1 _ _ _ _ _ _ hB hv25 (by have q0 : (v2 : Int32).toInt = v2.toInt := rfl; have q1 : (v3 : Int32).toInt = v3.toInt := rfl; have q2 : (0 : Int32).toInt = 0 := rfl; omega) (by have q0 : (v3 : Int32).toInt = v3.toInt := rfl; have q1 : (0 : Int32).toInt = 0 := rfl; omega)
      · skip
        intro v2 v3 v4 v6 M JM hB hq_0 hi hm
        have i_v2 := i32 v2
        have i_v3 := i32 v3
        have i_v4 := i64 v4
        have i_v6 := i32 v6
        refine sg_X12_plates_57 hc _ _ _ _ _ _ _ ?_
        refine ⟨fun c26 => ?_, fun c26 => ?_⟩
        · skip
          have d27 : ((v2.toInt) : Int) ≤ (v6.toInt) := ci_le rfl rfl c26
          refine ⟨vp_of (a := v3.toInt) rfl (by omega) (by omega), ?_⟩
          have hB28 : Bd (uI M 110 (Int32.toNatClampNeg v3) (-1)) := Bd.a0 hB (show isA 112 110 0 = true from rfl) (show bna 110 = none from rfl)
          have e29 : ((v2 - 1) : Int32).toInt = (v2.toInt) - (1) := ti_sub rfl rfl (by omega)
          have hv30 : MM (uI M 110 (Int32.toNatClampNeg v3) (-1)) v2.toInt := (MM.o hq_0)
          exact ih.2.2.2 _ _ _ _ _ _ hB28 hv30 (by have q0 : (v2 : Int32).toInt = v2.toInt := rfl; have q1 : (v3 : Int32).toInt = v3.toInt := rfl; have q2 : ((v2 - 1) : Int32).toInt = (v2.toInt - 1) := e29; omega) (by have q0 : (v3 : Int32).toInt = v3.toInt := rfl; have q1 : ((v2 - 1) : Int32).toInt = (v2.toInt - 1) := e29; omega)
        · skip
          have d31 : ((v6.toInt) : Int) < (v2.toInt) := ci_nle rfl rfl c26
          refine w_X12_isOf ?_
          refine ⟨fun c32 => ?_, fun c32 => ?_⟩
          · skip
            have d33 : ¬ (((((v3 >>> (v6 &&& 31)) &&& 1) : Int32).toInt) : Int) = (1) := ci_ne rfl rfl c32
            refine ⟨Or.inl rfl, ?_⟩
            intro o34
            refine ⟨fun c35 => ?_, fun c35 => ?_⟩
            · skip
              have e36 : ((v6 + 1) : Int32).toInt = (v6.toInt) + (1) := ti_add rfl rfl (by omega)
              have hv37 : MM M v2.toInt := hq_0
              exact ih.2.2.1 _ _ _ _ _ _ hB hv37 (by have q0 : (v2 : Int32).toInt = v2.toInt := rfl; have q1 : (v3 : Int32).toInt = v3.toInt := rfl; have q2 : ((v6 + 1) : Int32).toInt = (v6.toInt + 1) := e36; omega) (by have q0 : (v3 : Int32).toInt = v3.toInt := rfl; have q1 : ((v6 + 1) : Int32).toInt = (v6.toInt + 1) := e36; omega)
            · exact absurd c35 (by decide)
          · skip
            have d38 : (((((v3 >>> (v6 &&& 31)) &&& 1) : Int32).toInt) : Int) = (1) := ci_eq rfl rfl c32
            refine ⟨Or.inr rfl, ?_⟩
            intro o39
            refine ⟨fun c40 => ?_, fun c40 => ?_⟩
            · exact absurd c40 (by decide)
            · skip
              refine ⟨vp_of (a := v6.toInt) rfl (by omega) (by omega), ?_⟩
              refine w_X12_partsOf ?_
              have hm41 := hq_0 v6 (by omega) (by omega)
              have i42 := i32 ((M 109 (Int32.toNatClampNeg v6)))
              refine ⟨(fun z => by have z2 : ((M 109 (Int32.toNatClampNeg v6)).toInt : Int) = 0 := cl_eq (tl_i2l rfl) rfl z; omega), ?_⟩
              have e43 : ((v6 + 1) : Int32).toInt = (v6.toInt) + (1) := ti_add rfl rfl (by omega)
              have hv44 : MM M v2.toInt := hq_0
              exact ih.2.2.1 _ _ _ _ _ _ hB hv44 (by have q0 : (v2 : Int32).toInt = v2.toInt := rfl; have q1 : (v3 : Int32).toInt = v3.toInt := rfl; have q2 : ((v6 + 1) : Int32).toInt = (v6.toInt + 1) := e43; omega) (by have q0 : (v3 : Int32).toInt = v3.toInt := rfl; have q1 : ((v6 + 1) : Int32).toInt = (v6.toInt + 1) := e43; omega)
      · skip
        intro v2 v3 v4 v6 M JM hB hq_0 hi hm
        have i_v2 := i32 v2
        have i_v3 := i32 v3
        have i_v4 := i64 v4
        have i_v6 := i32 v6
        refine sg_X12_plates_109 hc _ _ _ _ _ _ _ ?_
        refine ⟨fun c45 => ?_, fun c45 => ?_⟩
        · skip
          have d46 : ((v6.toInt) : Int) < (0) := ci_lt rfl rfl c45
          have e47 : ((v3 + (-1)) : Int32).toInt = (v3.toInt) + ((-1)) := ti_add rfl rfl (by omega)
          have hv48 : MM M v2.toInt := hq_0
          exact ih.2.1 _ _ _ _ hB hv48 (by have q0 : (v2 : Int32).toInt = v2.toInt := rfl; have q1 : ((v3 + (-1)) : Int32).toInt = (v3.toInt + (-1)) := e47; omega) (by have q0 : ((v3 + (-1)) : Int32).toInt = (v3.toInt + (-1)) := e47; omega)
        · skip
          have d49 : ((0) : Int) ≤ (v6.toInt) := ci_nlt rfl rfl c45
          refine w_X12_isOf ?_
          refine ⟨fun c50 => ?_, fun c50 => ?_⟩
          · skip
            have d51 : ¬ (((((v3 >>> (v6 &&& 31)) &&& 1) : Int32).toInt) : Int) = (1) := ci_ne rfl rfl c50
            refine ⟨Or.inl rfl, ?_⟩
            intro o52
            refine ⟨fun c53 => ?_, fun c53 => ?_⟩
            · exact absurd c53 (by decide)
            · skip
              refine ⟨vp_of (a := v6.toInt) rfl (by omega) (by omega), ?_⟩
              refine w_X12_partsOf ?_
              have hm54 := hq_0 v6 (by omega) (by omega)
              have i55 := i32 ((M 109 (Int32.toNatClampNeg v6)))
              refine ⟨(fun z => by have z2 : ((M 109 (Int32.toNatClampNeg v6)).toInt : Int) = 0 := cl_eq (tl_i2l rfl) rfl z; omega), ?_⟩
              refine ⟨fun c56 => ?_, fun c56 => ?_⟩
              · skip
                rw [lg_cmp_gt] at c56
                have d57 : (((v4 : Int64).toInt) : Int) < (((2329089562800 / (Int32.toInt64 (M 109 (Int32.toNatClampNeg v6)))) : Int64).toInt) := cl_lt rfl rfl c56
                have e58 : ((v6 + (-1)) : Int32).toInt = (v6.toInt) + ((-1)) := ti_add rfl rfl (by omega)
                have hv59 : MM M v2.toInt := hq_0
                exact ih.2.2.2 _ _ _ _ _ _ hB hv59 (by have q0 : (v2 : Int32).toInt = v2.toInt := rfl; have q1 : (v3 : Int32).toInt = v3.toInt := rfl; have q2 : ((v6 + (-1)) : Int32).toInt = (v6.toInt + (-1)) := e58; omega) (by have q0 : (v3 : Int32).toInt = v3.toInt := rfl; have q1 : ((v6 + (-1)) : Int32).toInt = (v6.toInt + (-1)) := e58; omega)
              · skip
                rw [lg_cmp_gt] at c56
                have d60 : ((((2329089562800 / (Int32.toInt64 (M 109 (Int32.toNatClampNeg v6)))) : Int64).toInt) : Int) ≤ ((v4 : Int64).toInt) := cl_nlt rfl rfl c56
                have s61 := shl1 (show (v6 : Int32).toInt = v6.toInt from rfl) (by omega)
                have s62 := or12 (show (v3 : Int32).toInt = v3.toInt from rfl) (show ((1 <<< (v6 &&& 31)) : Int32).toInt = ((1 <<< (v6 &&& 31)) : Int32).toInt from rfl) (by omega) (by omega)
                refine ⟨vp_of (a := ((v3 ||| (1 <<< (v6 &&& 31))) : Int32).toInt) rfl (by omega) (by omega), ?_⟩
                refine ⟨fun c63 => ?_, fun c63 => ?_⟩
                · skip
                  have d64 : ((0) : Int) ≤ ((M 110 (Int32.toNatClampNeg (v3 ||| (1 <<< (v6 &&& 31))))).toInt) := ci_le rfl rfl c63
                  have e65 : ((v6 + (-1)) : Int32).toInt = (v6.toInt) + ((-1)) := ti_add rfl rfl (by omega)
                  have hv66 : MM M v2.toInt := hq_0
                  exact ih.2.2.2 _ _ _ _ _ _ hB hv66 (by have q0 : (v2 : Int32).toInt = v2.toInt := rfl; have q1 : (v3 : Int32).toInt = v3.toInt := rfl; have q2 : ((v6 + (-1)) : Int32).toInt = (v6.toInt + (-1)) := e65; omega) (by have q0 : (v3 : Int32).toInt = v3.toInt := rfl; have q1 : ((v6 + (-1)) : Int32).toInt = (v6.toInt + (-1)) := e65; omega)
                · skip
                  have d67 : (((M 110 (Int32.toNatClampNeg (v3 ||| (1 <<< (v6 &&& 31))))).toInt) : Int) < (0) := ci_nle rfl rfl c63
                  refine ⟨vp_of (a := v6.toInt) rfl (by omega) (by omega), ?_⟩
                  refine ⟨vp_of (a := v3.toInt) rfl (by omega) (by omega), ?_⟩
                  have hB68 : Bd (uI M 110 (Int32.toNatClampNeg v3) (M 109 (Int32.toNatClampNeg v6))) := Bd.a0 hB (show isA 112 110 0 = true from rfl) (show bna 110 = none from rfl)
                  have e69 : ((v6 + (-1)) : Int32).toInt = (v6.toInt) + ((-1)) := ti_add rfl rfl (by omega)
                  have hv70 : MM (uI M 110 (Int32.toNatClampNeg v3) (M 109 (Int32.toNatClampNeg v6))) v2.toInt := (MM.o hq_0)
                  exact ih.2.2.2 _ _ _ _ _ _ hB68 hv70 (by have q0 : (v2 : Int32).toInt = v2.toInt := rfl; have q1 : (v3 : Int32).toInt = v3.toInt := rfl; have q2 : ((v6 + (-1)) : Int32).toInt = (v6.toInt + (-1)) := e69; omega) (by have q0 : (v3 : Int32).toInt = v3.toInt := rfl; have q1 : ((v6 + (-1)) : Int32).toInt = (v6.toInt + (-1)) := e69; omega)
          · skip
            have d71 : (((((v3 >>> (v6 &&& 31)) &&& 1) : Int32).toInt) : Int) = (1) := ci_eq rfl rfl c50
            refine ⟨Or.inr rfl, ?_⟩
            intro o72
            refine ⟨fun c73 => ?_, fun c73 => ?_⟩
            · skip
              have e74 : ((v6 + (-1)) : Int32).toInt = (v6.toInt) + ((-1)) := ti_add rfl rfl (by omega)
              have hv75 : MM M v2.toInt := hq_0
              exact ih.2.2.2 _ _ _ _ _ _ hB hv75 (by have q0 : (v2 : Int32).toInt = v2.toInt := rfl; have q1 : (v3 : Int32).toInt = v3.toInt := rfl; have q2 : ((v6 + (-1)) : Int32).toInt = (v6.toInt + (-1)) := e74; omega) (by have q0 : (v3 : Int32).toInt = v3.toInt := rfl; have q1 : ((v6 + (-1)) : Int32).toInt = (v6.toInt + (-1)) := e74; omega)
            · exact absurd c73 (by decide)
  refine sg_X12_plates_0 hc _ _ _ _ ?_
  have hv76 : (0 : Int32).toInt = pcn v1 ((1 : Int32).toInt - 1).toNat := rfl
  have hv77 : MM I (0 : Int32).toInt := (MM.zero (Int.le_refl 0))
  exact (L 200000000).1 _ _ _ _ hB0 hv76 hv77 (by have q0 : (0 : Int32).toInt = 0 := rfl; have q1 : (1 : Int32).toInt = 1 := rfl; omega) (by have q0 : (1 : Int32).toInt = 1 := rfl; omega)
set_option maxHeartbeats 2000000 in
theorem sp_X12_plate {d : Nat} {Q : Qt} {v1 : Int32} {I : Im} {J : Jm} {R : Rm} (hB0 : Bd I) (hR0 : RI R) (hQ : ∀ (x : Int32) (y : Int64) (I2 : Im) (J2 : Jm), Bd I2 → (True) → Q x y I2 J2 R) : AM (d + 4) 297 112 [.ref 97, .int v1] I J R Q := by
  have i_v1 := i32 v1
  refine w_X12_plate ?_
  have hB1 : Bd (uI I 97 1 0) := Bd.o0 hB0 io9_112_97_12 (by decide) bd9_12_1
  have hB2 : Bd (uI (uI I 97 1 0) 97 0 0) := Bd.o0 hB1 io9_112_97_12 (by decide) bd9_12_0
  refine w_X12_isSet ?_
  refine w_X12_isIn ?_
  refine ⟨fun c3 => ?_, fun c3 => ?_⟩
  · skip
    rw [lg_cmp_lt] at c3
    have d4 : ((v1.toInt) : Int) < (0) := cl_lt (tl_i2l rfl) rfl c3
    refine ⟨Or.inl rfl, ?_⟩
    intro o5
    refine ⟨fun c6 => ?_, fun c6 => ?_⟩
    · skip
      refine ⟨Or.inl rfl, ?_⟩
      intro o7
      refine ⟨fun c8 => ?_, fun c8 => ?_⟩
      · exact absurd c8 (by decide)
      · skip
        refine w_X12_refuse ?_
        have hB9 : Bd (uI (uI (uI I 97 1 0) 97 0 0) 97 0 5) := Bd.o0 hB2 io9_112_97_12 (by decide) bd9_12_0
        exact hQ _ _ _ _ hB9 trivial
    · exact absurd c6 (by decide)
  · skip
    rw [lg_cmp_lt] at c3
    have d10 : ((0) : Int) ≤ (v1.toInt) := cl_nlt (tl_i2l rfl) rfl c3
    refine ⟨fun c11 => ?_, fun c11 => ?_⟩
    · skip
      rw [lg_cmp_gt] at c11
      have d12 : ((1073741823) : Int) < (v1.toInt) := cl_lt rfl (tl_i2l rfl) c11
      refine ⟨Or.inl rfl, ?_⟩
      intro o13
      refine ⟨fun c14 => ?_, fun c14 => ?_⟩
      · skip
        refine ⟨Or.inl rfl, ?_⟩
        intro o15
        refine ⟨fun c16 => ?_, fun c16 => ?_⟩
        · exact absurd c16 (by decide)
        · skip
          refine w_X12_refuse ?_
          have hB17 : Bd (uI (uI (uI I 97 1 0) 97 0 0) 97 0 5) := Bd.o0 hB2 io9_112_97_12 (by decide) bd9_12_0
          exact hQ _ _ _ _ hB17 trivial
      · exact absurd c14 (by decide)
    · skip
      rw [lg_cmp_gt] at c11
      have d18 : ((v1.toInt) : Int) ≤ (1073741823) := cl_nlt rfl (tl_i2l rfl) c11
      refine ⟨Or.inr rfl, ?_⟩
      intro o19
      refine ⟨fun c20 => ?_, fun c20 => ?_⟩
      · exact absurd c20 (by decide)
      · skip
        refine sp_X12_sizeOf hB2 hR0 (fun x21 y26 I22 J23 hB24 p25 => ?_)
        obtain ⟨heI22, p25⟩ := p25
        subst heI22
        have i27 := i32 x21
        refine ⟨fun c28 => ?_, fun c28 => ?_⟩
        · skip
          have d29 : ((12) : Int) < (x21.toInt) := ci_lt rfl rfl c28
          refine ⟨Or.inl rfl, ?_⟩
          intro o30
          refine ⟨fun c31 => ?_, fun c31 => ?_⟩
          · exact absurd c31 (by decide)
          · skip
            refine w_X12_refuse ?_
            have hB32 : Bd (uI (uI (uI I 97 1 0) 97 0 0) 97 0 5) := Bd.o0 hB2 io9_112_97_12 (by decide) bd9_12_0
            exact hQ _ _ _ _ hB32 trivial
        · skip
          have d33 : ((x21.toInt) : Int) ≤ (12) := ci_nlt rfl rfl c28
          refine ⟨Or.inr rfl, ?_⟩
          intro o34
          refine ⟨fun c35 => ?_, fun c35 => ?_⟩
          · skip
            refine sp_X12_plates hB2 hR0 (by first | (clear d10 d18 p25 i27 d33; omega) | omega) (fun x36 y41 I37 J38 hB39 p40 => ?_)
            have i42 := i32 x36
            refine ⟨fun c43 => ?_, fun c43 => ?_⟩
            · skip
              have d44 : ((x36.toInt) : Int) ≤ (0) := ci_le rfl rfl c43
              exact hQ _ _ _ _ hB39 trivial
            · skip
              have d45 : ((0) : Int) < (x36.toInt) := ci_nle rfl rfl c43
              exact hQ _ _ _ _ hB39 trivial
          · exact absurd c35 (by decide)
set_option maxHeartbeats 2000000 in
theorem sp_X12_plateMove {d : Nat} {Q : Qt} {v1 : Int32} {I : Im} {J : Jm} {R : Rm} (hB0 : Bd I) (hR0 : RI R) (hQ : ∀ (x : Int32) (y : Int64) (I2 : Im) (J2 : Jm), Bd I2 → (True) → Q x y I2 J2 R) : AM (d + 4) 298 112 [.ref 97, .int v1] I J R Q := by
  have i_v1 := i32 v1
  refine w_X12_plateMove ?_
  have hB1 : Bd (uI I 97 1 0) := Bd.o0 hB0 io9_112_97_12 (by decide) bd9_12_1
  have hB2 : Bd (uI (uI I 97 1 0) 97 0 0) := Bd.o0 hB1 io9_112_97_12 (by decide) bd9_12_0
  refine w_X12_isSet ?_
  refine w_X12_isIn ?_
  refine ⟨fun c3 => ?_, fun c3 => ?_⟩
  · skip
    rw [lg_cmp_lt] at c3
    have d4 : ((v1.toInt) : Int) < (0) := cl_lt (tl_i2l rfl) rfl c3
    refine ⟨Or.inl rfl, ?_⟩
    intro o5
    refine ⟨fun c6 => ?_, fun c6 => ?_⟩
    · skip
      refine ⟨Or.inl rfl, ?_⟩
      intro o7
      refine ⟨fun c8 => ?_, fun c8 => ?_⟩
      · skip
        refine w_X12_refuse ?_
        have hB9 : Bd (uI (uI (uI I 97 1 0) 97 0 0) 97 0 5) := Bd.o0 hB2 io9_112_97_12 (by decide) bd9_12_0
        exact hQ _ _ _ _ hB9 trivial
      · exact absurd c8 (by decide)
    · exact absurd c6 (by decide)
  · skip
    rw [lg_cmp_lt] at c3
    have d10 : ((0) : Int) ≤ (v1.toInt) := cl_nlt (tl_i2l rfl) rfl c3
    refine ⟨fun c11 => ?_, fun c11 => ?_⟩
    · skip
      rw [lg_cmp_gt] at c11
      have d12 : ((1073741823) : Int) < (v1.toInt) := cl_lt rfl (tl_i2l rfl) c11
      refine ⟨Or.inl rfl, ?_⟩
      intro o13
      refine ⟨fun c14 => ?_, fun c14 => ?_⟩
      · skip
        refine ⟨Or.inl rfl, ?_⟩
        intro o15
        refine ⟨fun c16 => ?_, fun c16 => ?_⟩
        · skip
          refine w_X12_refuse ?_
          have hB17 : Bd (uI (uI (uI I 97 1 0) 97 0 0) 97 0 5) := Bd.o0 hB2 io9_112_97_12 (by decide) bd9_12_0
          exact hQ _ _ _ _ hB17 trivial
        · exact absurd c16 (by decide)
      · exact absurd c14 (by decide)
    · skip
      rw [lg_cmp_gt] at c11
      have d18 : ((v1.toInt) : Int) ≤ (1073741823) := cl_nlt rfl (tl_i2l rfl) c11
      refine ⟨Or.inr rfl, ?_⟩
      intro o19
      refine ⟨fun c20 => ?_, fun c20 => ?_⟩
      · exact absurd c20 (by decide)
      · skip
        refine sp_X12_sizeOf hB2 hR0 (fun x21 y26 I22 J23 hB24 p25 => ?_)
        obtain ⟨heI22, p25⟩ := p25
        subst heI22
        have i27 := i32 x21
        refine ⟨fun c28 => ?_, fun c28 => ?_⟩
        · skip
          have d29 : ((12) : Int) < (x21.toInt) := ci_lt rfl rfl c28
          refine ⟨Or.inl rfl, ?_⟩
          intro o30
          refine ⟨fun c31 => ?_, fun c31 => ?_⟩
          · skip
            refine w_X12_refuse ?_
            have hB32 : Bd (uI (uI (uI I 97 1 0) 97 0 0) 97 0 5) := Bd.o0 hB2 io9_112_97_12 (by decide) bd9_12_0
            exact hQ _ _ _ _ hB32 trivial
          · exact absurd c31 (by decide)
        · skip
          have d33 : ((x21.toInt) : Int) ≤ (12) := ci_nlt rfl rfl c28
          refine ⟨Or.inr rfl, ?_⟩
          intro o34
          refine ⟨fun c35 => ?_, fun c35 => ?_⟩
          · exact absurd c35 (by decide)
          · skip
            refine sp_X12_plates hB2 hR0 (by first | (clear d10 d18 p25 i27 d33; omega) | omega) (fun x36 y41 I37 J38 hB39 p40 => ?_)
            have i42 := i32 x36
            refine w_X12_answer ?_
            refine ⟨fun c43 => ?_, fun c43 => ?_⟩
            · skip
              have d44 : ((0) : Int) ≤ (x36.toInt) := ci_le rfl rfl c43
              exact hQ _ _ _ _ hB39 trivial
            · skip
              have d45 : ((x36.toInt) : Int) < (0) := ci_nle rfl rfl c43
              refine w_X12_refuse ?_
              have hB46 : Bd (uI I37 97 0 8) := Bd.o0 hB39 io9_112_97_12 (by decide) bd9_12_0
              exact hQ _ _ _ _ hB46 trivial
end PT11x1
