set_option maxHeartbeats 2000000 in
theorem sp_X12_lucks_r (m : Nat) : ∀ {d : Nat} {Q : Qt} {v1 : Int32} {v2 : Int32} {v3 : Int32} {v4 : Int64} {I : Im} {J : Jm} {R : Rm} (hB0 : Bd I) (hR0 : RI R) (hv1 : 0 ≤ v1.toInt ∧ v1.toInt ≤ 12) (hv2 : 1 ≤ v2.toInt ∧ v2.toInt ≤ 31) (hm0 : 1 + v1.toInt ≤ (m : Int)) (hQ : ∀ (x : Int32) (y : Int64) (I2 : Im) (J2 : Jm), Bd I2 → (I = I2) → Q x y I2 J2 R), AM (d + m + 3) 300 112 [.ref 97, .int v1, .int v2, .int v3, .long v4] I J R Q := by
  induction m with
  | zero => intro d Q v1 v2 v3 v4 I J R hB0 hR0 hv1 hv2 hm0 hQ; exact absurd hm0 (by omega)
  | succ m ihm =>
  intro d Q v1 v2 v3 v4 I J R hB0 hR0 hv1 hv2 hm0 hQ
  have i_v1 := i32 v1
  have i_v2 := i32 v2
  have i_v3 := i32 v3
  have i_v4 := i64 v4
  refine am_X12_lucks (fun P hc => ?_)
  have L : ∀ n : Nat, (∀ (v6 : Int64) (v8 : Int32) (M : Im) (JM : Jm), Bd M → I = M → (0 ≤ v1.toInt ∧ v1.toInt ≤ 12 ∧ ¬ v1.toInt = 0 ∧ 1 ≤ v8.toInt ∧ v8.toInt ≤ 31) → 50 - v8.toInt < (n : Int) → P 23 112 [(0, .ref 97), (1, .int v1), (3, .int v3), (4, .long v4), (6, .long v6), (8, .int v8)] [] M JM R) := by
    intro n
    induction n with
    | zero =>
      exact fun v6 v8 M J _ _ hi hm => absurd hm (by omega)
    | succ n ih =>
      intro v6 v8 M JM hB hM hi hm
      have i_v1 := i32 v1
      have i_v3 := i32 v3
      have i_v4 := i64 v4
      have i_v6 := i64 v6
      have i_v8 := i32 v8
      refine sg_X12_lucks_23 hc _ _ _ _ _ _ _ _ ?_
      subst hM
      refine ⟨fun c1 => ?_, fun c1 => ?_⟩
      · skip
        have d2 : ((30) : Int) < (v8.toInt) := ci_lt rfl rfl c1
        exact hQ _ _ _ _ hB0 rfl
      · skip
        have d3 : ((v8.toInt) : Int) ≤ (30) := ci_nlt rfl rfl c1
        refine w_X12_isOf ?_
        refine ⟨fun c4 => ?_, fun c4 => ?_⟩
        · skip
          have d5 : ¬ (((((v3 >>> ((v8 - 1) &&& 31)) &&& 1) : Int32).toInt) : Int) = (1) := ci_ne rfl rfl c4
          refine ⟨Or.inl rfl, ?_⟩
          intro o6
          refine ⟨fun c7 => ?_, fun c7 => ?_⟩
          · skip
            have e8 : ((v8 + 1) : Int32).toInt = (v8.toInt) + (1) := ti_add rfl rfl (by omega)
            exact ih _ _ _ _ hB0 rfl (by have q0 : ((v8 + 1) : Int32).toInt = (v8.toInt + 1) := e8; omega) (by have q0 : ((v8 + 1) : Int32).toInt = (v8.toInt + 1) := e8; omega)
          · exact absurd c7 (by decide)
        · skip
          have d9 : (((((v3 >>> ((v8 - 1) &&& 31)) &&& 1) : Int32).toInt) : Int) = (1) := ci_eq rfl rfl c4
          refine ⟨Or.inr rfl, ?_⟩
          intro o10
          refine ⟨fun c11 => ?_, fun c11 => ?_⟩
          · exact absurd c11 (by decide)
          · skip
            refine w_X12_partsOf ?_
            refine ⟨(fun z => by have z2 : (v8.toInt : Int) = 0 := cl_eq (tl_i2l rfl) rfl z; omega), ?_⟩
            have e12 : ((v1 - 1) : Int32).toInt = (v1.toInt) - (1) := ti_sub rfl rfl (by omega)
            have e13 : ((v8 + 1) : Int32).toInt = (v8.toInt) + (1) := ti_add rfl rfl (by omega)
            refine ihm (d := d) hB0 hR0 (by have z1 : ((v1 - 1) : Int32).toInt = (v1.toInt - 1) := e12; omega) (by have z2 : ((v8 + 1) : Int32).toInt = (v8.toInt + 1) := e13; omega) (by have z : ((v1 - 1) : Int32).toInt = (v1.toInt - 1) := e12; omega) (fun x14 y19 I15 J16 hB17 p18 => ?_)
            subst p18
            exact ih _ _ _ _ hB0 rfl (by have q0 : ((v8 + 1) : Int32).toInt = (v8.toInt + 1) := e13; omega) (by have q0 : ((v8 + 1) : Int32).toInt = (v8.toInt + 1) := e13; omega)
  refine sg_X12_lucks_0 hc _ _ _ _ _ _ _ ?_
  refine ⟨fun c20 => ?_, fun c20 => ?_⟩
  · skip
    have d21 : ¬ ((v1.toInt) : Int) = (0) := ci_ne rfl rfl c20
    exact (L 1000000) _ _ _ _ hB0 rfl (by have q0 : (v2 : Int32).toInt = v2.toInt := rfl; omega) (by have q0 : (v2 : Int32).toInt = v2.toInt := rfl; omega)
  · skip
    have d22 : ((v1.toInt) : Int) = (0) := ci_eq rfl rfl c20
    refine ⟨fun c23 => ?_, fun c23 => ?_⟩
    · skip
      rw [lg_cmp_lt] at c23
      have d24 : (((v4 : Int64).toInt) : Int) < (0) := cl_lt rfl rfl c23
      exact hQ _ _ _ _ hB0 rfl
    · skip
      rw [lg_cmp_lt] at c23
      have d25 : ((0) : Int) ≤ ((v4 : Int64).toInt) := cl_nlt rfl rfl c23
      exact hQ _ _ _ _ hB0 rfl
theorem sp_X12_lucks {d : Nat} {Q : Qt} {v1 : Int32} {v2 : Int32} {v3 : Int32} {v4 : Int64} {I : Im} {J : Jm} {R : Rm} (hB0 : Bd I) (hR0 : RI R) (hv1 : 0 ≤ v1.toInt ∧ v1.toInt ≤ 12) (hv2 : 1 ≤ v2.toInt ∧ v2.toInt ≤ 31) (hQ : ∀ (x : Int32) (y : Int64) (I2 : Im) (J2 : Jm), Bd I2 → (I = I2) → Q x y I2 J2 R) : AM (d + 16) 300 112 [.ref 97, .int v1, .int v2, .int v3, .long v4] I J R Q := sp_X12_lucks_r 13 (d := d) hB0 hR0 hv1 hv2 (by omega) hQ
set_option maxHeartbeats 2000000 in
theorem sp_X12_choices {d : Nat} {Q : Qt} {v0 : Int32} {v1 : Int32} {I : Im} {J : Jm} {R : Rm} (hB0 : Bd I) (hR0 : RI R) (hv0 : 0 ≤ v1.toInt ∧ v1.toInt ≤ v0.toInt ∧ v0.toInt ≤ 12) (hQ : ∀ (x : Int32) (y : Int64) (I2 : Im) (J2 : Jm), Bd I2 → (I = I2 ∧ (0 < y.toInt)) → Q x y I2 J2 R) : AM (d + 1) 301 112 [.int v0, .int v1] I J R Q := by
  have i_v0 := i32 v0
  have i_v1 := i32 v1
  refine am_X12_choices (fun P hc => ?_)
  have L : ∀ n : Nat, (∀ (v2 : Int64) (v4 : Int32) (M : Im) (JM : Jm), Bd M → I = M → (v2 = chz (v0 - v1) (v4.toInt - 1).toNat) → (0 ≤ v1.toInt ∧ v1.toInt ≤ v0.toInt ∧ v0.toInt ≤ 12 ∧ 1 ≤ v4.toInt ∧ v4.toInt ≤ v1.toInt + 1) → 20 - v4.toInt < (n : Int) → P 5 112 [(0, .int v0), (1, .int v1), (2, .long v2), (4, .int v4)] [] M JM R) := by
    intro n
    induction n with
    | zero =>
      exact fun v2 v4 M J _ _ _ hi hm => absurd hm (by omega)
    | succ n ih =>
      intro v2 v4 M JM hB hM hq_0 hi hm
      have i_v0 := i32 v0
      have i_v1 := i32 v1
      have i_v2 := i64 v2
      have i_v4 := i32 v4
      refine sg_X12_choices_5 hc _ _ _ _ _ _ _ ?_
      subst hM
      refine ⟨fun c1 => ?_, fun c1 => ?_⟩
      · skip
        have d2 : ((v1.toInt) : Int) < (v4.toInt) := ci_lt rfl rfl c1
        exact hQ _ _ _ _ hB0 ⟨rfl, (by rw [hq_0]; have z1 : (v0 - v1 : Int32).toInt = v0.toInt - v1.toInt := ti_sub rfl rfl (by omega); exact chz_pos (by omega) (by omega))⟩
      · skip
        have d3 : ((v4.toInt) : Int) ≤ (v1.toInt) := ci_nlt rfl rfl c1
        refine ⟨(fun z => by have z2 : (v4.toInt : Int) = 0 := cl_eq (tl_i2l rfl) rfl z; omega), ?_⟩
        have e4 : ((v4 + 1) : Int32).toInt = (v4.toInt) + (1) := ti_add rfl rfl (by omega)
        have hv5 : ((v2 * (Int32.toInt64 ((v0 - v1) + v4))) / (Int32.toInt64 v4)) = chz (v0 - v1) ((v4 + 1).toInt - 1).toNat := (chz_step hq_0 (by omega) (ti_add rfl rfl (by omega)))
        exact ih _ _ _ _ hB0 rfl hv5 (by have q0 : ((v4 + 1) : Int32).toInt = (v4.toInt + 1) := e4; omega) (by have q0 : ((v4 + 1) : Int32).toInt = (v4.toInt + 1) := e4; omega)
  refine sg_X12_choices_0 hc _ _ _ _ _ ?_
  have hv6 : (1 : Int64) = chz (v0 - v1) ((1 : Int32).toInt - 1).toNat := rfl
  exact (L 1000000) _ _ _ _ hB0 rfl hv6 (by have q0 : (1 : Int32).toInt = 1 := rfl; omega) (by have q0 : (1 : Int32).toInt = 1 := rfl; omega)
set_option maxHeartbeats 2000000 in
theorem sp_X12_luck {d : Nat} {Q : Qt} {v1 : Int32} {v2 : Int32} {v3 : Int32} {v4 : Int32} {I : Im} {J : Jm} {R : Rm} (hB0 : Bd I) (hR0 : RI R) (hQ : ∀ (x : Int32) (y : Int64) (I2 : Im) (J2 : Jm), Bd I2 → ((0 ≤ x.toInt ∧ x.toInt ≤ 1 ∧ (x.toInt = 1 → 0 ≤ v1.toInt ∧ v1.toInt ≤ 1073741823 ∧ pcn v1 30 ≤ 12 ∧ 0 ≤ v2.toInt ∧ v2.toInt ≤ 12 ∧ 1 ≤ v3.toInt ∧ v3.toInt ≤ 99 ∧ 1 ≤ v4.toInt ∧ v4.toInt ≤ 30 ∧ v2.toInt ≤ pcn v1 30) ∧ (0 ≤ v1.toInt ∧ v1.toInt ≤ 1073741823 ∧ pcn v1 30 ≤ 12 ∧ 0 ≤ v2.toInt ∧ v2.toInt ≤ 12 ∧ 1 ≤ v3.toInt ∧ v3.toInt ≤ 99 ∧ 1 ≤ v4.toInt ∧ v4.toInt ≤ 30 ∧ v2.toInt ≤ pcn v1 30 → x.toInt = 1))) → Q x y I2 J2 R) : AM (d + 17) 302 112 [.ref 97, .int v1, .int v2, .int v3, .int v4] I J R Q := by
  have i_v1 := i32 v1
  have i_v2 := i32 v2
  have i_v3 := i32 v3
  have i_v4 := i32 v4
  refine w_X12_luck ?_
  have hB1 : Bd (uI I 97 1 0) := Bd.o0 hB0 io9_112_97_12 (by decide) bd9_12_1
  have hB2 : Bd (uI (uI I 97 1 0) 97 0 0) := Bd.o0 hB1 io9_112_97_12 (by decide) bd9_12_0
  refine w_X12_isSet ?_
  refine w_X12_isIn ?_
  refine ⟨fun c3 => ?_, fun c3 => ?_⟩
  · skip
    rw [lg_cmp_lt] at c3
    have d4 : ((v1.toInt) : Int) < (0) := cl_lt (tl_i2l rfl) rfl c3
    refine ⟨Or.inl rfl, ?_⟩
    intro o5
    refine ⟨fun c6 => ?_, fun c6 => ?_⟩
    · skip
      refine ⟨Or.inl rfl, ?_⟩
      intro o7
      refine ⟨fun c8 => ?_, fun c8 => ?_⟩
      · skip
        refine w_X12_no ?_
        have hB9 : Bd (uI (uI (uI I 97 1 0) 97 0 0) 97 0 5) := Bd.o0 hB2 io9_112_97_12 (by decide) bd9_12_0
        refine ⟨Or.inl rfl, ?_⟩
        intro o10
        refine ⟨Or.inl rfl, ?_⟩
        exact hQ _ _ _ _ hB9 (by have q0 : (0 : Int32).toInt = 0 := rfl; omega)
      · exact absurd c8 (by decide)
    · exact absurd c6 (by decide)
  · skip
    rw [lg_cmp_lt] at c3
    have d11 : ((0) : Int) ≤ (v1.toInt) := cl_nlt (tl_i2l rfl) rfl c3
    refine ⟨fun c12 => ?_, fun c12 => ?_⟩
    · skip
      rw [lg_cmp_gt] at c12
      have d13 : ((1073741823) : Int) < (v1.toInt) := cl_lt rfl (tl_i2l rfl) c12
      refine ⟨Or.inl rfl, ?_⟩
      intro o14
      refine ⟨fun c15 => ?_, fun c15 => ?_⟩
      · skip
        refine ⟨Or.inl rfl, ?_⟩
        intro o16
        refine ⟨fun c17 => ?_, fun c17 => ?_⟩
        · skip
          refine w_X12_no ?_
          have hB18 : Bd (uI (uI (uI I 97 1 0) 97 0 0) 97 0 5) := Bd.o0 hB2 io9_112_97_12 (by decide) bd9_12_0
          refine ⟨Or.inl rfl, ?_⟩
          intro o19
          refine ⟨Or.inl rfl, ?_⟩
          exact hQ _ _ _ _ hB18 (by have q0 : (0 : Int32).toInt = 0 := rfl; omega)
        · exact absurd c17 (by decide)
      · exact absurd c15 (by decide)
    · skip
      rw [lg_cmp_gt] at c12
      have d20 : ((v1.toInt) : Int) ≤ (1073741823) := cl_nlt rfl (tl_i2l rfl) c12
      refine ⟨Or.inr rfl, ?_⟩
      intro o21
      refine ⟨fun c22 => ?_, fun c22 => ?_⟩
      · exact absurd c22 (by decide)
      · skip
        refine sp_X12_sizeOf hB2 hR0 (fun x23 y28 I24 J25 hB26 p27 => ?_)
        obtain ⟨heI24, p27⟩ := p27
        subst heI24
        have i29 := i32 x23
        refine ⟨fun c30 => ?_, fun c30 => ?_⟩
        · skip
          have d31 : ((12) : Int) < (x23.toInt) := ci_lt rfl rfl c30
          refine ⟨Or.inl rfl, ?_⟩
          intro o32
          refine ⟨fun c33 => ?_, fun c33 => ?_⟩
          · skip
            refine w_X12_no ?_
            have hB34 : Bd (uI (uI (uI I 97 1 0) 97 0 0) 97 0 5) := Bd.o0 hB2 io9_112_97_12 (by decide) bd9_12_0
            refine ⟨Or.inl rfl, ?_⟩
            intro o35
            refine ⟨Or.inl rfl, ?_⟩
            exact hQ _ _ _ _ hB34 (by have q0 : (0 : Int32).toInt = 0 := rfl; omega)
          · exact absurd c33 (by decide)
        · skip
          have d36 : ((x23.toInt) : Int) ≤ (12) := ci_nlt rfl rfl c30
          refine ⟨Or.inr rfl, ?_⟩
          intro o37
          refine ⟨fun c38 => ?_, fun c38 => ?_⟩
          · exact absurd c38 (by decide)
          · skip
            refine w_X12_isIn ?_
            refine ⟨fun c39 => ?_, fun c39 => ?_⟩
            · skip
              rw [lg_cmp_lt] at c39
              have d40 : ((v2.toInt) : Int) < (0) := cl_lt (tl_i2l rfl) rfl c39
              refine ⟨Or.inl rfl, ?_⟩
              intro o41
              refine ⟨fun c42 => ?_, fun c42 => ?_⟩
              · skip
                refine w_X12_no ?_
                have hB43 : Bd (uI (uI (uI I 97 1 0) 97 0 0) 97 0 5) := Bd.o0 hB2 io9_112_97_12 (by decide) bd9_12_0
                refine ⟨Or.inl rfl, ?_⟩
                intro o44
                refine ⟨Or.inl rfl, ?_⟩
                exact hQ _ _ _ _ hB43 (by have q0 : (0 : Int32).toInt = 0 := rfl; omega)
              · exact absurd c42 (by decide)
            · skip
              rw [lg_cmp_lt] at c39
              have d45 : ((0) : Int) ≤ (v2.toInt) := cl_nlt (tl_i2l rfl) rfl c39
              refine ⟨fun c46 => ?_, fun c46 => ?_⟩
              · skip
                rw [lg_cmp_gt] at c46
                have d47 : ((12) : Int) < (v2.toInt) := cl_lt rfl (tl_i2l rfl) c46
                refine ⟨Or.inl rfl, ?_⟩
                intro o48
                refine ⟨fun c49 => ?_, fun c49 => ?_⟩
                · skip
                  refine w_X12_no ?_
                  have hB50 : Bd (uI (uI (uI I 97 1 0) 97 0 0) 97 0 5) := Bd.o0 hB2 io9_112_97_12 (by decide) bd9_12_0
                  refine ⟨Or.inl rfl, ?_⟩
                  intro o51
                  refine ⟨Or.inl rfl, ?_⟩
                  exact hQ _ _ _ _ hB50 (by have q0 : (0 : Int32).toInt = 0 := rfl; omega)
                · exact absurd c49 (by decide)
              · skip
                rw [lg_cmp_gt] at c46
                have d52 : ((v2.toInt) : Int) ≤ (12) := cl_nlt rfl (tl_i2l rfl) c46
                refine ⟨Or.inr rfl, ?_⟩
                intro o53
                refine ⟨fun c54 => ?_, fun c54 => ?_⟩
                · exact absurd c54 (by decide)
                · skip
                  refine w_X12_isShare ?_
                  refine w_X12_isIn ?_
                  refine ⟨fun c55 => ?_, fun c55 => ?_⟩
                  · skip
                    rw [lg_cmp_lt] at c55
                    have d56 : ((v3.toInt) : Int) < (1) := cl_lt (tl_i2l rfl) rfl c55
                    refine ⟨Or.inl rfl, ?_⟩
                    intro o57
                    refine ⟨fun c58 => ?_, fun c58 => ?_⟩
                    · skip
                      refine ⟨Or.inl rfl, ?_⟩
                      intro o59
                      refine ⟨fun c60 => ?_, fun c60 => ?_⟩
                      · exact absurd c60 (by decide)
                      · skip
                        refine w_X12_no ?_
                        have hB61 : Bd (uI (uI (uI I 97 1 0) 97 0 0) 97 0 5) := Bd.o0 hB2 io9_112_97_12 (by decide) bd9_12_0
                        refine ⟨Or.inl rfl, ?_⟩
                        intro o62
                        refine ⟨Or.inl rfl, ?_⟩
                        exact hQ _ _ _ _ hB61 (by have q0 : (0 : Int32).toInt = 0 := rfl; omega)
                    · exact absurd c58 (by decide)
                  · skip
                    rw [lg_cmp_lt] at c55
                    have d63 : ((1) : Int) ≤ (v3.toInt) := cl_nlt (tl_i2l rfl) rfl c55
                    refine ⟨fun c64 => ?_, fun c64 => ?_⟩
                    · skip
                      rw [lg_cmp_gt] at c64
                      have d65 : ((99) : Int) < (v3.toInt) := cl_lt rfl (tl_i2l rfl) c64
                      refine ⟨Or.inl rfl, ?_⟩
                      intro o66
                      refine ⟨fun c67 => ?_, fun c67 => ?_⟩
                      · skip
                        refine ⟨Or.inl rfl, ?_⟩
                        intro o68
                        refine ⟨fun c69 => ?_, fun c69 => ?_⟩
                        · exact absurd c69 (by decide)
                        · skip
                          refine w_X12_no ?_
                          have hB70 : Bd (uI (uI (uI I 97 1 0) 97 0 0) 97 0 5) := Bd.o0 hB2 io9_112_97_12 (by decide) bd9_12_0
                          refine ⟨Or.inl rfl, ?_⟩
                          intro o71
                          refine ⟨Or.inl rfl, ?_⟩
                          exact hQ _ _ _ _ hB70 (by have q0 : (0 : Int32).toInt = 0 := rfl; omega)
                      · exact absurd c67 (by decide)
                    · skip
                      rw [lg_cmp_gt] at c64
                      have d72 : ((v3.toInt) : Int) ≤ (99) := cl_nlt rfl (tl_i2l rfl) c64
                      refine ⟨Or.inr rfl, ?_⟩
                      intro o73
                      refine ⟨fun c74 => ?_, fun c74 => ?_⟩
                      · exact absurd c74 (by decide)
                      · skip
                        refine w_X12_isIn ?_
                        refine ⟨fun c75 => ?_, fun c75 => ?_⟩
                        · skip
                          rw [lg_cmp_lt] at c75
                          have d76 : ((v4.toInt) : Int) < (1) := cl_lt (tl_i2l rfl) rfl c75
                          refine ⟨Or.inl rfl, ?_⟩
                          intro o77
                          refine ⟨fun c78 => ?_, fun c78 => ?_⟩
                          · skip
                            refine ⟨Or.inl rfl, ?_⟩
                            intro o79
                            refine ⟨fun c80 => ?_, fun c80 => ?_⟩
                            · exact absurd c80 (by decide)
                            · skip
                              refine w_X12_no ?_
                              have hB81 : Bd (uI (uI (uI I 97 1 0) 97 0 0) 97 0 5) := Bd.o0 hB2 io9_112_97_12 (by decide) bd9_12_0
                              refine ⟨Or.inl rfl, ?_⟩
                              intro o82
                              refine ⟨Or.inl rfl, ?_⟩
                              exact hQ _ _ _ _ hB81 (by have q0 : (0 : Int32).toInt = 0 := rfl; omega)
                          · exact absurd c78 (by decide)
                        · skip
                          rw [lg_cmp_lt] at c75
                          have d83 : ((1) : Int) ≤ (v4.toInt) := cl_nlt (tl_i2l rfl) rfl c75
                          refine ⟨fun c84 => ?_, fun c84 => ?_⟩
                          · skip
                            rw [lg_cmp_gt] at c84
                            have d85 : ((30) : Int) < (v4.toInt) := cl_lt rfl (tl_i2l rfl) c84
                            refine ⟨Or.inl rfl, ?_⟩
                            intro o86
                            refine ⟨fun c87 => ?_, fun c87 => ?_⟩
                            · skip
                              refine ⟨Or.inl rfl, ?_⟩
                              intro o88
                              refine ⟨fun c89 => ?_, fun c89 => ?_⟩
                              · exact absurd c89 (by decide)
                              · skip
                                refine w_X12_no ?_
                                have hB90 : Bd (uI (uI (uI I 97 1 0) 97 0 0) 97 0 5) := Bd.o0 hB2 io9_112_97_12 (by decide) bd9_12_0
                                refine ⟨Or.inl rfl, ?_⟩
                                intro o91
                                refine ⟨Or.inl rfl, ?_⟩
                                exact hQ _ _ _ _ hB90 (by have q0 : (0 : Int32).toInt = 0 := rfl; omega)
                            · exact absurd c87 (by decide)
                          · skip
                            rw [lg_cmp_gt] at c84
                            have d92 : ((v4.toInt) : Int) ≤ (30) := cl_nlt rfl (tl_i2l rfl) c84
                            refine ⟨Or.inr rfl, ?_⟩
                            intro o93
                            refine ⟨fun c94 => ?_, fun c94 => ?_⟩
                            · exact absurd c94 (by decide)
                            · skip
                              refine ⟨Or.inr rfl, ?_⟩
                              intro o95
                              refine ⟨fun c96 => ?_, fun c96 => ?_⟩
                              · skip
                                refine sp_X12_sizeOf hB2 hR0 (fun x97 y102 I98 J99 hB100 p101 => ?_)
                                obtain ⟨heI98, p101⟩ := p101
                                subst heI98
                                have i103 := i32 x97
                                refine ⟨fun c104 => ?_, fun c104 => ?_⟩
                                · skip
                                  have d105 : ((v2.toInt) : Int) ≤ (x97.toInt) := ci_le rfl rfl c104
                                  refine w_X12_shareOf ?_
                                  refine ⟨(fun z => by have z2 : (v4.toInt : Int) = 0 := cl_eq (tl_i2l rfl) rfl z; omega), ?_⟩
                                  refine sp_X12_lucks hB2 hR0 (by have z1 : (v2 : Int32).toInt = v2.toInt := rfl; omega) (by have z2 : (1 : Int32).toInt = 1 := rfl; omega) (fun x106 y111 I107 J108 hB109 p110 => ?_)
                                  subst p110
                                  refine sp_X12_sizeOf hB2 hR0 (fun x112 y117 I113 J114 hB115 p116 => ?_)
                                  obtain ⟨heI113, p116⟩ := p116
                                  subst heI113
                                  have i118 := i32 x112
                                  refine sp_X12_choices hB2 hR0 (by have z0 : (x112 : Int32).toInt = x112.toInt := rfl; have z1 : (v2 : Int32).toInt = v2.toInt := rfl; omega) (fun x119 y124 I120 J121 hB122 p123 => ?_)
                                  obtain ⟨heI120, p123⟩ := p123
                                  subst heI120
                                  refine sp_X12_fraction hB2 hR0 (fun z => by have z1 := p123; rw [z] at z1; exact absurd z1 (by decide)) (fun x125 y130 I126 J127 hB128 p129 => ?_)
                                  intro o131
                                  have i132 := i32 x125
                                  refine ⟨o131, ?_⟩
                                  exact hQ _ _ _ _ hB128 (by have q0 : (x125 : Int32).toInt = x125.toInt := rfl; omega)
                                · skip
                                  have d133 : ((x97.toInt) : Int) < (v2.toInt) := ci_nle rfl rfl c104
                                  refine w_X12_no ?_
                                  have hB134 : Bd (uI (uI (uI I 97 1 0) 97 0 0) 97 0 8) := Bd.o0 hB2 io9_112_97_12 (by decide) bd9_12_0
                                  refine ⟨Or.inl rfl, ?_⟩
                                  intro o135
                                  refine ⟨Or.inl rfl, ?_⟩
                                  exact hQ _ _ _ _ hB134 (by have q0 : (0 : Int32).toInt = 0 := rfl; omega)
                              · exact absurd c96 (by decide)
set_option maxHeartbeats 2000000 in
theorem sp_X12_burnt {d : Nat} {Q : Qt} {v1 : Int32} {v2 : Int32} {I : Im} {J : Jm} {R : Rm} (hB0 : Bd I) (hR0 : RI R) (hQ : ∀ (x : Int32) (y : Int64) (I2 : Im) (J2 : Jm), Bd I2 → ((0 ≤ x.toInt ∧ x.toInt ≤ 1 ∧ (x.toInt = 1 → 0 ≤ v1.toInt ∧ v1.toInt ≤ 12 ∧ 0 ≤ v2.toInt ∧ v2.toInt ≤ 12) ∧ (0 ≤ v1.toInt ∧ v1.toInt ≤ 12 ∧ 0 ≤ v2.toInt ∧ v2.toInt ≤ 12 → x.toInt = 1))) → Q x y I2 J2 R) : AM (d + 2) 303 112 [.ref 97, .int v1, .int v2] I J R Q := by
  have i_v1 := i32 v1
  have i_v2 := i32 v2
  refine am_X12_burnt (fun P hc => ?_)
  have L : ∀ n : Nat, (∀ (v3 : Int64) (v5 : Int32) (M : Im) (JM : Jm), Bd M → (v3 = 1) → (0 ≤ v1.toInt ∧ v1.toInt ≤ 12 ∧ 0 ≤ v2.toInt ∧ v2.toInt ≤ 12 ∧ 0 ≤ v5.toInt ∧ v5.toInt ≤ 13) → 5000 - v5.toInt < (n : Int) → P 45 112 [(0, .ref 97), (1, .int v1), (2, .int v2), (3, .long v3), (5, .int v5)] [] M JM R) ∧ (∀ (v3 : Int64) (v5 : Int32) (M : Im) (JM : Jm), Bd M → (v3 = p16 v5.toInt.toNat) → (0 ≤ v1.toInt ∧ v1.toInt ≤ 12 ∧ 0 ≤ v2.toInt ∧ v2.toInt ≤ 12 ∧ 0 ≤ v5.toInt ∧ v5.toInt ≤ v1.toInt) → 4000 - 100 * v5.toInt < (n : Int) → P 78 112 [(0, .ref 97), (1, .int v1), (2, .int v2), (3, .long v3), (5, .int v5)] [] M JM R) ∧ (∀ (v3 : Int64) (v5 : Int32) (v6 : Int32) (M : Im) (JM : Jm), Bd M → (v3 = p16 v5.toInt.toNat) → (0 ≤ v1.toInt ∧ v1.toInt ≤ 12 ∧ 0 ≤ v2.toInt ∧ v2.toInt ≤ 12 ∧ 0 ≤ v5.toInt ∧ v5.toInt < v1.toInt ∧ -1 ≤ v6.toInt ∧ v6.toInt ≤ 12) → 4000 - 100 * v5.toInt - 50 + v6.toInt < (n : Int) → P 88 112 [(0, .ref 97), (1, .int v1), (2, .int v2), (3, .long v3), (5, .int v5), (6, .int v6)] [] M JM R) ∧ (∀ (v3 : Int64) (v5 : Int64) (v7 : Int32) (M : Im) (JM : Jm), Bd M → (¬ v3 = 0) → (0 ≤ v1.toInt ∧ v1.toInt ≤ 12 ∧ 0 ≤ v2.toInt ∧ v2.toInt ≤ 12 ∧ 0 ≤ v7.toInt ∧ v7.toInt ≤ 13) → 100 - v7.toInt < (n : Int) → P 169 112 [(0, .ref 97), (3, .long v3), (5, .long v5), (7, .int v7)] [] M JM R) := by
    intro n
    induction n with
    | zero =>
      exact ⟨fun v3 v5 M J _ _ hi hm => absurd hm (by omega), fun v3 v5 M J _ _ hi hm => absurd hm (by omega), fun v3 v5 v6 M J _ _ hi hm => absurd hm (by omega), fun v3 v5 v7 M J _ _ hi hm => absurd hm (by omega)⟩
    | succ n ih =>
      refine ⟨?_, ?_, ?_, ?_⟩
      · skip
        intro v3 v5 M JM hB hq_0 hi hm
        have i_v1 := i32 v1
        have i_v2 := i32 v2
        have i_v3 := i64 v3
        have i_v5 := i32 v5
        refine sg_X12_burnt_45 hc _ _ _ _ _ _ _ ?_
        refine ⟨fun c1 => ?_, fun c1 => ?_⟩
        · skip
          have d2 : ((12) : Int) < (v5.toInt) := ci_lt rfl rfl c1
          have hv3 : v3 = p16 (0 : Int32).toInt.toNat := (by rw [hq_0]; rfl)
          exact ih.2.1 _ _ _ _ hB hv3 (by have q0 : (0 : Int32).toInt = 0 := rfl; omega) (by have q0 : (0 : Int32).toInt = 0 := rfl; omega)
        · skip
          have d4 : ((v5.toInt) : Int) ≤ (12) := ci_nlt rfl rfl c1
          refine ⟨fun c5 => ?_, fun c5 => ?_⟩
          · skip
            have d6 : ¬ ((v5.toInt) : Int) = (0) := ci_ne rfl rfl c5
            refine ⟨vp_of (a := v5.toInt) rfl (by omega) (by omega), ?_⟩
            have e7 : ((v5 + 1) : Int32).toInt = (v5.toInt) + (1) := ti_add rfl rfl (by omega)
            have hv8 : v3 = 1 := hq_0
            exact ih.1 _ _ _ _ hB hv8 (by have q0 : ((v5 + 1) : Int32).toInt = (v5.toInt + 1) := e7; omega) (by have q0 : ((v5 + 1) : Int32).toInt = (v5.toInt + 1) := e7; omega)
          · skip
            have d9 : ((v5.toInt) : Int) = (0) := ci_eq rfl rfl c5
            refine ⟨vp_of (a := v5.toInt) rfl (by omega) (by omega), ?_⟩
            have e10 : ((v5 + 1) : Int32).toInt = (v5.toInt) + (1) := ti_add rfl rfl (by omega)
            have hv11 : v3 = 1 := hq_0
            exact ih.1 _ _ _ _ hB hv11 (by have q0 : ((v5 + 1) : Int32).toInt = (v5.toInt + 1) := e10; omega) (by have q0 : ((v5 + 1) : Int32).toInt = (v5.toInt + 1) := e10; omega)
      · skip
        intro v3 v5 M JM hB hq_0 hi hm
        have i_v1 := i32 v1
        have i_v2 := i32 v2
        have i_v3 := i64 v3
        have i_v5 := i32 v5
        refine sg_X12_burnt_78 hc _ _ _ _ _ _ _ ?_
        refine ⟨fun c12 => ?_, fun c12 => ?_⟩
        · skip
          have d13 : ((v1.toInt) : Int) ≤ (v5.toInt) := ci_le rfl rfl c12
          have hv14 : ¬ v3 = 0 := (by rw [hq_0]; exact p16_pos (by omega))
          exact ih.2.2.2 _ _ _ _ _ hB hv14 (by have q0 : (v2 : Int32).toInt = v2.toInt := rfl; omega) (by have q0 : (v2 : Int32).toInt = v2.toInt := rfl; omega)
        · skip
          have d15 : ((v5.toInt) : Int) < (v1.toInt) := ci_nle rfl rfl c12
          have hv16 : v3 = p16 v5.toInt.toNat := hq_0
          exact ih.2.2.1 _ _ _ _ _ hB hv16 (by have q0 : (v5 : Int32).toInt = v5.toInt := rfl; have q1 : (12 : Int32).toInt = 12 := rfl; omega) (by have q0 : (v5 : Int32).toInt = v5.toInt := rfl; have q1 : (12 : Int32).toInt = 12 := rfl; omega)
      · skip
        intro v3 v5 v6 M JM hB hq_0 hi hm
        have i_v1 := i32 v1
        have i_v2 := i32 v2
        have i_v3 := i64 v3
        have i_v5 := i32 v5
        have i_v6 := i32 v6
        refine sg_X12_burnt_88 hc _ _ _ _ _ _ _ _ ?_
        refine ⟨fun c17 => ?_, fun c17 => ?_⟩
        · skip
          have d18 : ((v6.toInt) : Int) < (0) := ci_lt rfl rfl c17
          have e19 : ((v5 + 1) : Int32).toInt = (v5.toInt) + (1) := ti_add rfl rfl (by omega)
          have hv20 : (v3 * 16) = p16 (v5 + 1).toInt.toNat := (p16_step hq_0 (by omega) (ti_add rfl rfl (by omega)))
          exact ih.2.1 _ _ _ _ hB hv20 (by have q0 : ((v5 + 1) : Int32).toInt = (v5.toInt + 1) := e19; omega) (by have q0 : ((v5 + 1) : Int32).toInt = (v5.toInt + 1) := e19; omega)
        · skip
          have d21 : ((0) : Int) ≤ (v6.toInt) := ci_nlt rfl rfl c17
          refine ⟨vp_of (a := v6.toInt) rfl (by omega) (by omega), ?_⟩
          refine ⟨vp_of (a := 1) rfl (by omega) (by omega), ?_⟩
          refine ⟨fun c22 => ?_, fun c22 => ?_⟩
          · skip
            have d23 : ((v6.toInt) : Int) ≤ (0) := ci_le rfl rfl c22
            refine ⟨vp_of (a := v6.toInt) rfl (by omega) (by omega), ?_⟩
            have e24 : ((v6 + (-1)) : Int32).toInt = (v6.toInt) + ((-1)) := ti_add rfl rfl (by omega)
            have hv25 : v3 = p16 v5.toInt.toNat := hq_0
            exact ih.2.2.1 _ _ _ _ _ hB hv25 (by have q0 : (v5 : Int32).toInt = v5.toInt := rfl; have q1 : ((v6 + (-1)) : Int32).toInt = (v6.toInt + (-1)) := e24; omega) (by have q0 : (v5 : Int32).toInt = v5.toInt := rfl; have q1 : ((v6 + (-1)) : Int32).toInt = (v6.toInt + (-1)) := e24; omega)
          · skip
            have d26 : ((0) : Int) < (v6.toInt) := ci_nle rfl rfl c22
            have e27 : ((v6 - 1) : Int32).toInt = (v6.toInt) - (1) := ti_sub rfl rfl (by omega)
            refine ⟨vp_of (a := (v6.toInt - 1)) e27 (by omega) (by omega), ?_⟩
            refine ⟨vp_of (a := 1) rfl (by omega) (by omega), ?_⟩
            refine ⟨vp_of (a := v6.toInt) rfl (by omega) (by omega), ?_⟩
            have e28 : ((v6 + (-1)) : Int32).toInt = (v6.toInt) + ((-1)) := ti_add rfl rfl (by omega)
            have hv29 : v3 = p16 v5.toInt.toNat := hq_0
            exact ih.2.2.1 _ _ _ _ _ hB hv29 (by have q0 : (v5 : Int32).toInt = v5.toInt := rfl; have q1 : ((v6 + (-1)) : Int32).toInt = (v6.toInt + (-1)) := e28; omega) (by have q0 : (v5 : Int32).toInt = v5.toInt := rfl; have q1 : ((v6 + (-1)) : Int32).toInt = (v6.toInt + (-1)) := e28; omega)
      · skip
        intro v3 v5 v7 M JM hB hq_0 hi hm
        have i_v3 := i64 v3
        have i_v5 := i64 v5
        have i_v7 := i32 v7
        refine sg_X12_burnt_169 hc _ _ _ _ _ _ ?_
        refine ⟨fun c30 => ?_, fun c30 => ?_⟩
        · skip
          have d31 : ((12) : Int) < (v7.toInt) := ci_lt rfl rfl c30
          refine sp_X12_fraction hB hR0 hq_0 (fun x32 y37 I33 J34 hB35 p36 => ?_)
          intro o38
          have i39 := i32 x32
          refine ⟨o38, ?_⟩
          exact hQ _ _ _ _ hB35 (by have q0 : (x32 : Int32).toInt = x32.toInt := rfl; omega)
        · skip
          have d40 : ((v7.toInt) : Int) ≤ (12) := ci_nlt rfl rfl c30
          refine ⟨vp_of (a := v7.toInt) rfl (by omega) (by omega), ?_⟩
          have e41 : ((v7 + 1) : Int32).toInt = (v7.toInt) + (1) := ti_add rfl rfl (by omega)
          have hv42 : ¬ v3 = 0 := hq_0
          exact ih.2.2.2 _ _ _ _ _ hB hv42 (by have q0 : ((v7 + 1) : Int32).toInt = (v7.toInt + 1) := e41; omega) (by have q0 : ((v7 + 1) : Int32).toInt = (v7.toInt + 1) := e41; omega)
  refine sg_X12_burnt_0 hc _ _ _ _ _ ?_
  have hB43 : Bd (uI I 97 1 0) := Bd.o0 hB0 io9_112_97_12 (by decide) bd9_12_1
  have hB44 : Bd (uI (uI I 97 1 0) 97 0 0) := Bd.o0 hB43 io9_112_97_12 (by decide) bd9_12_0
  refine w_X12_isIn ?_
  refine ⟨fun c45 => ?_, fun c45 => ?_⟩
  · skip
    rw [lg_cmp_lt] at c45
    have d46 : ((v1.toInt) : Int) < (0) := cl_lt (tl_i2l rfl) rfl c45
    refine ⟨Or.inl rfl, ?_⟩
    intro o47
    refine ⟨fun c48 => ?_, fun c48 => ?_⟩
    · skip
      refine w_X12_no ?_
      have hB49 : Bd (uI (uI (uI I 97 1 0) 97 0 0) 97 0 5) := Bd.o0 hB44 io9_112_97_12 (by decide) bd9_12_0
      refine ⟨Or.inl rfl, ?_⟩
      intro o50
      refine ⟨Or.inl rfl, ?_⟩
      exact hQ _ _ _ _ hB49 (by have q0 : (0 : Int32).toInt = 0 := rfl; omega)
    · exact absurd c48 (by decide)
  · skip
    rw [lg_cmp_lt] at c45
    have d51 : ((0) : Int) ≤ (v1.toInt) := cl_nlt (tl_i2l rfl) rfl c45
    refine ⟨fun c52 => ?_, fun c52 => ?_⟩
    · skip
      rw [lg_cmp_gt] at c52
      have d53 : ((12) : Int) < (v1.toInt) := cl_lt rfl (tl_i2l rfl) c52
      refine ⟨Or.inl rfl, ?_⟩
      intro o54
      refine ⟨fun c55 => ?_, fun c55 => ?_⟩
      · skip
        refine w_X12_no ?_
        have hB56 : Bd (uI (uI (uI I 97 1 0) 97 0 0) 97 0 5) := Bd.o0 hB44 io9_112_97_12 (by decide) bd9_12_0
        refine ⟨Or.inl rfl, ?_⟩
        intro o57
        refine ⟨Or.inl rfl, ?_⟩
        exact hQ _ _ _ _ hB56 (by have q0 : (0 : Int32).toInt = 0 := rfl; omega)
      · exact absurd c55 (by decide)
    · skip
      rw [lg_cmp_gt] at c52
      have d58 : ((v1.toInt) : Int) ≤ (12) := cl_nlt rfl (tl_i2l rfl) c52
      refine ⟨Or.inr rfl, ?_⟩
      intro o59
      refine ⟨fun c60 => ?_, fun c60 => ?_⟩
      · exact absurd c60 (by decide)
      · skip
        refine w_X12_isIn ?_
        refine ⟨fun c61 => ?_, fun c61 => ?_⟩
        · skip
          rw [lg_cmp_lt] at c61
          have d62 : ((v2.toInt) : Int) < (0) := cl_lt (tl_i2l rfl) rfl c61
          refine ⟨Or.inl rfl, ?_⟩
          intro o63
          refine ⟨fun c64 => ?_, fun c64 => ?_⟩
          · exact absurd c64 (by decide)
          · skip
            refine w_X12_no ?_
            have hB65 : Bd (uI (uI (uI I 97 1 0) 97 0 0) 97 0 5) := Bd.o0 hB44 io9_112_97_12 (by decide) bd9_12_0
            refine ⟨Or.inl rfl, ?_⟩
            intro o66
            refine ⟨Or.inl rfl, ?_⟩
            exact hQ _ _ _ _ hB65 (by have q0 : (0 : Int32).toInt = 0 := rfl; omega)
        · skip
          rw [lg_cmp_lt] at c61
          have d67 : ((0) : Int) ≤ (v2.toInt) := cl_nlt (tl_i2l rfl) rfl c61
          refine ⟨fun c68 => ?_, fun c68 => ?_⟩
          · skip
            rw [lg_cmp_gt] at c68
            have d69 : ((12) : Int) < (v2.toInt) := cl_lt rfl (tl_i2l rfl) c68
            refine ⟨Or.inl rfl, ?_⟩
            intro o70
            refine ⟨fun c71 => ?_, fun c71 => ?_⟩
            · exact absurd c71 (by decide)
            · skip
              refine w_X12_no ?_
              have hB72 : Bd (uI (uI (uI I 97 1 0) 97 0 0) 97 0 5) := Bd.o0 hB44 io9_112_97_12 (by decide) bd9_12_0
              refine ⟨Or.inl rfl, ?_⟩
              intro o73
              refine ⟨Or.inl rfl, ?_⟩
              exact hQ _ _ _ _ hB72 (by have q0 : (0 : Int32).toInt = 0 := rfl; omega)
          · skip
            rw [lg_cmp_gt] at c68
            have d74 : ((v2.toInt) : Int) ≤ (12) := cl_nlt rfl (tl_i2l rfl) c68
            refine ⟨Or.inr rfl, ?_⟩
            intro o75
            refine ⟨fun c76 => ?_, fun c76 => ?_⟩
            · skip
              have hv77 : (1 : Int64) = 1 := rfl
              exact (L 1000000).1 _ _ _ _ hB44 hv77 (by have q0 : (0 : Int32).toInt = 0 := rfl; omega) (by have q0 : (0 : Int32).toInt = 0 := rfl; omega)
            · exact absurd c76 (by decide)
set_option maxHeartbeats 2000000 in
theorem sp_X12_oddsThat {d : Nat} {Q : Qt} {v1 : Int32} {v2 : Int32} {v3 : Int32} {v4 : Int32} {I : Im} {J : Jm} {R : Rm} (hB0 : Bd I) (hR0 : RI R) (hQ : ∀ (x : Int32) (y : Int64) (I2 : Im) (J2 : Jm), Bd I2 → (Fr pT I I2) → Q x y I2 J2 R) : AM (d + 11) 278 112 [.ref 97, .int v1, .int v2, .int v3, .int v4] I J R Q := by
  have i_v1 := i32 v1
  have i_v2 := i32 v2
  have i_v3 := i32 v3
  have i_v4 := i32 v4
  refine w_X12_oddsThat ?_
  have hB1 : Bd (uI I 97 1 0) := Bd.o0 hB0 io9_112_97_12 (by decide) bd9_12_1
  have f2 : Fr pT I (uI I 97 1 0) := Fr.o (Fr.refl _ _) (by decide) (by decide)
  have hB3 : Bd (uI (uI I 97 1 0) 97 0 0) := Bd.o0 hB1 io9_112_97_12 (by decide) bd9_12_0
  have f4 : Fr pT I (uI (uI I 97 1 0) 97 0 0) := Fr.o f2 (by decide) (by decide)
  refine w_X12_isSlice ?_
  refine w_X12_isIn ?_
  refine ⟨fun c5 => ?_, fun c5 => ?_⟩
  · skip
    rw [lg_cmp_lt] at c5
    have d6 : ((v4.toInt) : Int) < (1) := cl_lt (tl_i2l rfl) rfl c5
    refine ⟨Or.inl rfl, ?_⟩
    intro o7
    refine ⟨Or.inl rfl, ?_⟩
    intro o8
    refine ⟨fun c9 => ?_, fun c9 => ?_⟩
    · exact absurd c9 (by decide)
    · skip
      refine w_X12_no ?_
      have hB10 : Bd (uI (uI (uI I 97 1 0) 97 0 0) 97 0 2) := Bd.o0 hB3 io9_112_97_12 (by decide) bd9_12_0
      have f11 : Fr pT I (uI (uI (uI I 97 1 0) 97 0 0) 97 0 2) := Fr.o f4 (by decide) (by decide)
      refine ⟨Or.inl rfl, ?_⟩
      intro o12
      refine ⟨Or.inl rfl, ?_⟩
      exact hQ _ _ _ _ hB10 f11
  · skip
    rw [lg_cmp_lt] at c5
    have d13 : ((1) : Int) ≤ (v4.toInt) := cl_nlt (tl_i2l rfl) rfl c5
    refine ⟨fun c14 => ?_, fun c14 => ?_⟩
    · skip
      rw [lg_cmp_gt] at c14
      have d15 : ((30) : Int) < (v4.toInt) := cl_lt rfl (tl_i2l rfl) c14
      refine ⟨Or.inl rfl, ?_⟩
      intro o16
      refine ⟨Or.inl rfl, ?_⟩
      intro o17
      refine ⟨fun c18 => ?_, fun c18 => ?_⟩
      · exact absurd c18 (by decide)
      · skip
        refine w_X12_no ?_
        have hB19 : Bd (uI (uI (uI I 97 1 0) 97 0 0) 97 0 2) := Bd.o0 hB3 io9_112_97_12 (by decide) bd9_12_0
        have f20 : Fr pT I (uI (uI (uI I 97 1 0) 97 0 0) 97 0 2) := Fr.o f4 (by decide) (by decide)
        refine ⟨Or.inl rfl, ?_⟩
        intro o21
        refine ⟨Or.inl rfl, ?_⟩
        exact hQ _ _ _ _ hB19 f20
    · skip
      rw [lg_cmp_gt] at c14
      have d22 : ((v4.toInt) : Int) ≤ (30) := cl_nlt rfl (tl_i2l rfl) c14
      refine ⟨Or.inr rfl, ?_⟩
      intro o23
      refine ⟨Or.inr rfl, ?_⟩
      intro o24
      refine ⟨fun c25 => ?_, fun c25 => ?_⟩
      · skip
        refine w_X12_isShare ?_
        refine w_X12_isIn ?_
        refine ⟨fun c26 => ?_, fun c26 => ?_⟩
        · skip
          rw [lg_cmp_lt] at c26
          have d27 : ((v1.toInt) : Int) < (1) := cl_lt (tl_i2l rfl) rfl c26
          refine ⟨Or.inl rfl, ?_⟩
          intro o28
          refine ⟨fun c29 => ?_, fun c29 => ?_⟩
          · skip
            refine ⟨Or.inl rfl, ?_⟩
            intro o30
            refine ⟨fun c31 => ?_, fun c31 => ?_⟩
            · skip
              refine w_X12_no ?_
              have hB32 : Bd (uI (uI (uI I 97 1 0) 97 0 0) 97 0 5) := Bd.o0 hB3 io9_112_97_12 (by decide) bd9_12_0
              have f33 : Fr pT I (uI (uI (uI I 97 1 0) 97 0 0) 97 0 5) := Fr.o f4 (by decide) (by decide)
              refine ⟨Or.inl rfl, ?_⟩
              intro o34
              refine ⟨Or.inl rfl, ?_⟩
              exact hQ _ _ _ _ hB32 f33
            · exact absurd c31 (by decide)
          · exact absurd c29 (by decide)
        · skip
          rw [lg_cmp_lt] at c26
          have d35 : ((1) : Int) ≤ (v1.toInt) := cl_nlt (tl_i2l rfl) rfl c26
          refine ⟨fun c36 => ?_, fun c36 => ?_⟩
          · skip
            rw [lg_cmp_gt] at c36
            have d37 : ((99) : Int) < (v1.toInt) := cl_lt rfl (tl_i2l rfl) c36
            refine ⟨Or.inl rfl, ?_⟩
            intro o38
            refine ⟨fun c39 => ?_, fun c39 => ?_⟩
            · skip
              refine ⟨Or.inl rfl, ?_⟩
              intro o40
              refine ⟨fun c41 => ?_, fun c41 => ?_⟩
              · skip
                refine w_X12_no ?_
                have hB42 : Bd (uI (uI (uI I 97 1 0) 97 0 0) 97 0 5) := Bd.o0 hB3 io9_112_97_12 (by decide) bd9_12_0
                have f43 : Fr pT I (uI (uI (uI I 97 1 0) 97 0 0) 97 0 5) := Fr.o f4 (by decide) (by decide)
                refine ⟨Or.inl rfl, ?_⟩
                intro o44
                refine ⟨Or.inl rfl, ?_⟩
                exact hQ _ _ _ _ hB42 f43
              · exact absurd c41 (by decide)
            · exact absurd c39 (by decide)
          · skip
            rw [lg_cmp_gt] at c36
            have d45 : ((v1.toInt) : Int) ≤ (99) := cl_nlt rfl (tl_i2l rfl) c36
            refine ⟨Or.inr rfl, ?_⟩
            intro o46
            refine ⟨fun c47 => ?_, fun c47 => ?_⟩
            · exact absurd c47 (by decide)
            · skip
              refine w_X12_isIn ?_
              refine ⟨fun c48 => ?_, fun c48 => ?_⟩
              · skip
                rw [lg_cmp_lt] at c48
                have d49 : ((v2.toInt) : Int) < (1) := cl_lt (tl_i2l rfl) rfl c48
                refine ⟨Or.inl rfl, ?_⟩
                intro o50
                refine ⟨fun c51 => ?_, fun c51 => ?_⟩
                · skip
                  refine ⟨Or.inl rfl, ?_⟩
                  intro o52
                  refine ⟨fun c53 => ?_, fun c53 => ?_⟩
                  · skip
                    refine w_X12_no ?_
                    have hB54 : Bd (uI (uI (uI I 97 1 0) 97 0 0) 97 0 5) := Bd.o0 hB3 io9_112_97_12 (by decide) bd9_12_0
                    have f55 : Fr pT I (uI (uI (uI I 97 1 0) 97 0 0) 97 0 5) := Fr.o f4 (by decide) (by decide)
                    refine ⟨Or.inl rfl, ?_⟩
                    intro o56
                    refine ⟨Or.inl rfl, ?_⟩
                    exact hQ _ _ _ _ hB54 f55
                  · exact absurd c53 (by decide)
                · exact absurd c51 (by decide)
              · skip
                rw [lg_cmp_lt] at c48
                have d57 : ((1) : Int) ≤ (v2.toInt) := cl_nlt (tl_i2l rfl) rfl c48
                refine ⟨fun c58 => ?_, fun c58 => ?_⟩
                · skip
                  rw [lg_cmp_gt] at c58
                  have d59 : ((30) : Int) < (v2.toInt) := cl_lt rfl (tl_i2l rfl) c58
                  refine ⟨Or.inl rfl, ?_⟩
                  intro o60
                  refine ⟨fun c61 => ?_, fun c61 => ?_⟩
                  · skip
                    refine ⟨Or.inl rfl, ?_⟩
                    intro o62
                    refine ⟨fun c63 => ?_, fun c63 => ?_⟩
                    · skip
                      refine w_X12_no ?_
                      have hB64 : Bd (uI (uI (uI I 97 1 0) 97 0 0) 97 0 5) := Bd.o0 hB3 io9_112_97_12 (by decide) bd9_12_0
                      have f65 : Fr pT I (uI (uI (uI I 97 1 0) 97 0 0) 97 0 5) := Fr.o f4 (by decide) (by decide)
                      refine ⟨Or.inl rfl, ?_⟩
                      intro o66
                      refine ⟨Or.inl rfl, ?_⟩
                      exact hQ _ _ _ _ hB64 f65
                    · exact absurd c63 (by decide)
                  · exact absurd c61 (by decide)
                · skip
                  rw [lg_cmp_gt] at c58
                  have d67 : ((v2.toInt) : Int) ≤ (30) := cl_nlt rfl (tl_i2l rfl) c58
                  refine ⟨Or.inr rfl, ?_⟩
                  intro o68
                  refine ⟨fun c69 => ?_, fun c69 => ?_⟩
                  · exact absurd c69 (by decide)
                  · skip
                    refine ⟨Or.inr rfl, ?_⟩
                    intro o70
                    refine ⟨fun c71 => ?_, fun c71 => ?_⟩
                    · exact absurd c71 (by decide)
                    · skip
                      refine w_X12_isIn ?_
                      refine ⟨fun c72 => ?_, fun c72 => ?_⟩
                      · skip
                        rw [lg_cmp_lt] at c72
                        have d73 : ((v3.toInt) : Int) < (1) := cl_lt (tl_i2l rfl) rfl c72
                        refine ⟨Or.inl rfl, ?_⟩
                        intro o74
                        refine ⟨fun c75 => ?_, fun c75 => ?_⟩
                        · exact absurd c75 (by decide)
                        · skip
                          refine w_X12_no ?_
                          have hB76 : Bd (uI (uI (uI I 97 1 0) 97 0 0) 97 0 5) := Bd.o0 hB3 io9_112_97_12 (by decide) bd9_12_0
                          have f77 : Fr pT I (uI (uI (uI I 97 1 0) 97 0 0) 97 0 5) := Fr.o f4 (by decide) (by decide)
                          refine ⟨Or.inl rfl, ?_⟩
                          intro o78
                          refine ⟨Or.inl rfl, ?_⟩
                          exact hQ _ _ _ _ hB76 f77
                      · skip
                        rw [lg_cmp_lt] at c72
                        have d79 : ((1) : Int) ≤ (v3.toInt) := cl_nlt (tl_i2l rfl) rfl c72
                        refine ⟨fun c80 => ?_, fun c80 => ?_⟩
                        · skip
                          rw [lg_cmp_gt] at c80
                          have d81 : ((5) : Int) < (v3.toInt) := cl_lt rfl (tl_i2l rfl) c80
                          refine ⟨Or.inl rfl, ?_⟩
                          intro o82
                          refine ⟨fun c83 => ?_, fun c83 => ?_⟩
                          · exact absurd c83 (by decide)
                          · skip
                            refine w_X12_no ?_
                            have hB84 : Bd (uI (uI (uI I 97 1 0) 97 0 0) 97 0 5) := Bd.o0 hB3 io9_112_97_12 (by decide) bd9_12_0
                            have f85 : Fr pT I (uI (uI (uI I 97 1 0) 97 0 0) 97 0 5) := Fr.o f4 (by decide) (by decide)
                            refine ⟨Or.inl rfl, ?_⟩
                            intro o86
                            refine ⟨Or.inl rfl, ?_⟩
                            exact hQ _ _ _ _ hB84 f85
                        · skip
                          rw [lg_cmp_gt] at c80
                          have d87 : ((v3.toInt) : Int) ≤ (5) := cl_nlt rfl (tl_i2l rfl) c80
                          refine ⟨Or.inr rfl, ?_⟩
                          intro o88
                          refine ⟨fun c89 => ?_, fun c89 => ?_⟩
                          · skip
                            refine w_X12_shareOf ?_
                            refine ⟨(fun z => by have z2 : (v2.toInt : Int) = 0 := cl_eq (tl_i2l rfl) rfl z; omega), ?_⟩
                            refine ⟨vp_of (a := 3) rfl (by first | (clear d13 d22 d35 d45 d57 d67 d79 d87; omega) | omega) (by first | (clear d13 d22 d35 d45 d57 d67 d79 d87; omega) | omega), ?_⟩
                            refine kp102 rfl hR0 rfl (sp_X12_laysRows hB3 hR0 (by have z1 : (v3 : Int32).toInt = v3.toInt := rfl; omega) (by have z2 : (31 : Int32).toInt = 31 := rfl; omega) (fun x90 y95 I91 J92 hB93 p94 w96 => ?_))
                            intro o97
                            have f98 : Fr pT (uI (uI I 97 1 0) 97 0 0) I91 := ⟨fun j _ => congrFun w96.1 j, w96.2⟩
                            have f99 : Fr pT I I91 := Fr.tr f4 f98 (fun _ _ => trivial)
                            have q100 : (31 : Int32).toInt = 31 := rfl
                            have i101 := i32 x90
                            refine ⟨fun c102 => ?_, fun c102 => ?_⟩
                            · skip
                              have d103 : ((x90.toInt) : Int) = (0) := ci_eq rfl rfl c102
                              refine w_X12_no ?_
                              have hB104 : Bd (uI I91 97 0 8) := Bd.o0 hB93 io9_112_97_12 (by decide) bd9_12_0
                              have f105 : Fr pT I (uI I91 97 0 8) := Fr.o f99 (by decide) (by decide)
                              refine ⟨Or.inl rfl, ?_⟩
                              intro o106
                              refine ⟨Or.inl rfl, ?_⟩
                              exact hQ _ _ _ _ hB104 f105
                            · skip
                              have d107 : ¬ ((x90.toInt) : Int) = (0) := ci_ne rfl rfl c102
                              refine ⟨vp_of (a := v4.toInt) rfl (by first | (clear d35 d45 d57 d67 d79 d87 p94 i101 d107; omega) | omega) (by first | (clear d35 d45 d57 d67 d79 d87 p94 i101 d107; omega) | omega), ?_⟩
                              have i108 := i32 ((I91 97 31))
                              refine kp102 rfl hR0 rfl (sp_X12_fraction hB93 hR0 (fun z => by have z1 : ((Int32.toInt64 (I91 97 31)) : Int64).toInt = (I91 97 31).toInt := (tl_i2l rfl); have z2 : ((Int32.toInt64 (I91 97 31)) : Int64).toInt = 0 := congrArg Int64.toInt z; omega) (fun x109 y114 I110 J111 hB112 p113 w115 => ?_))
                              intro o116
                              have f117 : Fr pT I91 I110 := ⟨fun j _ => congrFun w115.1 j, w115.2⟩
                              have f118 : Fr pT I I110 := Fr.tr f99 f117 (fun _ _ => trivial)
                              have i119 := i32 x109
                              refine ⟨o116, ?_⟩
                              exact hQ _ _ _ _ hB112 f118
                          · exact absurd c89 (by decide)
      · exact absurd c25 (by decide)
