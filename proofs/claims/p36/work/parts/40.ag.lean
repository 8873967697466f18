set_option maxHeartbeats 2000000 in
theorem sp_X7_putLast {d : Nat} {Q : Qt} {v1 : Int32} {v2 : Int32} {v3 : Int64} {I : Im} {J : Jm} {R : Rm} (hB0 : Bd I) (hR0 : RI R) (hv1 : 0 ≤ v1.toInt ∧ v1.toInt ≤ 4) (hv2 : 1 ≤ v2.toInt) (hQ : ∀ (x : Int32) (y : Int64) (I2 : Im) (J2 : Jm), Bd I2 → (True) → Q x y I2 J2 R) : AM (d + 3) 83 112 [.ref 35, .int v1, .int v2, .long v3] I J R Q := by
  have i_v1 := i32 v1
  have i_v2 := i32 v2
  have i_v3 := i64 v3
  refine w_X7_putLast ?_
  refine ⟨fun c1 => ?_, fun c1 => ?_⟩
  · skip
    rw [lg_cmp_lt] at c1
    have d2 : (((v3 : Int64).toInt) : Int) < (1) := cl_lt rfl rfl c1
    refine ⟨Or.inl rfl, ?_⟩
    exact hQ _ _ _ _ hB0 trivial
  · skip
    rw [lg_cmp_lt] at c1
    have d3 : ((1) : Int) ≤ ((v3 : Int64).toInt) := cl_nlt rfl rfl c1
    refine ⟨(fun z => by have z2 : ((v3 : Int64).toInt : Int) = 0 := cl_eq rfl rfl z; omega), ?_⟩
    refine ⟨fun c4 => ?_, fun c4 => ?_⟩
    · skip
      rw [lg_cmp_eq] at c4
      have d5 : ((((2329089562800 - 2329089562800 / v3 * v3) : Int64).toInt) : Int) = (0) := cl_eq rfl rfl c4
      refine ⟨(fun z => by have z2 : ((v3 : Int64).toInt : Int) = 0 := cl_eq rfl rfl z; omega), ?_⟩
      refine ⟨fun c6 => ?_, fun c6 => ?_⟩
      · skip
        rw [lg_cmp_lt] at c6
        have d7 : ((((2329089562800 / v3) : Int64).toInt) : Int) < (v2.toInt) := cl_lt rfl (tl_i2l rfl) c6
        refine ⟨Or.inl rfl, ?_⟩
        exact hQ _ _ _ _ hB0 trivial
      · skip
        rw [lg_cmp_lt] at c6
        have d8 : ((v2.toInt) : Int) ≤ (((2329089562800 / v3) : Int64).toInt) := cl_nlt rfl (tl_i2l rfl) c6
        refine ⟨fun c9 => ?_, fun c9 => ?_⟩
        · skip
          rw [lg_cmp_gt] at c9
          have d10 : ((30) : Int) < (((2329089562800 / v3) : Int64).toInt) := cl_lt rfl rfl c9
          refine ⟨Or.inl rfl, ?_⟩
          exact hQ _ _ _ _ hB0 trivial
        · skip
          rw [lg_cmp_gt] at c9
          have d11 : ((((2329089562800 / v3) : Int64).toInt) : Int) ≤ (30) := cl_nlt rfl rfl c9
          refine w_X11_isIn ?_
          refine ⟨fun c12 => ?_, fun c12 => ?_⟩
          · skip
            have d13 : (((((I 35 1) &&& (1 <<< (((Int64.toInt32 (2329089562800 / v3)) - 1) &&& 31))) : Int32).toInt) : Int) = (0) := ci_eq rfl rfl c12
            refine ⟨Or.inl rfl, ?_⟩
            intro o14
            refine ⟨fun c15 => ?_, fun c15 => ?_⟩
            · exact absurd c15 (by decide)
            · skip
              refine ⟨Or.inl rfl, ?_⟩
              exact hQ _ _ _ _ hB0 trivial
          · skip
            have d16 : ¬ (((((I 35 1) &&& (1 <<< (((Int64.toInt32 (2329089562800 / v3)) - 1) &&& 31))) : Int32).toInt) : Int) = (0) := ci_ne rfl rfl c12
            refine ⟨Or.inr rfl, ?_⟩
            intro o17
            refine ⟨fun c18 => ?_, fun c18 => ?_⟩
            · skip
              refine ⟨vp_of (a := v1.toInt) rfl (by omega) (by omega), ?_⟩
              have e20 : ((Int64.toInt32 (2329089562800 / v3)) : Int32).toInt = ((2329089562800 / v3) : Int64).toInt := tl_l2i rfl (by omega)
              have hB19 : Bd (uI I 36 (Int32.toNatClampNeg v1) (Int64.toInt32 (2329089562800 / v3))) := Bd.a1 hB0 (show isA 112 36 0 = true from rfl) (show bna 36 = some _ from rfl) (show ((Int64.toInt32 (2329089562800 / v3)) : Int32).toInt = ((2329089562800 / v3) : Int64).toInt from e20) (by omega)
              refine sp_X7_meet hB19 hR0 (fun x21 y26 I22 J23 hB24 p25 => ?_)
              intro o27
              have i28 := i32 x21
              refine ⟨o27, ?_⟩
              exact hQ _ _ _ _ hB24 trivial
            · exact absurd c18 (by decide)
    · skip
      rw [lg_cmp_eq] at c4
      have d29 : ¬ ((((2329089562800 - 2329089562800 / v3 * v3) : Int64).toInt) : Int) = (0) := cl_ne rfl rfl c4
      refine ⟨Or.inl rfl, ?_⟩
      exact hQ _ _ _ _ hB0 trivial
set_option maxHeartbeats 2000000 in
theorem sp_X7_seek_r (m : Nat) : ∀ {d : Nat} {Q : Qt} {v1 : Int32} {v2 : Int32} {v3 : Int64} {I : Im} {J : Jm} {R : Rm} (hB0 : Bd I) (hR0 : RI R) (hv1 : 0 ≤ v1.toInt ∧ v1.toInt ≤ 5) (hv2 : 1 ≤ v2.toInt ∧ v2.toInt ≤ 31) (hm0 : 6 - v1.toInt ≤ (m : Int)) (hQ : ∀ (x : Int32) (y : Int64) (I2 : Im) (J2 : Jm), Bd I2 → (True) → Q x y I2 J2 R), AM (d + m + 5) 82 112 [.ref 35, .int v1, .int v2, .long v3] I J R Q := by
  induction m with
  | zero => intro d Q v1 v2 v3 I J R hB0 hR0 hv1 hv2 hm0 hQ; exact absurd hm0 (by omega)
  | succ m ihm =>
  intro d Q v1 v2 v3 I J R hB0 hR0 hv1 hv2 hm0 hQ
  have i_v1 := i32 v1
  have i_v2 := i32 v2
  have i_v3 := i64 v3
  refine am_X7_seek (fun P hc => ?_)
  have L : ∀ n : Nat, (∀ (v5 : Int32) (v6 : Int32) (M : Im) (JM : Jm), Bd M → (0 ≤ v1.toInt ∧ v1.toInt ≤ 4 ∧ 1 ≤ v6.toInt ∧ v6.toInt ≤ 31) → 40 - v6.toInt < (n : Int) → P 38 112 [(0, .ref 35), (1, .int v1), (3, .long v3), (5, .int v5), (6, .int v6)] [] M JM R) := by
    intro n
    induction n with
    | zero =>
      exact fun v5 v6 M J _ hi hm => absurd hm (by omega)
    | succ n ih =>
      intro v5 v6 M JM hB hi hm
      have i_v1 := i32 v1
      have i_v3 := i64 v3
      have i_v5 := i32 v5
      have i_v6 := i32 v6
      refine sg_X7_seek_38 hc _ _ _ _ _ _ _ ?_
      refine ⟨fun c1 => ?_, fun c1 => ?_⟩
      · skip
        have d2 : ((30) : Int) < (v6.toInt) := ci_lt rfl rfl c1
        refine ⟨Or.inl rfl, ?_⟩
        exact hQ _ _ _ _ hB trivial
      · skip
        have d3 : ((v6.toInt) : Int) ≤ (30) := ci_nlt rfl rfl c1
        refine w_X11_crumbs ?_
        refine ⟨fun c4 => ?_, fun c4 => ?_⟩
        · skip
          have d5 : ((1) : Int) ≤ (v6.toInt) := ci_le rfl rfl c4
          refine ⟨(fun z => by have z2 : (v6.toInt : Int) = 0 := cl_eq (tl_i2l rfl) rfl z; omega), ?_⟩
          refine ⟨fun c6 => ?_, fun c6 => ?_⟩
          · skip
            rw [lg_cmp_gt] at c6
            have d7 : (((v3 : Int64).toInt) : Int) < (((((Int32.toInt64 1) * (2329089562800 / (Int32.toInt64 v6))) * (Int32.toInt64 v5)) : Int64).toInt) := cl_lt rfl rfl c6
            refine ⟨fun c8 => ?_, fun c8 => ?_⟩
            · skip
              rw [lg_cmp_ge] at c8
              have d9 : (((v3 : Int64).toInt) : Int) ≤ ((((Int32.toInt64 1) * (2329089562800 / (Int32.toInt64 v6))) : Int64).toInt) := cl_le rfl rfl c8
              have e10 : ((v6 + 1) : Int32).toInt = (v6.toInt) + (1) := ti_add rfl rfl (by omega)
              exact ih _ _ _ _ hB (by have q0 : ((v6 + 1) : Int32).toInt = (v6.toInt + 1) := e10; omega) (by have q0 : ((v6 + 1) : Int32).toInt = (v6.toInt + 1) := e10; omega)
            · skip
              rw [lg_cmp_ge] at c8
              have d11 : (((((Int32.toInt64 1) * (2329089562800 / (Int32.toInt64 v6))) : Int64).toInt) : Int) < ((v3 : Int64).toInt) := cl_nle rfl rfl c8
              refine w_X11_isIn ?_
              refine ⟨fun c12 => ?_, fun c12 => ?_⟩
              · skip
                have d13 : (((((M 35 1) &&& (1 <<< ((v6 - 1) &&& 31))) : Int32).toInt) : Int) = (0) := ci_eq rfl rfl c12
                refine ⟨Or.inl rfl, ?_⟩
                intro o14
                refine ⟨fun c15 => ?_, fun c15 => ?_⟩
                · skip
                  have e16 : ((v6 + 1) : Int32).toInt = (v6.toInt) + (1) := ti_add rfl rfl (by omega)
                  exact ih _ _ _ _ hB (by have q0 : ((v6 + 1) : Int32).toInt = (v6.toInt + 1) := e16; omega) (by have q0 : ((v6 + 1) : Int32).toInt = (v6.toInt + 1) := e16; omega)
                · exact absurd c15 (by decide)
              · skip
                have d17 : ¬ (((((M 35 1) &&& (1 <<< ((v6 - 1) &&& 31))) : Int32).toInt) : Int) = (0) := ci_ne rfl rfl c12
                refine ⟨Or.inr rfl, ?_⟩
                intro o18
                refine ⟨fun c19 => ?_, fun c19 => ?_⟩
                · exact absurd c19 (by decide)
                · skip
                  refine ⟨vp_of (a := v1.toInt) rfl (by omega) (by omega), ?_⟩
                  have hB20 : Bd (uI M 36 (Int32.toNatClampNeg v1) v6) := Bd.a1 hB (show isA 112 36 0 = true from rfl) (show bna 36 = some _ from rfl) (show (v6 : Int32).toInt = v6.toInt from rfl) (by omega)
                  have e21 : ((v1 + 1) : Int32).toInt = (v1.toInt) + (1) := ti_add rfl rfl (by omega)
                  have e22 : ((v6 + 1) : Int32).toInt = (v6.toInt) + (1) := ti_add rfl rfl (by omega)
                  refine ihm (d := d) hB20 hR0 (by have z : ((v1 + 1) : Int32).toInt = (v1.toInt + 1) := e21; omega) (by have z : ((v6 + 1) : Int32).toInt = (v6.toInt + 1) := e22; omega) (by have z : ((v1 + 1) : Int32).toInt = (v1.toInt + 1) := e21; omega) (fun x23 y28 I24 J25 hB26 p27 => ?_)
                  intro o29
                  have i30 := i32 x23
                  refine ⟨fun c31 => ?_, fun c31 => ?_⟩
                  · skip
                    have d32 : ((x23.toInt) : Int) = (0) := ci_eq rfl rfl c31
                    exact ih _ _ _ _ hB26 (by have q0 : ((v6 + 1) : Int32).toInt = (v6.toInt + 1) := e22; omega) (by have q0 : ((v6 + 1) : Int32).toInt = (v6.toInt + 1) := e22; omega)
                  · skip
                    have d33 : ¬ ((x23.toInt) : Int) = (0) := ci_ne rfl rfl c31
                    refine ⟨Or.inr rfl, ?_⟩
                    exact hQ _ _ _ _ hB26 trivial
          · skip
            rw [lg_cmp_gt] at c6
            have d34 : ((((((Int32.toInt64 1) * (2329089562800 / (Int32.toInt64 v6))) * (Int32.toInt64 v5)) : Int64).toInt) : Int) ≤ ((v3 : Int64).toInt) := cl_nlt rfl rfl c6
            refine ⟨Or.inl rfl, ?_⟩
            exact hQ _ _ _ _ hB trivial
        · skip
          have d35 : ((v6.toInt) : Int) < (1) := ci_nle rfl rfl c4
          refine ⟨fun c36 => ?_, fun c36 => ?_⟩
          · skip
            rw [lg_cmp_gt] at c36
            have d37 : (((v3 : Int64).toInt) : Int) < (((0 * (Int32.toInt64 v5)) : Int64).toInt) := cl_lt rfl rfl c36
            refine ⟨fun c38 => ?_, fun c38 => ?_⟩
            · skip
              rw [lg_cmp_ge] at c38
              have d39 : (((v3 : Int64).toInt) : Int) ≤ (0) := cl_le rfl rfl c38
              have e40 : ((v6 + 1) : Int32).toInt = (v6.toInt) + (1) := ti_add rfl rfl (by omega)
              exact ih _ _ _ _ hB (by have q0 : ((v6 + 1) : Int32).toInt = (v6.toInt + 1) := e40; omega) (by have q0 : ((v6 + 1) : Int32).toInt = (v6.toInt + 1) := e40; omega)
            · skip
              rw [lg_cmp_ge] at c38
              have d41 : ((0) : Int) < ((v3 : Int64).toInt) := cl_nle rfl rfl c38
              refine w_X11_isIn ?_
              refine ⟨fun c42 => ?_, fun c42 => ?_⟩
              · skip
                have d43 : (((((M 35 1) &&& (1 <<< ((v6 - 1) &&& 31))) : Int32).toInt) : Int) = (0) := ci_eq rfl rfl c42
                refine ⟨Or.inl rfl, ?_⟩
                intro o44
                refine ⟨fun c45 => ?_, fun c45 => ?_⟩
                · skip
                  have e46 : ((v6 + 1) : Int32).toInt = (v6.toInt) + (1) := ti_add rfl rfl (by omega)
                  exact ih _ _ _ _ hB (by have q0 : ((v6 + 1) : Int32).toInt = (v6.toInt + 1) := e46; omega) (by have q0 : ((v6 + 1) : Int32).toInt = (v6.toInt + 1) := e46; omega)
                · exact absurd c45 (by decide)
              · skip
                have d47 : ¬ (((((M 35 1) &&& (1 <<< ((v6 - 1) &&& 31))) : Int32).toInt) : Int) = (0) := ci_ne rfl rfl c42
                refine ⟨Or.inr rfl, ?_⟩
                intro o48
                refine ⟨fun c49 => ?_, fun c49 => ?_⟩
                · exact absurd c49 (by decide)
                · skip
                  refine ⟨vp_of (a := v1.toInt) rfl (by omega) (by omega), ?_⟩
                  have hB50 : Bd (uI M 36 (Int32.toNatClampNeg v1) v6) := Bd.a1 hB (show isA 112 36 0 = true from rfl) (show bna 36 = some _ from rfl) (show (v6 : Int32).toInt = v6.toInt from rfl) (by omega)
                  have e51 : ((v1 + 1) : Int32).toInt = (v1.toInt) + (1) := ti_add rfl rfl (by omega)
                  have e52 : ((v6 + 1) : Int32).toInt = (v6.toInt) + (1) := ti_add rfl rfl (by omega)
                  refine ihm (d := d) hB50 hR0 (by have z : ((v1 + 1) : Int32).toInt = (v1.toInt + 1) := e51; omega) (by have z : ((v6 + 1) : Int32).toInt = (v6.toInt + 1) := e52; omega) (by have z : ((v1 + 1) : Int32).toInt = (v1.toInt + 1) := e51; omega) (fun x53 y58 I54 J55 hB56 p57 => ?_)
                  intro o59
                  have i60 := i32 x53
                  refine ⟨fun c61 => ?_, fun c61 => ?_⟩
                  · skip
                    have d62 : ((x53.toInt) : Int) = (0) := ci_eq rfl rfl c61
                    exact ih _ _ _ _ hB56 (by have q0 : ((v6 + 1) : Int32).toInt = (v6.toInt + 1) := e52; omega) (by have q0 : ((v6 + 1) : Int32).toInt = (v6.toInt + 1) := e52; omega)
                  · skip
                    have d63 : ¬ ((x53.toInt) : Int) = (0) := ci_ne rfl rfl c61
                    refine ⟨Or.inr rfl, ?_⟩
                    exact hQ _ _ _ _ hB56 trivial
          · skip
            rw [lg_cmp_gt] at c36
            have d64 : ((((0 * (Int32.toInt64 v5)) : Int64).toInt) : Int) ≤ ((v3 : Int64).toInt) := cl_nlt rfl rfl c36
            refine ⟨Or.inl rfl, ?_⟩
            exact hQ _ _ _ _ hB trivial
  refine sg_X7_seek_0 hc _ _ _ _ _ _ ?_
  refine ⟨fun c65 => ?_, fun c65 => ?_⟩
  · skip
    have b66 := Bd.o hB0 io9_112_35_7 bd9_7_2
    have e67 : (((I 35 2) - v1) : Int32).toInt = ((I 35 2).toInt) - (v1.toInt) := ti_sub rfl rfl (by omega)
    have d68 : ((((I 35 2).toInt - v1.toInt)) : Int) < (1) := ci_lt e67 rfl c65
    refine ⟨Or.inl rfl, ?_⟩
    exact hQ _ _ _ _ hB0 trivial
  · skip
    have b69 := Bd.o hB0 io9_112_35_7 bd9_7_2
    have e70 : (((I 35 2) - v1) : Int32).toInt = ((I 35 2).toInt) - (v1.toInt) := ti_sub rfl rfl (by omega)
    have d71 : ((1) : Int) ≤ (((I 35 2).toInt - v1.toInt)) := ci_nlt e70 rfl c65
    refine ⟨fun c72 => ?_, fun c72 => ?_⟩
    · skip
      have d73 : ((v1.toInt) : Int) < (5) := ci_lt rfl rfl c72
      refine ⟨fun c74 => ?_, fun c74 => ?_⟩
      · skip
        have d75 : ¬ ((((I 35 2).toInt - v1.toInt)) : Int) = (1) := ci_ne e70 rfl c74
        exact (L 1000000) _ _ _ _ hB0 (by have q0 : (v2 : Int32).toInt = v2.toInt := rfl; omega) (by have q0 : (v2 : Int32).toInt = v2.toInt := rfl; omega)
      · skip
        have d76 : ((((I 35 2).toInt - v1.toInt)) : Int) = (1) := ci_eq e70 rfl c74
        refine sp_X7_putLast hB0 hR0 (by have z : (v1 : Int32).toInt = v1.toInt := rfl; omega) (by have z : (v2 : Int32).toInt = v2.toInt := rfl; omega) (fun x77 y82 I78 J79 hB80 p81 => ?_)
        intro o83
        have i84 := i32 x77
        refine ⟨o83, ?_⟩
        exact hQ _ _ _ _ hB80 trivial
    · skip
      have d85 : ((5) : Int) ≤ (v1.toInt) := ci_nlt rfl rfl c72
      refine ⟨Or.inl rfl, ?_⟩
      exact hQ _ _ _ _ hB0 trivial
theorem sp_X7_seek {d : Nat} {Q : Qt} {v1 : Int32} {v2 : Int32} {v3 : Int64} {I : Im} {J : Jm} {R : Rm} (hB0 : Bd I) (hR0 : RI R) (hv1 : 0 ≤ v1.toInt ∧ v1.toInt ≤ 5) (hv2 : 1 ≤ v2.toInt ∧ v2.toInt ≤ 31) (hQ : ∀ (x : Int32) (y : Int64) (I2 : Im) (J2 : Jm), Bd I2 → (True) → Q x y I2 J2 R) : AM (d + 11) 82 112 [.ref 35, .int v1, .int v2, .long v3] I J R Q := sp_X7_seek_r 6 (d := d) hB0 hR0 hv1 hv2 (by omega) hQ
set_option maxHeartbeats 2000000 in
theorem sp_X7_seekRowsOf {d : Nat} {Q : Qt} {v1 : Int32} {v2 : Int64} {I : Im} {J : Jm} {R : Rm} (hB0 : Bd I) (hR0 : RI R) (hv1 : 0 ≤ v1.toInt ∧ v1.toInt ≤ 5) (hQ : ∀ (x : Int32) (y : Int64) (I2 : Im) (J2 : Jm), Bd I2 → (True) → Q x y I2 J2 R) : AM (d + 12) 79 112 [.ref 35, .int v1, .long v2] I J R Q := by
  have i_v1 := i32 v1
  have i_v2 := i64 v2
  refine w_X7_seekRowsOf ?_
  have hB1 : Bd (uI I 35 2 v1) := Bd.o1 hB0 io9_112_35_7 (by omega) bd9_7_2 (show (v1 : Int32).toInt = v1.toInt from rfl) (by omega)
  refine sp_X7_seek hB1 hR0 (by have z : (0 : Int32).toInt = 0 := rfl; omega) (by have z : (1 : Int32).toInt = 1 := rfl; omega) (fun x2 y7 I3 J4 hB5 p6 => ?_)
  intro o8
  have i9 := i32 x2
  refine ⟨o8, ?_⟩
  exact hQ _ _ _ _ hB5 trivial
set_option maxHeartbeats 2000000 in
theorem sp_X7_findFewest {d : Nat} {Q : Qt} {v1 : Int32} {v2 : Int64} {I : Im} {J : Jm} {R : Rm} (hB0 : Bd I) (hR0 : RI R) (hQ : ∀ (x : Int32) (y : Int64) (I2 : Im) (J2 : Jm), Bd I2 → (True) → Q x y I2 J2 R) : AM (d + 13) 76 112 [.ref 35, .int v1, .long v2] I J R Q := by
  have i_v1 := i32 v1
  have i_v2 := i64 v2
  refine am_X7_findFewest (fun P hc => ?_)
  have L : ∀ n : Nat, (∀ (v4 : Int32) (v5 : Int32) (M : Im) (JM : Jm), Bd M → (v4 = 0 ∨ v4 = 1) → (1 ≤ v5.toInt ∧ v5.toInt ≤ 6) → 10 - v5.toInt < (n : Int) → P 22 112 [(0, .ref 35), (2, .long v2), (4, .int v4), (5, .int v5)] [] M JM R) := by
    intro n
    induction n with
    | zero =>
      exact fun v4 v5 M J _ _ hi hm => absurd hm (by omega)
    | succ n ih =>
      intro v4 v5 M JM hB hb_v4 hi hm
      have i_v2 := i64 v2
      have i_v4 := i32 v4
      have i_v5 := i32 v5
      refine sg_X7_findFewest_22 hc _ _ _ _ _ _ ?_
      refine ⟨fun c1 => ?_, fun c1 => ?_⟩
      · skip
        have d2 : ((5) : Int) < (v5.toInt) := ci_lt rfl rfl c1
        refine ⟨hb_v4, ?_⟩
        exact hQ _ _ _ _ hB trivial
      · skip
        have d3 : ((v5.toInt) : Int) ≤ (5) := ci_nlt rfl rfl c1
        refine ⟨fun c4 => ?_, fun c4 => ?_⟩
        · skip
          have d5 : ¬ ((v4.toInt) : Int) = (0) := ci_ne rfl rfl c4
          refine ⟨hb_v4, ?_⟩
          exact hQ _ _ _ _ hB trivial
        · skip
          have d6 : ((v4.toInt) : Int) = (0) := ci_eq rfl rfl c4
          refine ⟨fun c7 => ?_, fun c7 => ?_⟩
          · skip
            rw [lg_cmp_le] at c7
            have d8 : (((v2 : Int64).toInt) : Int) ≤ (0) := cl_le rfl rfl c7
            refine ⟨hb_v4, ?_⟩
            exact hQ _ _ _ _ hB trivial
          · skip
            rw [lg_cmp_le] at c7
            have d9 : ((0) : Int) < ((v2 : Int64).toInt) := cl_nle rfl rfl c7
            refine sp_X7_seekRowsOf hB hR0 (by have z : (v5 : Int32).toInt = v5.toInt := rfl; omega) (fun x10 y15 I11 J12 hB13 p14 => ?_)
            intro o16
            have i17 := i32 x10
            have e18 : ((v5 + 1) : Int32).toInt = (v5.toInt) + (1) := ti_add rfl rfl (by omega)
            exact ih _ _ _ _ hB13 (o16) (by have q0 : ((v5 + 1) : Int32).toInt = (v5.toInt + 1) := e18; omega) (by have q0 : ((v5 + 1) : Int32).toInt = (v5.toInt + 1) := e18; omega)
  refine sg_X7_findFewest_0 hc _ _ _ _ _ ?_
  refine sp_X7_begin hB0 hR0 (fun x19 y24 I20 J21 hB22 p23 => ?_)
  refine ⟨fun c25 => ?_, fun c25 => ?_⟩
  · skip
    rw [lg_cmp_eq] at c25
    have d26 : ¬ (((v2 : Int64).toInt) : Int) = (0) := cl_ne rfl rfl c25
    exact (L 1000000) _ _ _ _ hB22 (Or.inl rfl) (by have q0 : (1 : Int32).toInt = 1 := rfl; omega) (by have q0 : (1 : Int32).toInt = 1 := rfl; omega)
  · skip
    rw [lg_cmp_eq] at c25
    have d27 : (((v2 : Int64).toInt) : Int) = (0) := cl_eq rfl rfl c25
    exact (L 1000000) _ _ _ _ hB22 (Or.inr rfl) (by have q0 : (1 : Int32).toInt = 1 := rfl; omega) (by have q0 : (1 : Int32).toInt = 1 := rfl; omega)
set_option maxHeartbeats 2000000 in
theorem sp_X7_findKindest {d : Nat} {Q : Qt} {v1 : Int32} {v2 : Int64} {I : Im} {J : Jm} {R : Rm} (hB0 : Bd I) (hR0 : RI R) (hQ : ∀ (x : Int32) (y : Int64) (I2 : Im) (J2 : Jm), Bd I2 → (True) → Q x y I2 J2 R) : AM (d + 13) 77 112 [.ref 35, .int v1, .long v2] I J R Q := by
  have i_v1 := i32 v1
  have i_v2 := i64 v2
  refine am_X7_findKindest (fun P hc => ?_)
  have L : ∀ n : Nat, (∀ (v4 : Int32) (M : Im) (JM : Jm), Bd M → (1 ≤ v4.toInt ∧ v4.toInt ≤ 6) → 10 - v4.toInt < (n : Int) → P 9 112 [(0, .ref 35), (2, .long v2), (4, .int v4)] [] M JM R) := by
    intro n
    induction n with
    | zero =>
      exact fun v4 M J _ hi hm => absurd hm (by omega)
    | succ n ih =>
      intro v4 M JM hB hi hm
      have i_v2 := i64 v2
      have i_v4 := i32 v4
      refine sg_X7_findKindest_9 hc _ _ _ _ _ ?_
      refine ⟨fun c1 => ?_, fun c1 => ?_⟩
      · skip
        have d2 : ((5) : Int) < (v4.toInt) := ci_lt rfl rfl c1
        refine ⟨fun c3 => ?_, fun c3 => ?_⟩
        · skip
          have b4 := Bd.o hB io9_112_35_7 bd9_7_5
          have d5 : (((M 35 5).toInt) : Int) ≤ (0) := ci_le rfl rfl c3
          refine ⟨Or.inl rfl, ?_⟩
          exact hQ _ _ _ _ hB trivial
        · skip
          have b6 := Bd.o hB io9_112_35_7 bd9_7_5
          have d7 : ((0) : Int) < ((M 35 5).toInt) := ci_nle rfl rfl c3
          refine ⟨Or.inr rfl, ?_⟩
          exact hQ _ _ _ _ hB trivial
      · skip
        have d8 : ((v4.toInt) : Int) ≤ (5) := ci_nlt rfl rfl c1
        refine sp_X7_seekRowsOf hB hR0 (by have z : (v4 : Int32).toInt = v4.toInt := rfl; omega) (fun x9 y14 I10 J11 hB12 p13 => ?_)
        intro o15
        have i16 := i32 x9
        have e17 : ((v4 + 1) : Int32).toInt = (v4.toInt) + (1) := ti_add rfl rfl (by omega)
        exact ih _ _ _ hB12 (by have q0 : ((v4 + 1) : Int32).toInt = (v4.toInt + 1) := e17; omega) (by have q0 : ((v4 + 1) : Int32).toInt = (v4.toInt + 1) := e17; omega)
  refine sg_X7_findKindest_0 hc _ _ _ _ _ ?_
  refine sp_X7_begin hB0 hR0 (fun x18 y23 I19 J20 hB21 p22 => ?_)
  exact (L 1000000) _ _ _ hB21 (by have q0 : (1 : Int32).toInt = 1 := rfl; omega) (by have q0 : (1 : Int32).toInt = 1 := rfl; omega)
set_option maxHeartbeats 2000000 in
theorem sp_X7_countAll {d : Nat} {Q : Qt} {v1 : Int32} {v2 : Int64} {v4 : Int32} {I : Im} {J : Jm} {R : Rm} (hB0 : Bd I) (hR0 : RI R) (hv4 : 0 ≤ v4.toInt ∧ v4.toInt ≤ 5) (hQ : ∀ (x : Int32) (y : Int64) (I2 : Im) (J2 : Jm), Bd I2 → (True) → Q x y I2 J2 R) : AM (d + 13) 78 112 [.ref 35, .int v1, .long v2, .int v4] I J R Q := by
  have i_v1 := i32 v1
  have i_v2 := i64 v2
  have i_v4 := i32 v4
  refine w_X7_countAll ?_
  refine sp_X7_begin hB0 hR0 (fun x1 y6 I2 J3 hB4 p5 => ?_)
  refine sp_X7_seekRowsOf hB4 hR0 (by have z : (v4 : Int32).toInt = v4.toInt := rfl; omega) (fun x7 y12 I8 J9 hB10 p11 => ?_)
  intro o13
  have i14 := i32 x7
  exact hQ _ _ _ _ hB10 trivial
set_option maxHeartbeats 2000000 in
theorem sp_X7_bestQuestion {d : Nat} {Q : Qt} {v1 : Int32} {I : Im} {J : Jm} {R : Rm} (hB0 : Bd I) (hR0 : RI R) (hQ : ∀ (x : Int32) (y : Int64) (I2 : Im) (J2 : Jm), Bd I2 → (True) → Q x y I2 J2 R) : AM (d + 2) 81 112 [.ref 35, .int v1] I J R Q := by
  have i_v1 := i32 v1
  refine am_X7_bestQuestion (fun P hc => ?_)
  have L : ∀ n : Nat, (∀ (v2 : Int32) (v3 : Int32) (v4 : Int32) (M : Im) (JM : Jm), Bd M → (1 ≤ v4.toInt ∧ v4.toInt ≤ 31) → 40 - v4.toInt < (n : Int) → P 12 112 [(0, .ref 35), (1, .int v1), (2, .int v2), (3, .int v3), (4, .int v4)] [] M JM R) := by
    intro n
    induction n with
    | zero =>
      exact fun v2 v3 v4 M J _ hi hm => absurd hm (by omega)
    | succ n ih =>
      intro v2 v3 v4 M JM hB hi hm
      have i_v1 := i32 v1
      have i_v2 := i32 v2
      have i_v3 := i32 v3
      have i_v4 := i32 v4
      refine sg_X7_bestQuestion_12 hc _ _ _ _ _ _ _ ?_
      refine ⟨fun c1 => ?_, fun c1 => ?_⟩
      · skip
        have d2 : ((30) : Int) < (v4.toInt) := ci_lt rfl rfl c1
        exact hQ _ _ _ _ hB trivial
      · skip
        have d3 : ((v4.toInt) : Int) ≤ (30) := ci_nlt rfl rfl c1
        refine ⟨vp_of (a := v4.toInt) rfl (by omega) (by omega), ?_⟩
        refine ⟨vp_of (a := v4.toInt) rfl (by omega) (by omega), ?_⟩
        refine w_X11_isIn ?_
        refine ⟨fun c4 => ?_, fun c4 => ?_⟩
        · skip
          have d5 : ((((v1 &&& (1 <<< ((v4 - 1) &&& 31))) : Int32).toInt) : Int) = (0) := ci_eq rfl rfl c4
          refine ⟨Or.inl rfl, ?_⟩
          intro o6
          refine ⟨fun c7 => ?_, fun c7 => ?_⟩
          · skip
            have e8 : ((v4 + 1) : Int32).toInt = (v4.toInt) + (1) := ti_add rfl rfl (by omega)
            exact ih _ _ _ _ _ hB (by have q0 : ((v4 + 1) : Int32).toInt = (v4.toInt + 1) := e8; omega) (by have q0 : ((v4 + 1) : Int32).toInt = (v4.toInt + 1) := e8; omega)
          · exact absurd c7 (by decide)
        · skip
          have d9 : ¬ ((((v1 &&& (1 <<< ((v4 - 1) &&& 31))) : Int32).toInt) : Int) = (0) := ci_ne rfl rfl c4
          refine ⟨Or.inr rfl, ?_⟩
          intro o10
          refine ⟨fun c11 => ?_, fun c11 => ?_⟩
          · exact absurd c11 (by decide)
          · skip
            refine ⟨fun c12 => ?_, fun c12 => ?_⟩
            · skip
              have e13 : ((if ((M 38 (Int32.toNatClampNeg v4)) : Int32) < ((M 35 6) - (M 38 (Int32.toNatClampNeg v4))) then ((M 35 6) - (M 38 (Int32.toNatClampNeg v4))) else (M 38 (Int32.toNatClampNeg v4))) : Int32).toInt = max ((M 38 (Int32.toNatClampNeg v4)).toInt) ((((M 35 6) - (M 38 (Int32.toNatClampNeg v4))) : Int32).toInt) := ti_max rfl rfl
              have d14 : ((v3.toInt) : Int) ≤ ((max ((M 38 (Int32.toNatClampNeg v4)).toInt) ((((M 35 6) - (M 38 (Int32.toNatClampNeg v4))) : Int32).toInt))) := ci_le rfl e13 c12
              have e15 : ((v4 + 1) : Int32).toInt = (v4.toInt) + (1) := ti_add rfl rfl (by omega)
              exact ih _ _ _ _ _ hB (by have q0 : ((v4 + 1) : Int32).toInt = (v4.toInt + 1) := e15; omega) (by have q0 : ((v4 + 1) : Int32).toInt = (v4.toInt + 1) := e15; omega)
            · skip
              have e16 : ((if ((M 38 (Int32.toNatClampNeg v4)) : Int32) < ((M 35 6) - (M 38 (Int32.toNatClampNeg v4))) then ((M 35 6) - (M 38 (Int32.toNatClampNeg v4))) else (M 38 (Int32.toNatClampNeg v4))) : Int32).toInt = max ((M 38 (Int32.toNatClampNeg v4)).toInt) ((((M 35 6) - (M 38 (Int32.toNatClampNeg v4))) : Int32).toInt) := ti_max rfl rfl
              have d17 : (((max ((M 38 (Int32.toNatClampNeg v4)).toInt) ((((M 35 6) - (M 38 (Int32.toNatClampNeg v4))) : Int32).toInt))) : Int) < (v3.toInt) := ci_nle rfl e16 c12
              have e18 : ((v4 + 1) : Int32).toInt = (v4.toInt) + (1) := ti_add rfl rfl (by omega)
              exact ih _ _ _ _ _ hB (by have q0 : ((v4 + 1) : Int32).toInt = (v4.toInt + 1) := e18; omega) (by have q0 : ((v4 + 1) : Int32).toInt = (v4.toInt + 1) := e18; omega)
  refine sg_X7_bestQuestion_0 hc _ _ _ _ ?_
  exact (L 1000000) _ _ _ _ _ hB0 (by have q0 : (1 : Int32).toInt = 1 := rfl; omega) (by have q0 : (1 : Int32).toInt = 1 := rfl; omega)
set_option maxHeartbeats 2000000 in
theorem sp_X8_fixAt {d : Nat} {Q : Qt} {v0 : Nat} {v1 : Int32} {v2 : Int32} {v3 : Int32} {v4 : Int64} {I : Im} {J : Jm} {R : Rm} (hB0 : Bd I) (hR0 : RI R) (ho0 : isO 112 v0 10 = true) (hQ : ∀ (x : Int32) (y : Int64) (I2 : Im) (J2 : Jm), Bd I2 → (I2 39 2 = I 39 2) → Q x y I2 J2 R) : AM (d + 2) 87 112 [.ref v0, .int v1, .int v2, .int v3, .long v4] I J R Q := by
  have i_v1 := i32 v1
  have i_v2 := i32 v2
  have i_v3 := i32 v3
  have i_v4 := i64 v4
  refine am_X8_fixAt (fun P hc => ?_)
  have L : ∀ n : Nat, (∀ (v6 : Int32) (v7 : Int64) (v9 : Int32) (M : Im) (JM : Jm), Bd M → (M 39 2 = I 39 2) → (0 ≤ v9.toInt ∧ v9.toInt ≤ 60) → 100 - v9.toInt < (n : Int) → P 10 112 [(0, .ref v0), (1, .int v1), (2, .int v2), (6, .int v6), (7, .long v7), (9, .int v9)] [] M JM R) ∧ (∀ (v6 : Int32) (v7 : Int64) (M : Im) (JM : Jm), Bd M → (M 39 2 = I 39 2) → (True) → 1 < (n : Int) → P 80 112 [(6, .int v6), (7, .long v7)] [] M JM R) := by
    intro n
    induction n with
    | zero =>
      exact ⟨fun v6 v7 v9 M J _ _ hi hm => absurd hm (by omega), fun v6 v7 M J _ _ hi hm => absurd hm (by omega)⟩
    | succ n ih =>
      refine ⟨?_, ?_⟩
      · skip
        intro v6 v7 v9 M JM hB hk_39_2 hi hm
        have i_v1 := i32 v1
        have i_v2 := i32 v2
        have i_v6 := i32 v6
        have i_v7 := i64 v7
        have i_v9 := i32 v9
        refine sg_X8_fixAt_10 hc _ _ _ _ _ _ _ _ _ ?_
        refine ⟨fun c1 => ?_, fun c1 => ?_⟩
        · skip
          have d2 : ((v1.toInt) : Int) ≤ (v9.toInt) := ci_le rfl rfl c1
          exact ih.2 _ _ _ _ hB hk_39_2 trivial (by omega)
        · skip
          have d3 : ((v9.toInt) : Int) < (v1.toInt) := ci_nle rfl rfl c1
          refine ⟨fun c4 => ?_, fun c4 => ?_⟩
          · skip
            have d5 : ((60) : Int) ≤ (v9.toInt) := ci_le rfl rfl c4
            exact ih.2 _ _ _ _ hB hk_39_2 trivial (by omega)
          · skip
            have d6 : ((v9.toInt) : Int) < (60) := ci_nle rfl rfl c4
            refine ⟨fun c7 => ?_, fun c7 => ?_⟩
            · skip
              have d8 : ((v9.toInt) : Int) = (v2.toInt) := ci_eq rfl rfl c7
              have e9 : ((v9 + 1) : Int32).toInt = (v9.toInt) + (1) := ti_add rfl rfl (by omega)
              exact ih.1 _ _ _ _ _ hB hk_39_2 (by have q0 : ((v9 + 1) : Int32).toInt = (v9.toInt + 1) := e9; omega) (by have q0 : ((v9 + 1) : Int32).toInt = (v9.toInt + 1) := e9; omega)
            · skip
              have d10 : ¬ ((v9.toInt) : Int) = (v2.toInt) := ci_ne rfl rfl c7
              refine bif_t ho0 ?_
              refine bif_t (fa_10_2 ho0).1 ?_
              refine ⟨by rw [(fa_10_2 ho0).2.1]; exact vp_of (a := v9.toInt) rfl (by omega) (by omega), ?_⟩
              refine w_X11_isIn ?_
              refine ⟨fun c11 => ?_, fun c11 => ?_⟩
              · skip
                have d12 : ((((v6 &&& (1 <<< (((Int64.toInt32 (JM (v0 + 1) (Int32.toNatClampNeg v9))) - 1) &&& 31))) : Int32).toInt) : Int) = (0) := ci_eq rfl rfl c11
                refine ⟨Or.inl rfl, ?_⟩
                intro o13
                refine ⟨fun c14 => ?_, fun c14 => ?_⟩
                · exact absurd c14 (by decide)
                · skip
                  exact hQ _ _ _ _ hB hk_39_2
              · skip
                have d15 : ¬ ((((v6 &&& (1 <<< (((Int64.toInt32 (JM (v0 + 1) (Int32.toNatClampNeg v9))) - 1) &&& 31))) : Int32).toInt) : Int) = (0) := ci_ne rfl rfl c11
                refine ⟨Or.inr rfl, ?_⟩
                intro o16
                refine ⟨fun c17 => ?_, fun c17 => ?_⟩
                · skip
                  refine w_X11_bit ?_
                  refine w_X11_crumbs ?_
                  refine ⟨fun c18 => ?_, fun c18 => ?_⟩
                  · skip
                    have d19 : ((1) : Int) ≤ (((Int64.toInt32 (JM (v0 + 1) (Int32.toNatClampNeg v9))) : Int32).toInt) := ci_le rfl rfl c18
                    have i20 := i32 ((Int64.toInt32 (JM (v0 + 1) (Int32.toNatClampNeg v9))))
                    refine ⟨(fun z => by have z2 : (((Int64.toInt32 (JM (v0 + 1) (Int32.toNatClampNeg v9))) : Int32).toInt : Int) = 0 := cl_eq (tl_i2l rfl) rfl z; omega), ?_⟩
                    have e21 : ((v9 + 1) : Int32).toInt = (v9.toInt) + (1) := ti_add rfl rfl (by omega)
                    exact ih.1 _ _ _ _ _ hB hk_39_2 (by have q0 : ((v9 + 1) : Int32).toInt = (v9.toInt + 1) := e21; omega) (by have q0 : ((v9 + 1) : Int32).toInt = (v9.toInt + 1) := e21; omega)
                  · skip
                    have d22 : ((((Int64.toInt32 (JM (v0 + 1) (Int32.toNatClampNeg v9))) : Int32).toInt) : Int) < (1) := ci_nle rfl rfl c18
                    have e23 : ((v9 + 1) : Int32).toInt = (v9.toInt) + (1) := ti_add rfl rfl (by omega)
                    exact ih.1 _ _ _ _ _ hB hk_39_2 (by have q0 : ((v9 + 1) : Int32).toInt = (v9.toInt + 1) := e23; omega) (by have q0 : ((v9 + 1) : Int32).toInt = (v9.toInt + 1) := e23; omega)
                · exact absurd c17 (by decide)
      · skip
        intro v6 v7 M JM hB hk_39_2 hi hm
        have i_v6 := i32 v6
        have i_v7 := i64 v7
        refine sg_X8_fixAt_80 hc _ _ _ _ _ ?_
        refine ⟨fun c24 => ?_, fun c24 => ?_⟩
        · skip
          rw [lg_cmp_lt] at c24
          have d25 : (((v7 : Int64).toInt) : Int) < (1) := cl_lt rfl rfl c24
          exact hQ _ _ _ _ hB hk_39_2
        · skip
          rw [lg_cmp_lt] at c24
          have d26 : ((1) : Int) ≤ ((v7 : Int64).toInt) := cl_nlt rfl rfl c24
          refine ⟨(fun z => by have z2 : ((v7 : Int64).toInt : Int) = 0 := cl_eq rfl rfl z; omega), ?_⟩
          refine ⟨fun c27 => ?_, fun c27 => ?_⟩
          · skip
            rw [lg_cmp_eq] at c27
            have d28 : ¬ ((((2329089562800 - 2329089562800 / v7 * v7) : Int64).toInt) : Int) = (0) := cl_ne rfl rfl c27
            exact hQ _ _ _ _ hB hk_39_2
          · skip
            rw [lg_cmp_eq] at c27
            have d29 : ((((2329089562800 - 2329089562800 / v7 * v7) : Int64).toInt) : Int) = (0) := cl_eq rfl rfl c27
            refine ⟨(fun z => by have z2 : ((v7 : Int64).toInt : Int) = 0 := cl_eq rfl rfl z; omega), ?_⟩
            refine ⟨fun c30 => ?_, fun c30 => ?_⟩
            · skip
              rw [lg_cmp_le] at c30
              have d31 : ((((2329089562800 / v7) : Int64).toInt) : Int) ≤ (30) := cl_le rfl rfl c30
              refine ⟨(fun z => by have z2 : ((v7 : Int64).toInt : Int) = 0 := cl_eq rfl rfl z; omega), ?_⟩
              refine w_X11_isIn ?_
              refine ⟨fun c32 => ?_, fun c32 => ?_⟩
              · skip
                have d33 : ((((v6 &&& (1 <<< (((Int64.toInt32 (2329089562800 / v7)) - 1) &&& 31))) : Int32).toInt) : Int) = (0) := ci_eq rfl rfl c32
                refine ⟨Or.inl rfl, ?_⟩
                intro o34
                refine ⟨fun c35 => ?_, fun c35 => ?_⟩
                · skip
                  exact hQ _ _ _ _ hB hk_39_2
                · exact absurd c35 (by decide)
              · skip
                have d36 : ¬ ((((v6 &&& (1 <<< (((Int64.toInt32 (2329089562800 / v7)) - 1) &&& 31))) : Int32).toInt) : Int) = (0) := ci_ne rfl rfl c32
                refine ⟨Or.inr rfl, ?_⟩
                intro o37
                refine ⟨fun c38 => ?_, fun c38 => ?_⟩
                · exact absurd c38 (by decide)
                · skip
                  exact hQ _ _ _ _ hB hk_39_2
            · skip
              rw [lg_cmp_le] at c30
              have d39 : ((30) : Int) < (((2329089562800 / v7) : Int64).toInt) := cl_nle rfl rfl c30
              exact hQ _ _ _ _ hB hk_39_2
  refine sg_X8_fixAt_0 hc _ _ _ _ _ _ _ _ ?_
  exact (L 1000000).1 _ _ _ _ _ hB0 rfl (by have q0 : (0 : Int32).toInt = 0 := rfl; omega) (by have q0 : (0 : Int32).toInt = 0 := rfl; omega)
set_option maxHeartbeats 2000000 in
theorem sp_X8_findAll {d : Nat} {Q : Qt} {v1 : Nat} {v2 : Int32} {v3 : Int32} {v4 : Int64} {I : Im} {J : Jm} {R : Rm} (hB0 : Bd I) (hR0 : RI R) (ho1 : isO 112 v1 10 = true) (hQ : ∀ (x : Int32) (y : Int64) (I2 : Im) (J2 : Jm), Bd I2 → (True) → Q x y I2 J2 R) : AM (d + 3) 86 112 [.ref 39, .ref v1, .int v2, .int v3, .long v4] I J R Q := by
  have i_v2 := i32 v2
  have i_v3 := i32 v3
  have i_v4 := i64 v4
  refine am_X8_findAll (fun P hc => ?_)
  have L : ∀ n : Nat, (∀ (v6 : Int32) (M : Im) (JM : Jm), Bd M → (0 ≤ v6.toInt ∧ v6.toInt ≤ 8 ∧ (M 39 2).toInt ≤ v6.toInt) → 10 - v6.toInt < (n : Int) → P 8 112 [(0, .ref 39), (1, .ref v1), (2, .int v2), (3, .int v3), (4, .long v4), (6, .int v6)] [] M JM R) := by
    intro n
    induction n with
    | zero =>
      exact fun v6 M J _ hi hm => absurd hm (by omega)
    | succ n ih =>
      intro v6 M JM hB hi hm
      have i_v2 := i32 v2
      have i_v3 := i32 v3
      have i_v4 := i64 v4
      have i_v6 := i32 v6
      refine sg_X8_findAll_8 hc _ _ _ _ _ _ _ _ ?_
      have b1 := Bd.o hB io9_112_39_8 bd9_8_2
      refine ⟨fun c2 => ?_, fun c2 => ?_⟩
      · skip
        have d3 : ((v2.toInt) : Int) ≤ (v6.toInt) := ci_le rfl rfl c2
        exact hQ _ _ _ _ hB trivial
      · skip
        have d4 : ((v6.toInt) : Int) < (v2.toInt) := ci_nle rfl rfl c2
        refine ⟨fun c5 => ?_, fun c5 => ?_⟩
        · skip
          have d6 : ((8) : Int) ≤ (v6.toInt) := ci_le rfl rfl c5
          exact hQ _ _ _ _ hB trivial
        · skip
          have d7 : ((v6.toInt) : Int) < (8) := ci_nle rfl rfl c5
          refine sp_X8_fixAt hB hR0 ho1 (fun x8 y13 I9 J10 hB11 p12 => ?_)
          have i14 := i32 x8
          refine ⟨fun c15 => ?_, fun c15 => ?_⟩
          · skip
            have d16 : ((x8.toInt) : Int) = ((-1)) := ci_eq rfl rfl c15
            have e17 : ((v6 + 1) : Int32).toInt = (v6.toInt) + (1) := ti_add rfl rfl (by omega)
            have e18 : ((I9 39 2) : Int32).toInt = (M 39 2).toInt := Eq.trans (congrArg Int32.toInt p12) rfl
            exact ih _ _ _ hB11 (by have q0 : ((v6 + 1) : Int32).toInt = (v6.toInt + 1) := e17; have q1 : ((I9 39 2) : Int32).toInt = (M 39 2).toInt := e18; omega) (by have q0 : ((v6 + 1) : Int32).toInt = (v6.toInt + 1) := e17; omega)
          · skip
            have d19 : ¬ ((x8.toInt) : Int) = ((-1)) := ci_ne rfl rfl c15
            refine bif_t ho1 ?_
            refine bif_t (fa_10_2 ho1).1 ?_
            refine ⟨by rw [(fa_10_2 ho1).2.1]; exact vp_of (a := v6.toInt) rfl (by omega) (by omega), ?_⟩
            refine ⟨fun c20 => ?_, fun c20 => ?_⟩
            · skip
              rw [lg_cmp_eq] at c20
              have d21 : ((x8.toInt) : Int) = (((J10 (v1 + 1) (Int32.toNatClampNeg v6)) : Int64).toInt) := cl_eq (tl_i2l rfl) rfl c20
              have e22 : ((v6 + 1) : Int32).toInt = (v6.toInt) + (1) := ti_add rfl rfl (by omega)
              have e23 : ((I9 39 2) : Int32).toInt = (M 39 2).toInt := Eq.trans (congrArg Int32.toInt p12) rfl
              exact ih _ _ _ hB11 (by have q0 : ((v6 + 1) : Int32).toInt = (v6.toInt + 1) := e22; have q1 : ((I9 39 2) : Int32).toInt = (M 39 2).toInt := e23; omega) (by have q0 : ((v6 + 1) : Int32).toInt = (v6.toInt + 1) := e22; omega)
            · skip
              rw [lg_cmp_eq] at c20
              have d24 : ¬ ((x8.toInt) : Int) = (((J10 (v1 + 1) (Int32.toNatClampNeg v6)) : Int64).toInt) := cl_ne (tl_i2l rfl) rfl c20
              have e25 : ((I9 39 2) : Int32).toInt = (M 39 2).toInt := Eq.trans (congrArg Int32.toInt p12) rfl
              refine ⟨vp_of (a := (M 39 2).toInt) e25 (by omega) (by omega), ?_⟩
              have hB26 : Bd (uI I9 40 (Int32.toNatClampNeg (I9 39 2)) v6) := Bd.a0 hB11 (show isA 112 40 0 = true from rfl) (show bna 40 = none from rfl)
              have e27 : (((uI I9 40 (Int32.toNatClampNeg (I9 39 2)) v6) 39 2) : Int32).toInt = (M 39 2).toInt := Eq.trans (congrArg Int32.toInt (Eq.trans (rd_ne (by first | decide | omega)) p12)) rfl
              refine ⟨vp_of (a := (M 39 2).toInt) e27 (by omega) (by omega), ?_⟩
              have hB28 : Bd (uI (uI I9 40 (Int32.toNatClampNeg (I9 39 2)) v6) 41 (Int32.toNatClampNeg ((uI I9 40 (Int32.toNatClampNeg (I9 39 2)) v6) 39 2)) x8) := Bd.a0 hB26 (show isA 112 41 0 = true from rfl) (show bna 41 = none from rfl)
              have e30 : (((uI (uI I9 40 (Int32.toNatClampNeg (I9 39 2)) v6) 41 (Int32.toNatClampNeg ((uI I9 40 (Int32.toNatClampNeg (I9 39 2)) v6) 39 2)) x8) 39 2) : Int32).toInt = (M 39 2).toInt := Eq.trans (congrArg Int32.toInt (Eq.trans (Eq.trans (rd_ne (by first | decide | omega)) (rd_ne (by first | decide | omega))) p12)) rfl
              have e31 : ((((uI (uI I9 40 (Int32.toNatClampNeg (I9 39 2)) v6) 41 (Int32.toNatClampNeg ((uI I9 40 (Int32.toNatClampNeg (I9 39 2)) v6) 39 2)) x8) 39 2) + 1) : Int32).toInt = ((M 39 2).toInt) + (1) := ti_add e30 rfl (by omega)
              have hB29 : Bd (uI (uI (uI I9 40 (Int32.toNatClampNeg (I9 39 2)) v6) 41 (Int32.toNatClampNeg ((uI I9 40 (Int32.toNatClampNeg (I9 39 2)) v6) 39 2)) x8) 39 2 (((uI (uI I9 40 (Int32.toNatClampNeg (I9 39 2)) v6) 41 (Int32.toNatClampNeg ((uI I9 40 (Int32.toNatClampNeg (I9 39 2)) v6) 39 2)) x8) 39 2) + 1)) := Bd.o1 hB28 io9_112_39_8 (by omega) bd9_8_2 (show ((((uI (uI I9 40 (Int32.toNatClampNeg (I9 39 2)) v6) 41 (Int32.toNatClampNeg ((uI I9 40 (Int32.toNatClampNeg (I9 39 2)) v6) 39 2)) x8) 39 2) + 1) : Int32).toInt = ((M 39 2).toInt + 1) from e31) (by omega)
              have e32 : ((v6 + 1) : Int32).toInt = (v6.toInt) + (1) := ti_add rfl rfl (by omega)
              have e33 : (((uI (uI (uI I9 40 (Int32.toNatClampNeg (I9 39 2)) v6) 41 (Int32.toNatClampNeg ((uI I9 40 (Int32.toNatClampNeg (I9 39 2)) v6) 39 2)) x8) 39 2 (((uI (uI I9 40 (Int32.toNatClampNeg (I9 39 2)) v6) 41 (Int32.toNatClampNeg ((uI I9 40 (Int32.toNatClampNeg (I9 39 2)) v6) 39 2)) x8) 39 2) + 1)) 39 2) : Int32).toInt = ((M 39 2).toInt + 1) := Eq.trans (congrArg Int32.toInt rd_eq) e31
              exact ih _ _ _ hB29 (by have q0 : ((v6 + 1) : Int32).toInt = (v6.toInt + 1) := e32; have q1 : (((uI (uI (uI I9 40 (Int32.toNatClampNeg (I9 39 2)) v6) 41 (Int32.toNatClampNeg ((uI I9 40 (Int32.toNatClampNeg (I9 39 2)) v6) 39 2)) x8) 39 2 (((uI (uI I9 40 (Int32.toNatClampNeg (I9 39 2)) v6) 41 (Int32.toNatClampNeg ((uI I9 40 (Int32.toNatClampNeg (I9 39 2)) v6) 39 2)) x8) 39 2) + 1)) 39 2) : Int32).toInt = ((M 39 2).toInt + 1) := e33; omega) (by have q0 : ((v6 + 1) : Int32).toInt = (v6.toInt + 1) := e32; omega)
  refine sg_X8_findAll_0 hc _ _ _ _ _ _ _ ?_
  have hB34 : Bd (uI I 39 2 0) := Bd.o1 hB0 io9_112_39_8 (by omega) bd9_8_2 (show (0 : Int32).toInt = 0 from rfl) (by omega)
  have e35 : (((uI I 39 2 0) 39 2) : Int32).toInt = 0 := Eq.trans (congrArg Int32.toInt rd_eq) rfl
  exact (L 1000000) _ _ _ hB34 (by have q0 : (0 : Int32).toInt = 0 := rfl; have q1 : (((uI I 39 2 0) 39 2) : Int32).toInt = 0 := e35; omega) (by have q0 : (0 : Int32).toInt = 0 := rfl; omega)
set_option maxHeartbeats 2000000 in
theorem sp_X9_addSlice {d : Nat} {Q : Qt} {v1 : Int32} {I : Im} {J : Jm} {R : Rm} (hB0 : Bd I) (hR0 : RI R) (hs : (I 45 1).toInt ≤ 11) (hQ : ∀ (x : Int32) (y : Int64) (I2 : Im) (J2 : Jm), Bd I2 → (True) → Q x y I2 J2 R) : AM (d + 2) 90 112 [.ref 45, .int v1] I J R Q := by
  have i_v1 := i32 v1
  refine am_X9_addSlice (fun P hc => ?_)
  have L : ∀ n : Nat, (∀ (v2 : Int32) (v3 : Int32) (M : Im) (JM : Jm), Bd M → (1 ≤ v2.toInt ∧ v2.toInt ≤ 2048 ∧ 0 ≤ v3.toInt ∧ v3.toInt ≤ v2.toInt ∧ (M 45 1).toInt ≤ 11) → 5000 - v3.toInt < (n : Int) → P 9 112 [(0, .ref 45), (1, .int v1), (2, .int v2), (3, .int v3)] [] M JM R) := by
    intro n
    induction n with
    | zero =>
      exact fun v2 v3 M J _ hi hm => absurd hm (by omega)
    | succ n ih =>
      intro v2 v3 M JM hB hi hm
      have i_v1 := i32 v1
      have i_v2 := i32 v2
      have i_v3 := i32 v3
      refine sg_X9_addSlice_9 hc _ _ _ _ _ _ ?_
      have b1 := Bd.o hB io9_112_45_9 bd9_9_1
      refine ⟨fun c2 => ?_, fun c2 => ?_⟩
      · skip
        have d3 : ((v2.toInt) : Int) ≤ (v3.toInt) := ci_le rfl rfl c2
        refine ⟨vp_of (a := (M 45 1).toInt) rfl (by omega) (by omega), ?_⟩
        have hB4 : Bd (uI M 46 (Int32.toNatClampNeg (M 45 1)) v1) := Bd.a0 hB (show isA 112 46 0 = true from rfl) (show bna 46 = none from rfl)
        have e6 : (((uI M 46 (Int32.toNatClampNeg (M 45 1)) v1) 45 1) : Int32).toInt = (M 45 1).toInt := Eq.trans (congrArg Int32.toInt (rd_ne (by first | decide | omega))) rfl
        have e7 : ((((uI M 46 (Int32.toNatClampNeg (M 45 1)) v1) 45 1) + 1) : Int32).toInt = ((M 45 1).toInt) + (1) := ti_add e6 rfl (by omega)
        have hB5 : Bd (uI (uI M 46 (Int32.toNatClampNeg (M 45 1)) v1) 45 1 (((uI M 46 (Int32.toNatClampNeg (M 45 1)) v1) 45 1) + 1)) := Bd.o1 hB4 io9_112_45_9 (by omega) bd9_9_1 (show ((((uI M 46 (Int32.toNatClampNeg (M 45 1)) v1) 45 1) + 1) : Int32).toInt = ((M 45 1).toInt + 1) from e7) (by omega)
        exact hQ _ _ _ _ hB5 trivial
      · skip
        have d8 : ((v3.toInt) : Int) < (v2.toInt) := ci_nle rfl rfl c2
        refine ⟨vp_of (a := v3.toInt) rfl (by omega) (by omega), ?_⟩
        refine w_X11_crumbs ?_
        refine ⟨fun c9 => ?_, fun c9 => ?_⟩
        · skip
          have d10 : ((1) : Int) ≤ (v1.toInt) := ci_le rfl rfl c9
          refine ⟨(fun z => by have z2 : (v1.toInt : Int) = 0 := cl_eq (tl_i2l rfl) rfl z; omega), ?_⟩
          have e11 : ((v2 + v3) : Int32).toInt = (v2.toInt) + (v3.toInt) := ti_add rfl rfl (by omega)
          refine ⟨vp_of (a := (v2.toInt + v3.toInt)) e11 (by omega) (by omega), ?_⟩
          have e12 : ((v3 + 1) : Int32).toInt = (v3.toInt) + (1) := ti_add rfl rfl (by omega)
          exact ih _ _ _ _ hB (by have q0 : (v2 : Int32).toInt = v2.toInt := rfl; have q1 : ((v3 + 1) : Int32).toInt = (v3.toInt + 1) := e12; have q2 : ((M 45 1) : Int32).toInt = (M 45 1).toInt := rfl; omega) (by have q0 : ((v3 + 1) : Int32).toInt = (v3.toInt + 1) := e12; omega)
        · skip
          have d13 : ((v1.toInt) : Int) < (1) := ci_nle rfl rfl c9
          have e14 : ((v2 + v3) : Int32).toInt = (v2.toInt) + (v3.toInt) := ti_add rfl rfl (by omega)
          refine ⟨vp_of (a := (v2.toInt + v3.toInt)) e14 (by omega) (by omega), ?_⟩
          have e15 : ((v3 + 1) : Int32).toInt = (v3.toInt) + (1) := ti_add rfl rfl (by omega)
          exact ih _ _ _ _ hB (by have q0 : (v2 : Int32).toInt = v2.toInt := rfl; have q1 : ((v3 + 1) : Int32).toInt = (v3.toInt + 1) := e15; have q2 : ((M 45 1) : Int32).toInt = (M 45 1).toInt := rfl; omega) (by have q0 : ((v3 + 1) : Int32).toInt = (v3.toInt + 1) := e15; omega)
  refine sg_X9_addSlice_0 hc _ _ _ _ ?_
  have b16 := Bd.o hB0 io9_112_45_9 bd9_9_1
  have s17 := shl1 (show ((I 45 1) : Int32).toInt = (I 45 1).toInt from rfl) (by omega)
  exact (L 1000000) _ _ _ _ hB0 (by have q0 : ((1 <<< ((I 45 1) &&& 31)) : Int32).toInt = ((1 <<< ((I 45 1) &&& 31)) : Int32).toInt := rfl; have q1 : (0 : Int32).toInt = 0 := rfl; have q2 : ((I 45 1) : Int32).toInt = (I 45 1).toInt := rfl; omega) (by have q0 : (0 : Int32).toInt = 0 := rfl; omega)
set_option maxHeartbeats 2000000 in
theorem sp_X9_lay {d : Nat} {Q : Qt} {v1 : Int32} {I : Im} {J : Jm} {R : Rm} (hB0 : Bd I) (hR0 : RI R) (hQ : ∀ (x : Int32) (y : Int64) (I2 : Im) (J2 : Jm), Bd I2 → (True) → Q x y I2 J2 R) : AM (d + 3) 89 112 [.ref 45, .int v1] I J R Q := by
  have i_v1 := i32 v1
  refine am_X9_lay (fun P hc => ?_)
  have L : ∀ n : Nat, (∀ (v2 : Int32) (M : Im) (JM : Jm), Bd M → (1 ≤ v2.toInt ∧ v2.toInt ≤ 31) → 40 - v2.toInt < (n : Int) → P 7 112 [(0, .ref 45), (1, .int v1), (2, .int v2)] [] M JM R) := by
    intro n
    induction n with
    | zero =>
      exact fun v2 M J _ hi hm => absurd hm (by omega)
    | succ n ih =>
      intro v2 M JM hB hi hm
      have i_v1 := i32 v1
      have i_v2 := i32 v2
      refine sg_X9_lay_7 hc _ _ _ _ _ ?_
      refine ⟨fun c1 => ?_, fun c1 => ?_⟩
      · skip
        have d2 : ((30) : Int) < (v2.toInt) := ci_lt rfl rfl c1
        exact hQ _ _ _ _ hB trivial
      · skip
        have d3 : ((v2.toInt) : Int) ≤ (30) := ci_nlt rfl rfl c1
        refine ⟨fun c4 => ?_, fun c4 => ?_⟩
        · skip
          have b5 := Bd.o hB io9_112_45_9 bd9_9_1
          have d6 : ((12) : Int) ≤ ((M 45 1).toInt) := ci_le rfl rfl c4
          exact hQ _ _ _ _ hB trivial
        · skip
          have b7 := Bd.o hB io9_112_45_9 bd9_9_1
          have d8 : (((M 45 1).toInt) : Int) < (12) := ci_nle rfl rfl c4
          refine w_X11_isIn ?_
          refine ⟨fun c9 => ?_, fun c9 => ?_⟩
          · skip
            have d10 : ((((v1 &&& (1 <<< ((v2 - 1) &&& 31))) : Int32).toInt) : Int) = (0) := ci_eq rfl rfl c9
            refine ⟨Or.inl rfl, ?_⟩
            intro o11
            refine ⟨fun c12 => ?_, fun c12 => ?_⟩
            · skip
              have e13 : ((v2 + 1) : Int32).toInt = (v2.toInt) + (1) := ti_add rfl rfl (by omega)
              exact ih _ _ _ hB (by have q0 : ((v2 + 1) : Int32).toInt = (v2.toInt + 1) := e13; omega) (by have q0 : ((v2 + 1) : Int32).toInt = (v2.toInt + 1) := e13; omega)
            · exact absurd c12 (by decide)
          · skip
            have d14 : ¬ ((((v1 &&& (1 <<< ((v2 - 1) &&& 31))) : Int32).toInt) : Int) = (0) := ci_ne rfl rfl c9
            refine ⟨Or.inr rfl, ?_⟩
            intro o15
            refine ⟨fun c16 => ?_, fun c16 => ?_⟩
            · exact absurd c16 (by decide)
            · skip
              refine sp_X9_addSlice hB hR0 (by have z : ((M 45 1) : Int32).toInt = (M 45 1).toInt := rfl; omega) (fun x17 y22 I18 J19 hB20 p21 => ?_)
              have e23 : ((v2 + 1) : Int32).toInt = (v2.toInt) + (1) := ti_add rfl rfl (by omega)
              exact ih _ _ _ hB20 (by have q0 : ((v2 + 1) : Int32).toInt = (v2.toInt + 1) := e23; omega) (by have q0 : ((v2 + 1) : Int32).toInt = (v2.toInt + 1) := e23; omega)
  refine sg_X9_lay_0 hc _ _ _ _ ?_
  have hB24 : Bd (uI I 45 1 0) := Bd.o1 hB0 io9_112_45_9 (by omega) bd9_9_1 (show (0 : Int32).toInt = 0 from rfl) (by omega)
  exact (L 1000000) _ _ _ hB24 (by have q0 : (1 : Int32).toInt = 1 := rfl; omega) (by have q0 : (1 : Int32).toInt = 1 := rfl; omega)
set_option maxHeartbeats 2000000 in
theorem sp_X9_winningPlace {d : Nat} {Q : Qt} {v1 : Int32} {I : Im} {J : Jm} {R : Rm} (hB0 : Bd I) (hR0 : RI R) (hv1 : 0 ≤ v1.toInt ∧ v1.toInt ≤ 4095) (hQ : ∀ (x : Int32) (y : Int64) (I2 : Im) (J2 : Jm), Bd I2 → ((x.toInt = -1 ∨ (0 ≤ x.toInt ∧ x.toInt ≤ 11))) → Q x y I2 J2 R) : AM (d + 1) 92 112 [.ref 45, .int v1] I J R Q := by
  have i_v1 := i32 v1
  refine am_X9_winningPlace (fun P hc => ?_)
  have L : ∀ n : Nat, (∀ (v2 : Int32) (M : Im) (JM : Jm), Bd M → (0 ≤ v1.toInt ∧ v1.toInt ≤ 4095 ∧ 0 ≤ v2.toInt ∧ v2.toInt ≤ 12) → 20 - v2.toInt < (n : Int) → P 2 112 [(0, .ref 45), (1, .int v1), (2, .int v2)] [] M JM R) := by
    intro n
    induction n with
    | zero =>
      exact fun v2 M J _ hi hm => absurd hm (by omega)
    | succ n ih =>
      intro v2 M JM hB hi hm
      have i_v1 := i32 v1
      have i_v2 := i32 v2
      refine sg_X9_winningPlace_2 hc _ _ _ _ _ ?_
      refine ⟨fun c1 => ?_, fun c1 => ?_⟩
      · skip
        have b2 := Bd.o hB io9_112_45_9 bd9_9_1
        have d3 : (((M 45 1).toInt) : Int) ≤ (v2.toInt) := ci_le rfl rfl c1
        exact hQ _ _ _ _ hB (by have q0 : ((-1) : Int32).toInt = (-1) := rfl; omega)
      · skip
        have b4 := Bd.o hB io9_112_45_9 bd9_9_1
        have d5 : ((v2.toInt) : Int) < ((M 45 1).toInt) := ci_nle rfl rfl c1
        refine ⟨fun c6 => ?_, fun c6 => ?_⟩
        · skip
          have s7 := shl1 (show (v2 : Int32).toInt = v2.toInt from rfl) (by omega)
          have s8 := or12 (show (v1 : Int32).toInt = v1.toInt from rfl) (show ((1 <<< (v2 &&& 31)) : Int32).toInt = ((1 <<< (v2 &&& 31)) : Int32).toInt from rfl) (by omega) (by omega)
          have d9 : ((((v1 ||| (1 <<< (v2 &&& 31))) : Int32).toInt) : Int) = (v1.toInt) := ci_eq rfl rfl c6
          have e10 : ((v2 + 1) : Int32).toInt = (v2.toInt) + (1) := ti_add rfl rfl (by omega)
          exact ih _ _ _ hB (by have q0 : ((v2 + 1) : Int32).toInt = (v2.toInt + 1) := e10; omega) (by have q0 : ((v2 + 1) : Int32).toInt = (v2.toInt + 1) := e10; omega)
        · skip
          have s11 := shl1 (show (v2 : Int32).toInt = v2.toInt from rfl) (by omega)
          have s12 := or12 (show (v1 : Int32).toInt = v1.toInt from rfl) (show ((1 <<< (v2 &&& 31)) : Int32).toInt = ((1 <<< (v2 &&& 31)) : Int32).toInt from rfl) (by omega) (by omega)
          have d13 : ¬ ((((v1 ||| (1 <<< (v2 &&& 31))) : Int32).toInt) : Int) = (v1.toInt) := ci_ne rfl rfl c6
          refine ⟨vp_of (a := ((v1 ||| (1 <<< (v2 &&& 31))) : Int32).toInt) rfl (by omega) (by omega), ?_⟩
          refine ⟨fun c14 => ?_, fun c14 => ?_⟩
          · skip
            rw [lg_cmp_gt] at c14
            have d15 : ((2329089562800) : Int) < (((JM 47 (Int32.toNatClampNeg (v1 ||| (1 <<< (v2 &&& 31))))) : Int64).toInt) := cl_lt rfl rfl c14
            have e16 : ((v2 + 1) : Int32).toInt = (v2.toInt) + (1) := ti_add rfl rfl (by omega)
            exact ih _ _ _ hB (by have q0 : ((v2 + 1) : Int32).toInt = (v2.toInt + 1) := e16; omega) (by have q0 : ((v2 + 1) : Int32).toInt = (v2.toInt + 1) := e16; omega)
          · skip
            rw [lg_cmp_gt] at c14
            have d17 : ((((JM 47 (Int32.toNatClampNeg (v1 ||| (1 <<< (v2 &&& 31))))) : Int64).toInt) : Int) ≤ (2329089562800) := cl_nlt rfl rfl c14
            refine ⟨vp_of (a := ((v1 ||| (1 <<< (v2 &&& 31))) : Int32).toInt) rfl (by omega) (by omega), ?_⟩
            refine ⟨fun c18 => ?_, fun c18 => ?_⟩
            · skip
              have d19 : ¬ (((M 48 (Int32.toNatClampNeg (v1 ||| (1 <<< (v2 &&& 31))))).toInt) : Int) = (0) := ci_ne rfl rfl c18
              have e20 : ((v2 + 1) : Int32).toInt = (v2.toInt) + (1) := ti_add rfl rfl (by omega)
              exact ih _ _ _ hB (by have q0 : ((v2 + 1) : Int32).toInt = (v2.toInt + 1) := e20; omega) (by have q0 : ((v2 + 1) : Int32).toInt = (v2.toInt + 1) := e20; omega)
            · skip
              have d21 : (((M 48 (Int32.toNatClampNeg (v1 ||| (1 <<< (v2 &&& 31))))).toInt) : Int) = (0) := ci_eq rfl rfl c18
              exact hQ _ _ _ _ hB (by have q0 : (v2 : Int32).toInt = v2.toInt := rfl; omega)
  refine sg_X9_winningPlace_0 hc _ _ _ _ ?_
  exact (L 1000000) _ _ _ hB0 (by have q0 : (0 : Int32).toInt = 0 := rfl; omega) (by have q0 : (0 : Int32).toInt = 0 := rfl; omega)
set_option maxHeartbeats 2000000 in
theorem sp_X9_firstWinning {d : Nat} {Q : Qt} {I : Im} {J : Jm} {R : Rm} (hB0 : Bd I) (hR0 : RI R) (hQ : ∀ (x : Int32) (y : Int64) (I2 : Im) (J2 : Jm), Bd I2 → ((x.toInt = -1 ∨ (0 ≤ x.toInt ∧ x.toInt ≤ 11))) → Q x y I2 J2 R) : AM (d + 2) 91 112 [.ref 45] I J R Q := by
  refine am_X9_firstWinning (fun P hc => ?_)
  have L : ∀ n : Nat, (∀ (v1 : Int32) (M : Im) (JM : Jm), Bd M → (0 ≤ v1.toInt ∧ v1.toInt ≤ 4095) → v1.toInt < (n : Int) → P 9 112 [(0, .ref 45), (1, .int v1)] [] M JM R) := by
    intro n
    induction n with
    | zero =>
      exact fun v1 M J _ hi hm => absurd hm (by omega)
    | succ n ih =>
      intro v1 M JM hB hi hm
      have i_v1 := i32 v1
      refine sg_X9_firstWinning_9 hc _ _ _ _ ?_
      refine ⟨fun c1 => ?_, fun c1 => ?_⟩
      · skip
        have d2 : ((v1.toInt) : Int) ≤ (0) := ci_le rfl rfl c1
        refine sp_X9_winningPlace hB hR0 (by have z : (0 : Int32).toInt = 0 := rfl; omega) (fun x3 y8 I4 J5 hB6 p7 => ?_)
        have q9 : (0 : Int32).toInt = 0 := rfl
        have i10 := i32 x3
        exact hQ _ _ _ _ hB6 (by have q0 : (x3 : Int32).toInt = x3.toInt := rfl; omega)
      · skip
        have d11 : ((0) : Int) < (v1.toInt) := ci_nle rfl rfl c1
        refine ⟨vp_of (a := v1.toInt) rfl (by omega) (by omega), ?_⟩
        refine ⟨fun c12 => ?_, fun c12 => ?_⟩
        · skip
          rw [lg_cmp_gt] at c12
          have d13 : ((2329089562800) : Int) < (((JM 47 (Int32.toNatClampNeg v1)) : Int64).toInt) := cl_lt rfl rfl c12
          have e14 : ((v1 + (-1)) : Int32).toInt = (v1.toInt) + ((-1)) := ti_add rfl rfl (by omega)
          exact ih _ _ _ hB (by have q0 : ((v1 + (-1)) : Int32).toInt = (v1.toInt + (-1)) := e14; omega) (by have q0 : ((v1 + (-1)) : Int32).toInt = (v1.toInt + (-1)) := e14; omega)
        · skip
          rw [lg_cmp_gt] at c12
          have d15 : ((((JM 47 (Int32.toNatClampNeg v1)) : Int64).toInt) : Int) ≤ (2329089562800) := cl_nlt rfl rfl c12
          refine sp_X9_winningPlace hB hR0 (by have z : (v1 : Int32).toInt = v1.toInt := rfl; omega) (fun x16 y21 I17 J18 hB19 p20 => ?_)
          have i22 := i32 x16
          refine ⟨fun c23 => ?_, fun c23 => ?_⟩
          · skip
            have d24 : ¬ ((x16.toInt) : Int) = ((-1)) := ci_ne rfl rfl c23
            refine ⟨vp_of (a := v1.toInt) rfl (by omega) (by omega), ?_⟩
            have hB25 : Bd (uI I17 48 (Int32.toNatClampNeg v1) (Int32.toInt8 (Int32.toInt8 1).toInt32).toInt32) := Bd.a0 hB19 (show isA 112 48 2 = true from rfl) (show bna 48 = none from rfl)
            have e26 : ((v1 + (-1)) : Int32).toInt = (v1.toInt) + ((-1)) := ti_add rfl rfl (by omega)
            exact ih _ _ _ hB25 (by have q0 : ((v1 + (-1)) : Int32).toInt = (v1.toInt + (-1)) := e26; omega) (by have q0 : ((v1 + (-1)) : Int32).toInt = (v1.toInt + (-1)) := e26; omega)
          · skip
            have d27 : ((x16.toInt) : Int) = ((-1)) := ci_eq rfl rfl c23
            refine ⟨vp_of (a := v1.toInt) rfl (by omega) (by omega), ?_⟩
            have hB28 : Bd (uI I17 48 (Int32.toNatClampNeg v1) (Int32.toInt8 (Int32.toInt8 0).toInt32).toInt32) := Bd.a0 hB19 (show isA 112 48 2 = true from rfl) (show bna 48 = none from rfl)
            have e29 : ((v1 + (-1)) : Int32).toInt = (v1.toInt) + ((-1)) := ti_add rfl rfl (by omega)
            exact ih _ _ _ hB28 (by have q0 : ((v1 + (-1)) : Int32).toInt = (v1.toInt + (-1)) := e29; omega) (by have q0 : ((v1 + (-1)) : Int32).toInt = (v1.toInt + (-1)) := e29; omega)
  refine sg_X9_firstWinning_0 hc _ _ _ ?_
  have b30 := Bd.o hB0 io9_112_45_9 bd9_9_1
  have s31 := shl1 (show ((I 45 1) : Int32).toInt = (I 45 1).toInt from rfl) (by omega)
  have e32 : (((1 <<< ((I 45 1) &&& 31)) - 1) : Int32).toInt = (((1 <<< ((I 45 1) &&& 31)) : Int32).toInt) - (1) := ti_sub rfl rfl (by omega)
  exact (L 1000000) _ _ _ hB0 (by have q0 : (((1 <<< ((I 45 1) &&& 31)) - 1) : Int32).toInt = (((1 <<< ((I 45 1) &&& 31)) : Int32).toInt - 1) := e32; omega) (by have q0 : (((1 <<< ((I 45 1) &&& 31)) - 1) : Int32).toInt = (((1 <<< ((I 45 1) &&& 31)) : Int32).toInt - 1) := e32; omega)
