section PT10x0

set_option maxHeartbeats 2000000 in
theorem sp_X12_whyNoRow {d : Nat} {Q : Qt} {v1 : Int32} {v2 : Int32} {v3 : Int32} {v4 : Int32} {I : Im} {J : Jm} {R : Rm} (hB0 : Bd I) (hR0 : RI R) (hQ : ∀ (x : Int32) (y : Int64) (I2 : Im) (J2 : Jm), Bd I2 → (I = I2 ∧ (0 ≤ x.toInt ∧ (x.toInt = 0 → 0 ≤ v1.toInt ∧ v1.toInt ≤ 3 ∧ 1 ≤ v2.toInt ∧ v2.toInt ≤ 8 ∧ 1 ≤ v4.toInt ∧ v4.toInt ≤ 30))) → Q x y I2 J2 R) : AM (d + 3) 283 112 [.ref 97, .int v1, .int v2, .int v3, .int v4] I J R Q := by
  have i_v1 := i32 v1
  have i_v2 := i32 v2
  have i_v3 := i32 v3
  have i_v4 := i32 v4
  refine am_X12_whyNoRow (fun P hc => ?_)
  have L : ∀ n : Nat, (∀ (v5 : Int32) (M : Im) (JM : Jm), Bd M → I = M → (0 ≤ v1.toInt ∧ v1.toInt ≤ 3 ∧ 1 ≤ v2.toInt ∧ v2.toInt ≤ 8 ∧ 0 ≤ v5.toInt ∧ v5.toInt ≤ 8 ∧ 1 ≤ v4.toInt ∧ v4.toInt ≤ 30) → 20 - v5.toInt < (n : Int) → P 59 112 [(0, .ref 97), (1, .int v1), (2, .int v2), (5, .int v5)] [] M JM R) := by
    intro n
    induction n with
    | zero =>
      exact fun v5 M J _ _ hi hm => absurd hm (by omega)
    | succ n ih =>
      intro v5 M JM hB hM hi hm
      have i_v1 := i32 v1
      have i_v2 := i32 v2
      have i_v5 := i32 v5
      refine sg_X12_whyNoRow_59 hc _ _ _ _ _ _ ?_
      subst hM
      refine ⟨fun c1 => ?_, fun c1 => ?_⟩
      · skip
        have d2 : ((v2.toInt) : Int) ≤ (v5.toInt) := ci_le rfl rfl c1
        exact hQ _ _ _ _ hB0 ⟨rfl, (by have q0 : (0 : Int32).toInt = 0 := rfl; omega)⟩
      · skip
        have d3 : ((v5.toInt) : Int) < (v2.toInt) := ci_nle rfl rfl c1
        refine w_X12_numberOf ?_
        have e4 : ((60 * v1) : Int32).toInt = (60) * (v1.toInt) := ti_mul rfl rfl (by omega)
        have e5 : (((60 * v1) + v5) : Int32).toInt = ((60 * v1.toInt)) + (v5.toInt) := ti_add e4 rfl (by omega)
        refine ⟨vp_of (a := ((60 * v1.toInt) + v5.toInt)) e5 (by omega) (by omega), ?_⟩
        refine w_X12_isIn ?_
        refine ⟨fun c6 => ?_, fun c6 => ?_⟩
        · skip
          rw [lg_cmp_lt] at c6
          have d7 : ((((JM 100 (Int32.toNatClampNeg ((60 * v1) + v5))) : Int64).toInt) : Int) < (1) := cl_lt rfl rfl c6
          refine ⟨Or.inl rfl, ?_⟩
          intro o8
          refine ⟨fun c9 => ?_, fun c9 => ?_⟩
          · exact absurd c9 (by decide)
          · skip
            exact hQ _ _ _ _ hB0 ⟨rfl, (by have q0 : (5 : Int32).toInt = 5 := rfl; omega)⟩
        · skip
          rw [lg_cmp_lt] at c6
          have d10 : ((1) : Int) ≤ (((JM 100 (Int32.toNatClampNeg ((60 * v1) + v5))) : Int64).toInt) := cl_nlt rfl rfl c6
          refine ⟨fun c11 => ?_, fun c11 => ?_⟩
          · skip
            rw [lg_cmp_gt] at c11
            have d12 : ((30) : Int) < (((JM 100 (Int32.toNatClampNeg ((60 * v1) + v5))) : Int64).toInt) := cl_lt rfl rfl c11
            refine ⟨Or.inl rfl, ?_⟩
            intro o13
            refine ⟨fun c14 => ?_, fun c14 => ?_⟩
            · exact absurd c14 (by decide)
            · skip
              exact hQ _ _ _ _ hB0 ⟨rfl, (by have q0 : (5 : Int32).toInt = 5 := rfl; omega)⟩
          · skip
            rw [lg_cmp_gt] at c11
            have d15 : ((((JM 100 (Int32.toNatClampNeg ((60 * v1) + v5))) : Int64).toInt) : Int) ≤ (30) := cl_nlt rfl rfl c11
            refine ⟨Or.inr rfl, ?_⟩
            intro o16
            refine ⟨fun c17 => ?_, fun c17 => ?_⟩
            · skip
              have e18 : ((v5 + 1) : Int32).toInt = (v5.toInt) + (1) := ti_add rfl rfl (by omega)
              exact ih _ _ _ hB0 rfl (by have q0 : ((v5 + 1) : Int32).toInt = (v5.toInt + 1) := e18; omega) (by have q0 : ((v5 + 1) : Int32).toInt = (v5.toInt + 1) := e18; omega)
            · exact absurd c17 (by decide)
  refine sg_X12_whyNoRow_0 hc _ _ _ _ _ _ _ ?_
  refine w_X12_isTray ?_
  refine w_X12_isIn ?_
  refine ⟨fun c19 => ?_, fun c19 => ?_⟩
  · skip
    rw [lg_cmp_lt] at c19
    have d20 : ((v1.toInt) : Int) < (0) := cl_lt (tl_i2l rfl) rfl c19
    refine ⟨Or.inl rfl, ?_⟩
    intro o21
    refine ⟨Or.inl rfl, ?_⟩
    intro o22
    refine ⟨fun c23 => ?_, fun c23 => ?_⟩
    · exact absurd c23 (by decide)
    · skip
      exact hQ _ _ _ _ hB0 ⟨rfl, (by have q0 : (1 : Int32).toInt = 1 := rfl; omega)⟩
  · skip
    rw [lg_cmp_lt] at c19
    have d24 : ((0) : Int) ≤ (v1.toInt) := cl_nlt (tl_i2l rfl) rfl c19
    refine ⟨fun c25 => ?_, fun c25 => ?_⟩
    · skip
      rw [lg_cmp_gt] at c25
      have d26 : ((3) : Int) < (v1.toInt) := cl_lt rfl (tl_i2l rfl) c25
      refine ⟨Or.inl rfl, ?_⟩
      intro o27
      refine ⟨Or.inl rfl, ?_⟩
      intro o28
      refine ⟨fun c29 => ?_, fun c29 => ?_⟩
      · exact absurd c29 (by decide)
      · skip
        exact hQ _ _ _ _ hB0 ⟨rfl, (by have q0 : (1 : Int32).toInt = 1 := rfl; omega)⟩
    · skip
      rw [lg_cmp_gt] at c25
      have d30 : ((v1.toInt) : Int) ≤ (3) := cl_nlt rfl (tl_i2l rfl) c25
      refine ⟨Or.inr rfl, ?_⟩
      intro o31
      refine ⟨Or.inr rfl, ?_⟩
      intro o32
      refine ⟨fun c33 => ?_, fun c33 => ?_⟩
      · skip
        refine ⟨vp_of (a := v1.toInt) rfl (by omega) (by omega), ?_⟩
        refine ⟨fun c34 => ?_, fun c34 => ?_⟩
        · skip
          have b35 := Bd.a hB0 (Int32.toNatClampNeg v1) (show bna 99 = some _ from rfl)
          have d36 : ((0) : Int) ≤ ((I 99 (Int32.toNatClampNeg v1)).toInt) := ci_le rfl rfl c34
          refine ⟨vp_of (a := v1.toInt) rfl (by omega) (by omega), ?_⟩
          refine ⟨fun c37 => ?_, fun c37 => ?_⟩
          · skip
            have d38 : ((v2.toInt) : Int) ≤ ((I 99 (Int32.toNatClampNeg v1)).toInt) := ci_le rfl rfl c37
            refine w_X12_isIn ?_
            refine ⟨fun c39 => ?_, fun c39 => ?_⟩
            · skip
              rw [lg_cmp_lt] at c39
              have d40 : ((v2.toInt) : Int) < (1) := cl_lt (tl_i2l rfl) rfl c39
              refine ⟨Or.inl rfl, ?_⟩
              intro o41
              refine ⟨fun c42 => ?_, fun c42 => ?_⟩
              · skip
                exact hQ _ _ _ _ hB0 ⟨rfl, (by have q0 : (5 : Int32).toInt = 5 := rfl; omega)⟩
              · exact absurd c42 (by decide)
            · skip
              rw [lg_cmp_lt] at c39
              have d43 : ((1) : Int) ≤ (v2.toInt) := cl_nlt (tl_i2l rfl) rfl c39
              refine ⟨fun c44 => ?_, fun c44 => ?_⟩
              · skip
                rw [lg_cmp_gt] at c44
                have d45 : ((8) : Int) < (v2.toInt) := cl_lt rfl (tl_i2l rfl) c44
                refine ⟨Or.inl rfl, ?_⟩
                intro o46
                refine ⟨fun c47 => ?_, fun c47 => ?_⟩
                · skip
                  exact hQ _ _ _ _ hB0 ⟨rfl, (by have q0 : (5 : Int32).toInt = 5 := rfl; omega)⟩
                · exact absurd c47 (by decide)
              · skip
                rw [lg_cmp_gt] at c44
                have d48 : ((v2.toInt) : Int) ≤ (8) := cl_nlt rfl (tl_i2l rfl) c44
                refine ⟨Or.inr rfl, ?_⟩
                intro o49
                refine ⟨fun c50 => ?_, fun c50 => ?_⟩
                · exact absurd c50 (by decide)
                · skip
                  refine w_X12_isShare ?_
                  refine w_X12_isIn ?_
                  refine ⟨fun c51 => ?_, fun c51 => ?_⟩
                  · skip
                    rw [lg_cmp_lt] at c51
                    have d52 : ((v3.toInt) : Int) < (1) := cl_lt (tl_i2l rfl) rfl c51
                    refine ⟨Or.inl rfl, ?_⟩
                    intro o53
                    refine ⟨fun c54 => ?_, fun c54 => ?_⟩
                    · skip
                      refine ⟨Or.inl rfl, ?_⟩
                      intro o55
                      refine ⟨fun c56 => ?_, fun c56 => ?_⟩
                      · exact absurd c56 (by decide)
                      · skip
                        exact hQ _ _ _ _ hB0 ⟨rfl, (by have q0 : (5 : Int32).toInt = 5 := rfl; omega)⟩
                    · exact absurd c54 (by decide)
                  · skip
                    rw [lg_cmp_lt] at c51
                    have d57 : ((1) : Int) ≤ (v3.toInt) := cl_nlt (tl_i2l rfl) rfl c51
                    refine ⟨fun c58 => ?_, fun c58 => ?_⟩
                    · skip
                      rw [lg_cmp_gt] at c58
                      have d59 : ((99) : Int) < (v3.toInt) := cl_lt rfl (tl_i2l rfl) c58
                      refine ⟨Or.inl rfl, ?_⟩
                      intro o60
                      refine ⟨fun c61 => ?_, fun c61 => ?_⟩
                      · skip
                        refine ⟨Or.inl rfl, ?_⟩
                        intro o62
                        refine ⟨fun c63 => ?_, fun c63 => ?_⟩
                        · exact absurd c63 (by decide)
                        · skip
                          exact hQ _ _ _ _ hB0 ⟨rfl, (by have q0 : (5 : Int32).toInt = 5 := rfl; omega)⟩
                      · exact absurd c61 (by decide)
                    · skip
                      rw [lg_cmp_gt] at c58
                      have d64 : ((v3.toInt) : Int) ≤ (99) := cl_nlt rfl (tl_i2l rfl) c58
                      refine ⟨Or.inr rfl, ?_⟩
                      intro o65
                      refine ⟨fun c66 => ?_, fun c66 => ?_⟩
                      · exact absurd c66 (by decide)
                      · skip
                        refine w_X12_isIn ?_
                        refine ⟨fun c67 => ?_, fun c67 => ?_⟩
                        · skip
                          rw [lg_cmp_lt] at c67
                          have d68 : ((v4.toInt) : Int) < (1) := cl_lt (tl_i2l rfl) rfl c67
                          refine ⟨Or.inl rfl, ?_⟩
                          intro o69
                          refine ⟨fun c70 => ?_, fun c70 => ?_⟩
                          · skip
                            refine ⟨Or.inl rfl, ?_⟩
                            intro o71
                            refine ⟨fun c72 => ?_, fun c72 => ?_⟩
                            · exact absurd c72 (by decide)
                            · skip
                              exact hQ _ _ _ _ hB0 ⟨rfl, (by have q0 : (5 : Int32).toInt = 5 := rfl; omega)⟩
                          · exact absurd c70 (by decide)
                        · skip
                          rw [lg_cmp_lt] at c67
                          have d73 : ((1) : Int) ≤ (v4.toInt) := cl_nlt (tl_i2l rfl) rfl c67
                          refine ⟨fun c74 => ?_, fun c74 => ?_⟩
                          · skip
                            rw [lg_cmp_gt] at c74
                            have d75 : ((30) : Int) < (v4.toInt) := cl_lt rfl (tl_i2l rfl) c74
                            refine ⟨Or.inl rfl, ?_⟩
                            intro o76
                            refine ⟨fun c77 => ?_, fun c77 => ?_⟩
                            · skip
                              refine ⟨Or.inl rfl, ?_⟩
                              intro o78
                              refine ⟨fun c79 => ?_, fun c79 => ?_⟩
                              · exact absurd c79 (by decide)
                              · skip
                                exact hQ _ _ _ _ hB0 ⟨rfl, (by have q0 : (5 : Int32).toInt = 5 := rfl; omega)⟩
                            · exact absurd c77 (by decide)
                          · skip
                            rw [lg_cmp_gt] at c74
                            have d80 : ((v4.toInt) : Int) ≤ (30) := cl_nlt rfl (tl_i2l rfl) c74
                            refine ⟨Or.inr rfl, ?_⟩
                            intro o81
                            refine ⟨fun c82 => ?_, fun c82 => ?_⟩
                            · exact absurd c82 (by decide)
                            · skip
                              refine ⟨Or.inr rfl, ?_⟩
                              intro o83
                              refine ⟨fun c84 => ?_, fun c84 => ?_⟩
                              · skip
                                exact (L 1000000) _ _ _ hB0 rfl (by have q0 : (0 : Int32).toInt = 0 := rfl; omega) (by have q0 : (0 : Int32).toInt = 0 := rfl; omega)
                              · exact absurd c84 (by decide)
          · skip
            have d85 : (((I 99 (Int32.toNatClampNeg v1)).toInt) : Int) < (v2.toInt) := ci_nle rfl rfl c37
            exact hQ _ _ _ _ hB0 ⟨rfl, (by have q0 : (4 : Int32).toInt = 4 := rfl; omega)⟩
        · skip
          have b86 := Bd.a hB0 (Int32.toNatClampNeg v1) (show bna 99 = some _ from rfl)
          have d87 : (((I 99 (Int32.toNatClampNeg v1)).toInt) : Int) < (0) := ci_nle rfl rfl c34
          exact hQ _ _ _ _ hB0 ⟨rfl, (by have q0 : (3 : Int32).toInt = 3 := rfl; omega)⟩
      · exact absurd c33 (by decide)
set_option maxHeartbeats 2000000 in
theorem sp_X12_comesOf {d : Nat} {Q : Qt} {v0 : Int32} {v1 : Int32} {I : Im} {J : Jm} {R : Rm} (hB0 : Bd I) (hR0 : RI R) (hv0 : 1 ≤ v0.toInt ∧ v0.toInt ≤ 30) (hv1 : 1 ≤ v1.toInt ∧ v1.toInt ≤ 30) (hQ : ∀ (x : Int32) (y : Int64) (I2 : Im) (J2 : Jm), Bd I2 → (I = I2 ∧ ((x.toInt = 0 → ¬ CO v0 v1) ∧ (¬ x.toInt = 0 → CO v0 v1))) → Q x y I2 J2 R) : AM (d + 2) 288 112 [.int v0, .int v1] I J R Q := by
  have i_v0 := i32 v0
  have i_v1 := i32 v1
  refine am_X12_comesOf (fun P hc => ?_)
  have L : ∀ n : Nat, (∀ (M : Im) (JM : Jm), Bd M → I = M → (¬ (¬ v1 ≤ v0 ∧ v1 - v1 / v0 * v0 = 0)) → (True) → 1000 < (n : Int) → P 13 112 [(0, .int v0), (1, .int v1)] [] M JM R) ∧ (∀ (v2 : Int32) (M : Im) (JM : Jm), Bd M → I = M → (CF v0 v1 v2.toInt) → (¬ (¬ v1 ≤ v0 ∧ v1 - v1 / v0 * v0 = 0)) → (1 ≤ v2.toInt ∧ v2.toInt ≤ 31) → 40 - v2.toInt < (n : Int) → P 15 112 [(0, .int v0), (1, .int v1), (2, .int v2)] [] M JM R) := by
    intro n
    induction n with
    | zero =>
      exact ⟨fun  M J _ _ _ hi hm => absurd hm (by omega), fun v2 M J _ _ _ _ hi hm => absurd hm (by omega)⟩
    | succ n ih =>
      refine ⟨?_, ?_⟩
      · skip
        intro  M JM hB hM hq_0 hi hm
        have i_v0 := i32 v0
        have i_v1 := i32 v1
        refine sg_X12_comesOf_13 hc _ _ _ _ _ ?_
        subst hM
        have hv1 : CF v0 v1 (1 : Int32).toInt := (CF.zero (Int.le_refl 1))
        have hv2 : ¬ (¬ v1 ≤ v0 ∧ v1 - v1 / v0 * v0 = 0) := hq_0
        exact ih.2 _ _ _ hB0 rfl hv1 hv2 (by have q0 : (1 : Int32).toInt = 1 := rfl; omega) (by have q0 : (1 : Int32).toInt = 1 := rfl; omega)
      · skip
        intro v2 M JM hB hM hq_0 hq_1 hi hm
        have i_v0 := i32 v0
        have i_v1 := i32 v1
        have i_v2 := i32 v2
        refine sg_X12_comesOf_15 hc _ _ _ _ _ _ ?_
        subst hM
        refine ⟨fun c3 => ?_, fun c3 => ?_⟩
        · skip
          have d4 : ((30) : Int) < (v2.toInt) := ci_lt rfl rfl c3
          refine ⟨Or.inl rfl, ?_⟩
          exact hQ _ _ _ _ hB0 ⟨rfl, ⟨fun _ => CF.no hq_0 (by omega) hq_1, fun z => absurd rfl z⟩⟩
        · skip
          have d5 : ((v2.toInt) : Int) ≤ (30) := ci_nlt rfl rfl c3
          refine w_X12_partsOf ?_
          refine ⟨(fun z => by have z2 : (v1.toInt : Int) = 0 := cl_eq (tl_i2l rfl) rfl z; omega), ?_⟩
          refine w_X12_partsOf ?_
          refine ⟨(fun z => by have z2 : (v2.toInt : Int) = 0 := cl_eq (tl_i2l rfl) rfl z; omega), ?_⟩
          refine w_X12_partsOf ?_
          refine ⟨(fun z => by have z2 : (v0.toInt : Int) = 0 := cl_eq (tl_i2l rfl) rfl z; omega), ?_⟩
          refine ⟨fun c6 => ?_, fun c6 => ?_⟩
          · skip
            rw [lg_cmp_eq] at c6
            have d7 : ¬ (((((2329089562800 / (Int32.toInt64 v1)) + (2329089562800 / (Int32.toInt64 v2))) : Int64).toInt) : Int) = (((2329089562800 / (Int32.toInt64 v0)) : Int64).toInt) := cl_ne rfl rfl c6
            have e8 : ((v2 + 1) : Int32).toInt = (v2.toInt) + (1) := ti_add rfl rfl (by omega)
            have hv9 : CF v0 v1 (v2 + 1).toInt := (CF.step hq_0 (ti_add rfl rfl (by omega)) c6)
            have hv10 : ¬ (¬ v1 ≤ v0 ∧ v1 - v1 / v0 * v0 = 0) := hq_1
            exact ih.2 _ _ _ hB0 rfl hv9 hv10 (by have q0 : ((v2 + 1) : Int32).toInt = (v2.toInt + 1) := e8; omega) (by have q0 : ((v2 + 1) : Int32).toInt = (v2.toInt + 1) := e8; omega)
          · skip
            rw [lg_cmp_eq] at c6
            have d11 : (((((2329089562800 / (Int32.toInt64 v1)) + (2329089562800 / (Int32.toInt64 v2))) : Int64).toInt) : Int) = (((2329089562800 / (Int32.toInt64 v0)) : Int64).toInt) := cl_eq rfl rfl c6
            refine ⟨Or.inr rfl, ?_⟩
            exact hQ _ _ _ _ hB0 ⟨rfl, ⟨fun z => absurd z (by decide), fun _ => Or.inr ⟨v2, by omega, by omega, c6⟩⟩⟩
  refine sg_X12_comesOf_0 hc _ _ _ _ _ ?_
  refine ⟨fun c12 => ?_, fun c12 => ?_⟩
  · skip
    have d13 : ((v1.toInt) : Int) ≤ (v0.toInt) := ci_le rfl rfl c12
    have hv14 : ¬ (¬ v1 ≤ v0 ∧ v1 - v1 / v0 * v0 = 0) := (fun z => z.1 c12)
    exact (L 1000000).1 _ _ hB0 rfl hv14 trivial (by omega)
  · skip
    have d15 : ((v0.toInt) : Int) < (v1.toInt) := ci_nle rfl rfl c12
    refine ⟨(fun z => by have z2 : (v0.toInt : Int) = 0 := ci_eq rfl rfl z; omega), ?_⟩
    refine ⟨fun c16 => ?_, fun c16 => ?_⟩
    · skip
      have d17 : ¬ ((((v1 - v1 / v0 * v0) : Int32).toInt) : Int) = (0) := ci_ne rfl rfl c16
      have hv18 : ¬ (¬ v1 ≤ v0 ∧ v1 - v1 / v0 * v0 = 0) := (fun z => c16 z.2)
      exact (L 1000000).1 _ _ hB0 rfl hv18 trivial (by omega)
    · skip
      have d19 : ((((v1 - v1 / v0 * v0) : Int32).toInt) : Int) = (0) := ci_eq rfl rfl c16
      refine ⟨Or.inr rfl, ?_⟩
      exact hQ _ _ _ _ hB0 ⟨rfl, ⟨fun z => absurd z (by decide), fun _ => Or.inl ⟨c12, c16⟩⟩⟩
set_option maxHeartbeats 2000000 in
theorem sp_X12_laysReach {d : Nat} {Q : Qt} {v1 : Int32} {I : Im} {J : Jm} {R : Rm} (hB0 : Bd I) (hR0 : RI R) (hQ : ∀ (x : Int32) (y : Int64) (I2 : Im) (J2 : Jm), Bd I2 → ((RQ I2)) → Q x y I2 J2 R) : AM (d + 3) 289 112 [.ref 97, .int v1] I J R Q := by
  have i_v1 := i32 v1
  refine am_X12_laysReach (fun P hc => ?_)
  have L : ∀ n : Nat, (∀ (v2 : Int32) (M : Im) (JM : Jm), Bd M → (RZ M v2.toInt) → (0 ≤ v2.toInt ∧ v2.toInt ≤ 31) → 500000 - v2.toInt < (n : Int) → P 2 112 [(0, .ref 97), (1, .int v1), (2, .int v2)] [] M JM R) ∧ (∀ (v2 : Int32) (M : Im) (JM : Jm), Bd M → (RQ M) → (1 ≤ v2.toInt ∧ v2.toInt ≤ 30) → 200000 - 5000 * v2.toInt < (n : Int) → P 32 112 [(0, .ref 97), (2, .int v2)] [] M JM R) ∧ (∀ (v2 : Int32) (v3 : Int32) (M : Im) (JM : Jm), Bd M → (RQ M) → (1 ≤ v2.toInt ∧ v2.toInt ≤ 29 ∧ 1 ≤ v3.toInt ∧ v3.toInt ≤ 31) → 200000 - 5000 * v2.toInt - 1 - 100 * v3.toInt < (n : Int) → P 40 112 [(0, .ref 97), (2, .int v2), (3, .int v3)] [] M JM R) ∧ (∀ (v2 : Int32) (v3 : Int32) (v4 : Int32) (v5 : Int32) (M : Im) (JM : Jm), Bd M → (v4 = 0 ∨ v4 = 1) → (RQ M) → (¬ v4 = 0 → (M 108 v3.toNatClampNeg).toInt < 0 ∧ ∃ e : Int32, 1 ≤ e.toInt ∧ e.toInt ≤ 30 ∧ (M 108 e.toNatClampNeg).toInt = v2.toInt - 1 ∧ CO v3 e) → (1 ≤ v2.toInt ∧ v2.toInt ≤ 29 ∧ 1 ≤ v3.toInt ∧ v3.toInt ≤ 30 ∧ 1 ≤ v5.toInt ∧ v5.toInt ≤ 31) → 200000 - 5000 * v2.toInt - 2 - 100 * v3.toInt - v5.toInt < (n : Int) → P 52 112 [(0, .ref 97), (2, .int v2), (3, .int v3), (4, .int v4), (5, .int v5)] [] M JM R) := by
    intro n
    induction n with
    | zero =>
      exact ⟨fun v2 M J _ _ hi hm => absurd hm (by omega), fun v2 M J _ _ hi hm => absurd hm (by omega), fun v2 v3 M J _ _ hi hm => absurd hm (by omega), fun v2 v3 v4 v5 M J _ _ _ _ hi hm => absurd hm (by omega)⟩
    | succ n ih =>
      refine ⟨?_, ?_, ?_, ?_⟩
      · skip
        intro v2 M JM hB hq_0 hi hm
        have i_v1 := i32 v1
        have i_v2 := i32 v2
        refine sg_X12_laysReach_2 hc _ _ _ _ _ ?_
        refine ⟨fun c1 => ?_, fun c1 => ?_⟩
        · skip
          have d2 : ((30) : Int) < (v2.toInt) := ci_lt rfl rfl c1
          have hv3 : RQ M := (RZ.rq hq_0 (by omega))
          exact ih.2.1 _ _ _ hB hv3 (by have q0 : (1 : Int32).toInt = 1 := rfl; omega) (by have q0 : (1 : Int32).toInt = 1 := rfl; omega)
        · skip
          have d4 : ((v2.toInt) : Int) ≤ (30) := ci_nlt rfl rfl c1
          refine ⟨fun c5 => ?_, fun c5 => ?_⟩
          · skip
            have d6 : ¬ ((v2.toInt) : Int) = (v1.toInt) := ci_ne rfl rfl c5
            refine ⟨vp_of (a := v2.toInt) rfl (by omega) (by omega), ?_⟩
            have hB7 : Bd (uI M 108 (Int32.toNatClampNeg v2) (-1)) := Bd.a0 hB (show isA 112 108 0 = true from rfl) (show bna 108 = none from rfl)
            have e8 : ((v2 + 1) : Int32).toInt = (v2.toInt) + (1) := ti_add rfl rfl (by omega)
            have hv9 : RZ (uI M 108 (Int32.toNatClampNeg v2) (-1)) (v2 + 1).toInt := (RZ.step hq_0 (by omega) (ti_add rfl rfl (by omega)) (by decide))
            exact ih.1 _ _ _ hB7 hv9 (by have q0 : ((v2 + 1) : Int32).toInt = (v2.toInt + 1) := e8; omega) (by have q0 : ((v2 + 1) : Int32).toInt = (v2.toInt + 1) := e8; omega)
          · skip
            have d10 : ((v2.toInt) : Int) = (v1.toInt) := ci_eq rfl rfl c5
            refine ⟨vp_of (a := v2.toInt) rfl (by omega) (by omega), ?_⟩
            have hB11 : Bd (uI M 108 (Int32.toNatClampNeg v2) 0) := Bd.a0 hB (show isA 112 108 0 = true from rfl) (show bna 108 = none from rfl)
            have e12 : ((v2 + 1) : Int32).toInt = (v2.toInt) + (1) := ti_add rfl rfl (by omega)
            have hv13 : RZ (uI M 108 (Int32.toNatClampNeg v2) 0) (v2 + 1).toInt := (RZ.step hq_0 (by omega) (ti_add rfl rfl (by omega)) (by decide))
            exact ih.1 _ _ _ hB11 hv13 (by have q0 : ((v2 + 1) : Int32).toInt = (v2.toInt + 1) := e12; omega) (by have q0 : ((v2 + 1) : Int32).toInt = (v2.toInt + 1) := e12; omega)
      · skip
        intro v2 M JM hB hq_0 hi hm
        have i_v2 := i32 v2
        refine sg_X12_laysReach_32 hc _ _ _ _ ?_
        refine ⟨fun c14 => ?_, fun c14 => ?_⟩
        · skip
          have d15 : ((30) : Int) ≤ (v2.toInt) := ci_le rfl rfl c14
          exact hQ _ _ _ _ hB hq_0
        · skip
          have d16 : ((v2.toInt) : Int) < (30) := ci_nle rfl rfl c14
          have hv17 : RQ M := hq_0
          exact ih.2.2.1 _ _ _ _ hB hv17 (by have q0 : (v2 : Int32).toInt = v2.toInt := rfl; have q1 : (1 : Int32).toInt = 1 := rfl; omega) (by have q0 : (v2 : Int32).toInt = v2.toInt := rfl; have q1 : (1 : Int32).toInt = 1 := rfl; omega)
      · skip
        intro v2 v3 M JM hB hq_0 hi hm
        have i_v2 := i32 v2
        have i_v3 := i32 v3
        refine sg_X12_laysReach_40 hc _ _ _ _ _ ?_
        refine ⟨fun c18 => ?_, fun c18 => ?_⟩
        · skip
          have d19 : ((30) : Int) < (v3.toInt) := ci_lt rfl rfl c18
          have e20 : ((v2 + 1) : Int32).toInt = (v2.toInt) + (1) := ti_add rfl rfl (by omega)
          have hv21 : RQ M := hq_0
          exact ih.2.1 _ _ _ hB hv21 (by have q0 : ((v2 + 1) : Int32).toInt = (v2.toInt + 1) := e20; omega) (by have q0 : ((v2 + 1) : Int32).toInt = (v2.toInt + 1) := e20; omega)
        · skip
          have d22 : ((v3.toInt) : Int) ≤ (30) := ci_nlt rfl rfl c18
          have hv23 : RQ M := hq_0
          have hv24 : ¬ (0 : Int32) = 0 → (M 108 v3.toNatClampNeg).toInt < 0 ∧ ∃ e : Int32, 1 ≤ e.toInt ∧ e.toInt ≤ 30 ∧ (M 108 e.toNatClampNeg).toInt = v2.toInt - 1 ∧ CO v3 e := (fun z => absurd rfl z)
          exact ih.2.2.2 _ _ _ _ _ _ hB (Or.inl rfl) hv23 hv24 (by have q0 : (v2 : Int32).toInt = v2.toInt := rfl; have q1 : (v3 : Int32).toInt = v3.toInt := rfl; have q2 : (1 : Int32).toInt = 1 := rfl; omega) (by have q0 : (v2 : Int32).toInt = v2.toInt := rfl; have q1 : (v3 : Int32).toInt = v3.toInt := rfl; have q2 : (1 : Int32).toInt = 1 := rfl; omega)
      · skip
        intro v2 v3 v4 v5 M JM hB hb_v4 hq_0 hq_1 hi hm
        have i_v2 := i32 v2
        have i_v3 := i32 v3
        have i_v4 := i32 v4
        have i_v5 := i32 v5
        refine sg_X12_laysReach_52 hc _ _ _ _ _ _ _ ?_
        refine ⟨fun c25 => ?_, fun c25 => ?_⟩
        · skip
          have d26 : ((30) : Int) < (v5.toInt) := ci_lt rfl rfl c25
          refine ⟨fun c27 => ?_, fun c27 => ?_⟩
          · skip
            have d28 : ((v4.toInt) : Int) = (0) := ci_eq rfl rfl c27
            have e29 : ((v3 + 1) : Int32).toInt = (v3.toInt) + (1) := ti_add rfl rfl (by omega)
            have hv30 : RQ M := hq_0
            exact ih.2.2.1 _ _ _ _ hB hv30 (by have q0 : (v2 : Int32).toInt = v2.toInt := rfl; have q1 : ((v3 + 1) : Int32).toInt = (v3.toInt + 1) := e29; omega) (by have q0 : (v2 : Int32).toInt = v2.toInt := rfl; have q1 : ((v3 + 1) : Int32).toInt = (v3.toInt + 1) := e29; omega)
          · skip
            have d31 : ¬ ((v4.toInt) : Int) = (0) := ci_ne rfl rfl c27
            refine ⟨vp_of (a := v3.toInt) rfl (by omega) (by omega), ?_⟩
            have hB32 : Bd (uI M 108 (Int32.toNatClampNeg v3) v2) := Bd.a0 hB (show isA 112 108 0 = true from rfl) (show bna 108 = none from rfl)
            have e33 : ((v3 + 1) : Int32).toInt = (v3.toInt) + (1) := ti_add rfl rfl (by omega)
            have hv34 : RQ (uI M 108 (Int32.toNatClampNeg v3) v2) := (RQ.set hq_0 (by omega) (hq_1 (by assumption)).1 (by omega) (hq_1 (by assumption)).2)
            exact ih.2.2.1 _ _ _ _ hB32 hv34 (by have q0 : (v2 : Int32).toInt = v2.toInt := rfl; have q1 : ((v3 + 1) : Int32).toInt = (v3.toInt + 1) := e33; omega) (by have q0 : (v2 : Int32).toInt = v2.toInt := rfl; have q1 : ((v3 + 1) : Int32).toInt = (v3.toInt + 1) := e33; omega)
        · skip
          have d35 : ((v5.toInt) : Int) ≤ (30) := ci_nlt rfl rfl c25
          refine ⟨vp_of (a := v3.toInt) rfl (by omega) (by omega), ?_⟩
          refine ⟨fun c36 => ?_, fun c36 => ?_⟩
          · skip
            have d37 : ((0) : Int) ≤ ((M 108 (Int32.toNatClampNeg v3)).toInt) := ci_le rfl rfl c36
            refine ⟨fun c38 => ?_, fun c38 => ?_⟩
            · skip
              have d39 : ((v4.toInt) : Int) = (0) := ci_eq rfl rfl c38
              have e40 : ((v3 + 1) : Int32).toInt = (v3.toInt) + (1) := ti_add rfl rfl (by omega)
              have hv41 : RQ M := hq_0
              exact ih.2.2.1 _ _ _ _ hB hv41 (by have q0 : (v2 : Int32).toInt = v2.toInt := rfl; have q1 : ((v3 + 1) : Int32).toInt = (v3.toInt + 1) := e40; omega) (by have q0 : (v2 : Int32).toInt = v2.toInt := rfl; have q1 : ((v3 + 1) : Int32).toInt = (v3.toInt + 1) := e40; omega)
            · skip
              have d42 : ¬ ((v4.toInt) : Int) = (0) := ci_ne rfl rfl c38
              refine ⟨vp_of (a := v3.toInt) rfl (by omega) (by omega), ?_⟩
              have hB43 : Bd (uI M 108 (Int32.toNatClampNeg v3) v2) := Bd.a0 hB (show isA 112 108 0 = true from rfl) (show bna 108 = none from rfl)
              have e44 : ((v3 + 1) : Int32).toInt = (v3.toInt) + (1) := ti_add rfl rfl (by omega)
              have hv45 : RQ (uI M 108 (Int32.toNatClampNeg v3) v2) := (RQ.set hq_0 (by omega) (hq_1 (by assumption)).1 (by omega) (hq_1 (by assumption)).2)
              exact ih.2.2.1 _ _ _ _ hB43 hv45 (by have q0 : (v2 : Int32).toInt = v2.toInt := rfl; have q1 : ((v3 + 1) : Int32).toInt = (v3.toInt + 1) := e44; omega) (by have q0 : (v2 : Int32).toInt = v2.toInt := rfl; have q1 : ((v3 + 1) : Int32).toInt = (v3.toInt + 1) := e44; omega)
          · skip
            have d46 : (((M 108 (Int32.toNatClampNeg v3)).toInt) : Int) < (0) := ci_nle rfl rfl c36
            refine ⟨fun c47 => ?_, fun c47 => ?_⟩
            · skip
              have d48 : ¬ ((v4.toInt) : Int) = (0) := ci_ne rfl rfl c47
              have e49 : ((v5 + 1) : Int32).toInt = (v5.toInt) + (1) := ti_add rfl rfl (by omega)
              have hv50 : RQ M := hq_0
              have hv51 : ¬ (1 : Int32) = 0 → (M 108 v3.toNatClampNeg).toInt < 0 ∧ ∃ e : Int32, 1 ≤ e.toInt ∧ e.toInt ≤ 30 ∧ (M 108 e.toNatClampNeg).toInt = v2.toInt - 1 ∧ CO v3 e := (fun _ => hq_1 c47)
              exact ih.2.2.2 _ _ _ _ _ _ hB (Or.inr rfl) hv50 hv51 (by have q0 : (v2 : Int32).toInt = v2.toInt := rfl; have q1 : (v3 : Int32).toInt = v3.toInt := rfl; have q2 : ((v5 + 1) : Int32).toInt = (v5.toInt + 1) := e49; omega) (by have q0 : (v2 : Int32).toInt = v2.toInt := rfl; have q1 : (v3 : Int32).toInt = v3.toInt := rfl; have q2 : ((v5 + 1) : Int32).toInt = (v5.toInt + 1) := e49; omega)
            · skip
              have d52 : ((v4.toInt) : Int) = (0) := ci_eq rfl rfl c47
              refine ⟨vp_of (a := v5.toInt) rfl (by omega) (by omega), ?_⟩
              refine ⟨fun c53 => ?_, fun c53 => ?_⟩
              · skip
                have e54 : ((v2 - 1) : Int32).toInt = (v2.toInt) - (1) := ti_sub rfl rfl (by omega)
                have d55 : ¬ (((M 108 (Int32.toNatClampNeg v5)).toInt) : Int) = ((v2.toInt - 1)) := ci_ne rfl e54 c53
                have e56 : ((v5 + 1) : Int32).toInt = (v5.toInt) + (1) := ti_add rfl rfl (by omega)
                have hv57 : RQ M := hq_0
                have hv58 : ¬ (0 : Int32) = 0 → (M 108 v3.toNatClampNeg).toInt < 0 ∧ ∃ e : Int32, 1 ≤ e.toInt ∧ e.toInt ≤ 30 ∧ (M 108 e.toNatClampNeg).toInt = v2.toInt - 1 ∧ CO v3 e := (fun z => absurd rfl z)
                exact ih.2.2.2 _ _ _ _ _ _ hB (Or.inl rfl) hv57 hv58 (by have q0 : (v2 : Int32).toInt = v2.toInt := rfl; have q1 : (v3 : Int32).toInt = v3.toInt := rfl; have q2 : ((v5 + 1) : Int32).toInt = (v5.toInt + 1) := e56; omega) (by have q0 : (v2 : Int32).toInt = v2.toInt := rfl; have q1 : (v3 : Int32).toInt = v3.toInt := rfl; have q2 : ((v5 + 1) : Int32).toInt = (v5.toInt + 1) := e56; omega)
              · skip
                have e59 : ((v2 - 1) : Int32).toInt = (v2.toInt) - (1) := ti_sub rfl rfl (by omega)
                have d60 : (((M 108 (Int32.toNatClampNeg v5)).toInt) : Int) = ((v2.toInt - 1)) := ci_eq rfl e59 c53
                refine sp_X12_comesOf hB hR0 (by have z : (v3 : Int32).toInt = v3.toInt := rfl; omega) (by have z : (v5 : Int32).toInt = v5.toInt := rfl; omega) (fun x61 y66 I62 J63 hB64 p65 => ?_)
                intro o67
                obtain ⟨heI62, p65⟩ := p65
                subst heI62
                have i68 := i32 x61
                refine ⟨fun c69 => ?_, fun c69 => ?_⟩
                · skip
                  have d70 : ((x61.toInt) : Int) = (0) := ci_eq rfl rfl c69
                  have e71 : ((v5 + 1) : Int32).toInt = (v5.toInt) + (1) := ti_add rfl rfl (by first | (clear d46 d52 e59 p65 i68 d70; omega) | omega)
                  have hv72 : RQ M := hq_0
                  have hv73 : ¬ (0 : Int32) = 0 → (M 108 v3.toNatClampNeg).toInt < 0 ∧ ∃ e : Int32, 1 ≤ e.toInt ∧ e.toInt ≤ 30 ∧ (M 108 e.toNatClampNeg).toInt = v2.toInt - 1 ∧ CO v3 e := (fun z => absurd rfl z)
                  exact ih.2.2.2 _ _ _ _ _ _ hB (Or.inl rfl) hv72 hv73 (by have q0 : (v2 : Int32).toInt = v2.toInt := rfl; have q1 : (v3 : Int32).toInt = v3.toInt := rfl; have q2 : ((v5 + 1) : Int32).toInt = (v5.toInt + 1) := e71; omega) (by have q0 : (v2 : Int32).toInt = v2.toInt := rfl; have q1 : (v3 : Int32).toInt = v3.toInt := rfl; have q2 : ((v5 + 1) : Int32).toInt = (v5.toInt + 1) := e71; omega)
                · skip
                  have d74 : ¬ ((x61.toInt) : Int) = (0) := ci_ne rfl rfl c69
                  have e75 : ((v5 + 1) : Int32).toInt = (v5.toInt) + (1) := ti_add rfl rfl (by first | (clear d46 d52 e59 p65 i68 d74; omega) | omega)
                  have hv76 : RQ M := hq_0
                  have hv77 : ¬ (1 : Int32) = 0 → (M 108 v3.toNatClampNeg).toInt < 0 ∧ ∃ e : Int32, 1 ≤ e.toInt ∧ e.toInt ≤ 30 ∧ (M 108 e.toNatClampNeg).toInt = v2.toInt - 1 ∧ CO v3 e := (fun _ => ⟨by omega, v5, by omega, by omega, by have z1 : ((v2 - 1) : Int32).toInt = v2.toInt - 1 := ti_sub rfl rfl (by first | (clear d52 p65 i68 d74; omega) | omega); have z2 := congrArg Int32.toInt c53; omega, p65.2 (by first | (clear d52 p65 i68 d74; omega) | omega)⟩)
                  exact ih.2.2.2 _ _ _ _ _ _ hB (Or.inr rfl) hv76 hv77 (by have q0 : (v2 : Int32).toInt = v2.toInt := rfl; have q1 : (v3 : Int32).toInt = v3.toInt := rfl; have q2 : ((v5 + 1) : Int32).toInt = (v5.toInt + 1) := e75; omega) (by have q0 : (v2 : Int32).toInt = v2.toInt := rfl; have q1 : (v3 : Int32).toInt = v3.toInt := rfl; have q2 : ((v5 + 1) : Int32).toInt = (v5.toInt + 1) := e75; omega)
  refine sg_X12_laysReach_0 hc _ _ _ _ ?_
  have hv78 : RZ I (0 : Int32).toInt := (RZ.zero (Int.le_refl 0))
  exact (L 1000000).1 _ _ _ hB0 hv78 (by have q0 : (0 : Int32).toInt = 0 := rfl; omega) (by have q0 : (0 : Int32).toInt = 0 := rfl; omega)
set_option maxHeartbeats 2000000 in
theorem sp_X12_reachFrom {d : Nat} {Q : Qt} {v1 : Int32} {I : Im} {J : Jm} {R : Rm} (hB0 : Bd I) (hR0 : RI R) (hQ : ∀ (x : Int32) (y : Int64) (I2 : Im) (J2 : Jm), Bd I2 → (Fr pT I I2 ∧ ((x.toInt = -1 ∨ (1 ≤ x.toInt ∧ x.toInt ≤ 30)) ∧ RQ I2)) → Q x y I2 J2 R) : AM (d + 4) 290 112 [.ref 97, .int v1] I J R Q := by
  have i_v1 := i32 v1
  refine am_X12_reachFrom (fun P hc => ?_)
  have L : ∀ n : Nat, (∀ (v2 : Int32) (v3 : Int32) (M : Im) (JM : Jm), Bd M → Fr pT I M → (RQ M) → (1 ≤ v3.toInt ∧ v3.toInt ≤ 31 ∧ (v2.toInt = -1 ∨ (1 ≤ v2.toInt ∧ v2.toInt ≤ 30))) → 40 - v3.toInt < (n : Int) → P 9 112 [(0, .ref 97), (2, .int v2), (3, .int v3)] [] M JM R) := by
    intro n
    induction n with
    | zero =>
      exact fun v2 v3 M J _ _ _ hi hm => absurd hm (by omega)
    | succ n ih =>
      intro v2 v3 M JM hB hf hq_0 hi hm
      have i_v2 := i32 v2
      have i_v3 := i32 v3
      refine sg_X12_reachFrom_9 hc _ _ _ _ _ ?_
      refine ⟨fun c1 => ?_, fun c1 => ?_⟩
      · skip
        have d2 : ((30) : Int) < (v3.toInt) := ci_lt rfl rfl c1
        exact hQ _ _ _ _ hB ⟨hf, ⟨by omega, hq_0⟩⟩
      · skip
        have d3 : ((v3.toInt) : Int) ≤ (30) := ci_nlt rfl rfl c1
        have e4 : ((4 + v3) : Int32).toInt = (4) + (v3.toInt) := ti_add rfl rfl (by omega)
        have e5 : (((4 + v3) - 1) : Int32).toInt = ((4 + v3.toInt)) - (1) := ti_sub e4 rfl (by omega)
        refine ⟨vp_of (a := ((4 + v3.toInt) - 1)) e5 (by omega) (by omega), ?_⟩
        refine ⟨fun c6 => ?_, fun c6 => ?_⟩
        · skip
          have e7 : ((M 102 (Int32.toNatClampNeg ((4 + v3) - 1))) : Int32).toInt = (I 102 (Int32.toNatClampNeg ((4 + v3) - 1))).toInt := Eq.trans (congrArg Int32.toInt (hf.1 (Int32.toNatClampNeg ((4 + v3) - 1)) trivial)) rfl
          have d8 : (((I 102 (Int32.toNatClampNeg ((4 + v3) - 1))).toInt) : Int) ≤ (0) := ci_le e7 rfl c6
          have e9 : ((v3 + 1) : Int32).toInt = (v3.toInt) + (1) := ti_add rfl rfl (by omega)
          have hv10 : RQ M := hq_0
          exact ih _ _ _ _ hB hf hv10 (by have q0 : (v2 : Int32).toInt = v2.toInt := rfl; have q1 : ((v3 + 1) : Int32).toInt = (v3.toInt + 1) := e9; omega) (by have q0 : ((v3 + 1) : Int32).toInt = (v3.toInt + 1) := e9; omega)
        · skip
          have e11 : ((M 102 (Int32.toNatClampNeg ((4 + v3) - 1))) : Int32).toInt = (I 102 (Int32.toNatClampNeg ((4 + v3) - 1))).toInt := Eq.trans (congrArg Int32.toInt (hf.1 (Int32.toNatClampNeg ((4 + v3) - 1)) trivial)) rfl
          have d12 : ((0) : Int) < ((I 102 (Int32.toNatClampNeg ((4 + v3) - 1))).toInt) := ci_nle e11 rfl c6
          refine ⟨vp_of (a := v3.toInt) rfl (by omega) (by omega), ?_⟩
          refine ⟨fun c13 => ?_, fun c13 => ?_⟩
          · skip
            have d14 : (((M 108 (Int32.toNatClampNeg v3)).toInt) : Int) < (0) := ci_lt rfl rfl c13
            have e15 : ((v3 + 1) : Int32).toInt = (v3.toInt) + (1) := ti_add rfl rfl (by omega)
            have hv16 : RQ M := hq_0
            exact ih _ _ _ _ hB hf hv16 (by have q0 : (v2 : Int32).toInt = v2.toInt := rfl; have q1 : ((v3 + 1) : Int32).toInt = (v3.toInt + 1) := e15; omega) (by have q0 : ((v3 + 1) : Int32).toInt = (v3.toInt + 1) := e15; omega)
          · skip
            have d17 : ((0) : Int) ≤ ((M 108 (Int32.toNatClampNeg v3)).toInt) := ci_nlt rfl rfl c13
            refine ⟨fun c18 => ?_, fun c18 => ?_⟩
            · skip
              have d19 : ((v2.toInt) : Int) < (0) := ci_lt rfl rfl c18
              have e20 : ((v3 + 1) : Int32).toInt = (v3.toInt) + (1) := ti_add rfl rfl (by omega)
              have hv21 : RQ M := hq_0
              exact ih _ _ _ _ hB hf hv21 (by have q0 : (v3 : Int32).toInt = v3.toInt := rfl; have q1 : ((v3 + 1) : Int32).toInt = (v3.toInt + 1) := e20; omega) (by have q0 : ((v3 + 1) : Int32).toInt = (v3.toInt + 1) := e20; omega)
            · skip
              have d22 : ((0) : Int) ≤ (v2.toInt) := ci_nlt rfl rfl c18
              refine ⟨vp_of (a := v3.toInt) rfl (by omega) (by omega), ?_⟩
              refine ⟨vp_of (a := v2.toInt) rfl (by first | (clear d3 e4 e5 e11 d12 d17; omega) | omega) (by first | (clear d3 e4 e5 e11 d12 d17; omega) | omega), ?_⟩
              refine ⟨fun c23 => ?_, fun c23 => ?_⟩
              · skip
                have d24 : (((M 108 (Int32.toNatClampNeg v2)).toInt) : Int) ≤ ((M 108 (Int32.toNatClampNeg v3)).toInt) := ci_le rfl rfl c23
                have e25 : ((v3 + 1) : Int32).toInt = (v3.toInt) + (1) := ti_add rfl rfl (by omega)
                have hv26 : RQ M := hq_0
                exact ih _ _ _ _ hB hf hv26 (by have q0 : (v2 : Int32).toInt = v2.toInt := rfl; have q1 : ((v3 + 1) : Int32).toInt = (v3.toInt + 1) := e25; omega) (by have q0 : ((v3 + 1) : Int32).toInt = (v3.toInt + 1) := e25; omega)
              · skip
                have d27 : (((M 108 (Int32.toNatClampNeg v3)).toInt) : Int) < ((M 108 (Int32.toNatClampNeg v2)).toInt) := ci_nle rfl rfl c23
                have e28 : ((v3 + 1) : Int32).toInt = (v3.toInt) + (1) := ti_add rfl rfl (by omega)
                have hv29 : RQ M := hq_0
                exact ih _ _ _ _ hB hf hv29 (by have q0 : (v3 : Int32).toInt = v3.toInt := rfl; have q1 : ((v3 + 1) : Int32).toInt = (v3.toInt + 1) := e28; omega) (by have q0 : ((v3 + 1) : Int32).toInt = (v3.toInt + 1) := e28; omega)
  refine sg_X12_reachFrom_0 hc _ _ _ _ ?_
  refine kp102 rfl hR0 rfl (sp_X12_laysReach hB0 hR0 (fun x30 y35 I31 J32 hB33 p34 w36 => ?_))
  have f37 : Fr pT I I31 := ⟨fun j _ => congrFun w36.1 j, w36.2⟩
  have f38 : Fr pT I I31 := Fr.tr (Fr.refl _ _) f37 (fun _ _ => trivial)
  have hv39 : RQ I31 := p34
  exact (L 1000000) _ _ _ _ hB33 f38 hv39 (by have q0 : ((-1) : Int32).toInt = (-1) := rfl; have q1 : (1 : Int32).toInt = 1 := rfl; omega) (by have q0 : (1 : Int32).toInt = 1 := rfl; omega)
set_option maxHeartbeats 2000000 in
theorem sp_X12_reach {d : Nat} {Q : Qt} {v1 : Int32} {I : Im} {J : Jm} {R : Rm} (hB0 : Bd I) (hR0 : RI R) (hQ : ∀ (x : Int32) (y : Int64) (I2 : Im) (J2 : Jm), Bd I2 → (Fr pT I I2) → Q x y I2 J2 R) : AM (d + 5) 291 112 [.ref 97, .int v1] I J R Q := by
  have i_v1 := i32 v1
  refine w_X12_reach ?_
  have hB1 : Bd (uI I 97 1 0) := Bd.o0 hB0 io9_112_97_12 (by decide) bd9_12_1
  have f2 : Fr pT I (uI I 97 1 0) := Fr.o (Fr.refl _ _) (by decide) (by decide)
  have hB3 : Bd (uI (uI I 97 1 0) 97 0 0) := Bd.o0 hB1 io9_112_97_12 (by decide) bd9_12_0
  have f4 : Fr pT I (uI (uI I 97 1 0) 97 0 0) := Fr.o f2 (by decide) (by decide)
  refine w_X12_isSlice ?_
  refine w_X12_isIn ?_
  refine ⟨fun c5 => ?_, fun c5 => ?_⟩
  · skip
    rw [lg_cmp_lt] at c5
    have d6 : ((v1.toInt) : Int) < (1) := cl_lt (tl_i2l rfl) rfl c5
    refine ⟨Or.inl rfl, ?_⟩
    intro o7
    refine ⟨Or.inl rfl, ?_⟩
    intro o8
    refine ⟨fun c9 => ?_, fun c9 => ?_⟩
    · exact absurd c9 (by decide)
    · skip
      refine w_X12_refuse ?_
      have hB10 : Bd (uI (uI (uI I 97 1 0) 97 0 0) 97 0 2) := Bd.o0 hB3 io9_112_97_12 (by decide) bd9_12_0
      have f11 : Fr pT I (uI (uI (uI I 97 1 0) 97 0 0) 97 0 2) := Fr.o f4 (by decide) (by decide)
      exact hQ _ _ _ _ hB10 f11
  · skip
    rw [lg_cmp_lt] at c5
    have d12 : ((1) : Int) ≤ (v1.toInt) := cl_nlt (tl_i2l rfl) rfl c5
    refine ⟨fun c13 => ?_, fun c13 => ?_⟩
    · skip
      rw [lg_cmp_gt] at c13
      have d14 : ((30) : Int) < (v1.toInt) := cl_lt rfl (tl_i2l rfl) c13
      refine ⟨Or.inl rfl, ?_⟩
      intro o15
      refine ⟨Or.inl rfl, ?_⟩
      intro o16
      refine ⟨fun c17 => ?_, fun c17 => ?_⟩
      · exact absurd c17 (by decide)
      · skip
        refine w_X12_refuse ?_
        have hB18 : Bd (uI (uI (uI I 97 1 0) 97 0 0) 97 0 2) := Bd.o0 hB3 io9_112_97_12 (by decide) bd9_12_0
        have f19 : Fr pT I (uI (uI (uI I 97 1 0) 97 0 0) 97 0 2) := Fr.o f4 (by decide) (by decide)
        exact hQ _ _ _ _ hB18 f19
    · skip
      rw [lg_cmp_gt] at c13
      have d20 : ((v1.toInt) : Int) ≤ (30) := cl_nlt rfl (tl_i2l rfl) c13
      refine ⟨Or.inr rfl, ?_⟩
      intro o21
      refine ⟨Or.inr rfl, ?_⟩
      intro o22
      refine ⟨fun c23 => ?_, fun c23 => ?_⟩
      · skip
        refine sp_X12_reachFrom hB3 hR0 (fun x24 y29 I25 J26 hB27 p28 => ?_)
        have f30 : Fr pT (uI (uI I 97 1 0) 97 0 0) I25 := p28.1
        have f31 : Fr pT I I25 := Fr.tr f4 f30 (fun _ _ => trivial)
        have i32 := i32 x24
        refine ⟨fun c33 => ?_, fun c33 => ?_⟩
        · skip
          have d34 : ((0) : Int) ≤ (x24.toInt) := ci_le rfl rfl c33
          refine ⟨vp_of (a := x24.toInt) rfl (by omega) (by omega), ?_⟩
          exact hQ _ _ _ _ hB27 f31
        · skip
          have d35 : ((x24.toInt) : Int) < (0) := ci_nle rfl rfl c33
          refine w_X12_refuse ?_
          have hB36 : Bd (uI I25 97 0 8) := Bd.o0 hB27 io9_112_97_12 (by decide) bd9_12_0
          have f37 : Fr pT I (uI I25 97 0 8) := Fr.o f31 (by decide) (by decide)
          exact hQ _ _ _ _ hB36 f37
      · exact absurd c23 (by decide)
end PT10x0
section PT10x1
set_option maxHeartbeats 2000000 in
theorem sp_X12_isOver {d : Nat} {Q : Qt} {v1 : Int32} {v2 : Int32} {v3 : Int32} {I : Im} {J : Jm} {R : Rm} (hB0 : Bd I) (hR0 : RI R) (hv1 : 1 ≤ v1.toInt ∧ v1.toInt ≤ 30) (hv2 : 1 ≤ v2.toInt ∧ v2.toInt ≤ 30) (hv3 : 1 ≤ v3.toInt ∧ v3.toInt ≤ 30) (hQ : ∀ (x : Int32) (y : Int64) (I2 : Im) (J2 : Jm), Bd I2 → (I = I2) → Q x y I2 J2 R) : AM (d + 1) 256 112 [.ref 97, .int v1, .int v2, .int v3] I J R Q := by
  have i_v1 := i32 v1
  have i_v2 := i32 v2
  have i_v3 := i32 v3
  refine w_X12_isOver ?_
  have e1 : ((4 + v2) : Int32).toInt = (4) + (v2.toInt) := ti_add rfl rfl (by omega)
  have e2 : (((4 + v2) - 1) : Int32).toInt = ((4 + v2.toInt)) - (1) := ti_sub e1 rfl (by omega)
  refine ⟨vp_of (a := ((4 + v2.toInt) - 1)) e2 (by omega) (by omega), ?_⟩
  refine ⟨fun c3 => ?_, fun c3 => ?_⟩
  · skip
    have d4 : ¬ ((v2.toInt) : Int) = (v3.toInt) := ci_ne rfl rfl c3
    refine ⟨fun c5 => ?_, fun c5 => ?_⟩
    · skip
      have d6 : ¬ ((v2.toInt) : Int) = (v1.toInt) := ci_ne rfl rfl c5
      have e7 : ((4 + v3) : Int32).toInt = (4) + (v3.toInt) := ti_add rfl rfl (by omega)
      have e8 : (((4 + v3) - 1) : Int32).toInt = ((4 + v3.toInt)) - (1) := ti_sub e7 rfl (by omega)
      refine ⟨vp_of (a := ((4 + v3.toInt) - 1)) e8 (by omega) (by omega), ?_⟩
      refine ⟨fun c9 => ?_, fun c9 => ?_⟩
      · skip
        have d10 : ¬ ((v2.toInt) : Int) = (v3.toInt) := ci_ne rfl rfl c9
        refine ⟨fun c11 => ?_, fun c11 => ?_⟩
        · skip
          have d12 : ¬ ((v3.toInt) : Int) = (v1.toInt) := ci_ne rfl rfl c11
          refine ⟨fun c13 => ?_, fun c13 => ?_⟩
          · skip
            have d14 : ((99) : Int) < ((((((I 102 (Int32.toNatClampNeg ((4 + v2) - 1))) + 1) + 0) - 0) : Int32).toInt) := ci_lt rfl rfl c13
            refine ⟨Or.inr rfl, ?_⟩
            exact hQ _ _ _ _ hB0 rfl
          · skip
            have d15 : (((((((I 102 (Int32.toNatClampNeg ((4 + v2) - 1))) + 1) + 0) - 0) : Int32).toInt) : Int) ≤ (99) := ci_nlt rfl rfl c13
            refine ⟨fun c16 => ?_, fun c16 => ?_⟩
            · skip
              have d17 : (((((((I 102 (Int32.toNatClampNeg ((4 + v3) - 1))) + 1) + 0) - 0) : Int32).toInt) : Int) ≤ (99) := ci_le rfl rfl c16
              refine ⟨Or.inl rfl, ?_⟩
              exact hQ _ _ _ _ hB0 rfl
            · skip
              have d18 : ((99) : Int) < ((((((I 102 (Int32.toNatClampNeg ((4 + v3) - 1))) + 1) + 0) - 0) : Int32).toInt) := ci_nle rfl rfl c16
              refine ⟨Or.inr rfl, ?_⟩
              exact hQ _ _ _ _ hB0 rfl
        · skip
          have d19 : ((v3.toInt) : Int) = (v1.toInt) := ci_eq rfl rfl c11
          refine ⟨fun c20 => ?_, fun c20 => ?_⟩
          · skip
            have d21 : ((99) : Int) < ((((((I 102 (Int32.toNatClampNeg ((4 + v2) - 1))) + 1) + 0) - 0) : Int32).toInt) := ci_lt rfl rfl c20
            refine ⟨Or.inr rfl, ?_⟩
            exact hQ _ _ _ _ hB0 rfl
          · skip
            have d22 : (((((((I 102 (Int32.toNatClampNeg ((4 + v2) - 1))) + 1) + 0) - 0) : Int32).toInt) : Int) ≤ (99) := ci_nlt rfl rfl c20
            refine ⟨fun c23 => ?_, fun c23 => ?_⟩
            · skip
              have d24 : (((((((I 102 (Int32.toNatClampNeg ((4 + v3) - 1))) + 1) + 0) - 1) : Int32).toInt) : Int) ≤ (99) := ci_le rfl rfl c23
              refine ⟨Or.inl rfl, ?_⟩
              exact hQ _ _ _ _ hB0 rfl
            · skip
              have d25 : ((99) : Int) < ((((((I 102 (Int32.toNatClampNeg ((4 + v3) - 1))) + 1) + 0) - 1) : Int32).toInt) := ci_nle rfl rfl c23
              refine ⟨Or.inr rfl, ?_⟩
              exact hQ _ _ _ _ hB0 rfl
      · skip
        have d26 : ((v2.toInt) : Int) = (v3.toInt) := ci_eq rfl rfl c9
        refine ⟨fun c27 => ?_, fun c27 => ?_⟩
        · skip
          have d28 : ¬ ((v3.toInt) : Int) = (v1.toInt) := ci_ne rfl rfl c27
          refine ⟨fun c29 => ?_, fun c29 => ?_⟩
          · skip
            have d30 : ((99) : Int) < ((((((I 102 (Int32.toNatClampNeg ((4 + v2) - 1))) + 1) + 0) - 0) : Int32).toInt) := ci_lt rfl rfl c29
            refine ⟨Or.inr rfl, ?_⟩
            exact hQ _ _ _ _ hB0 rfl
          · skip
            have d31 : (((((((I 102 (Int32.toNatClampNeg ((4 + v2) - 1))) + 1) + 0) - 0) : Int32).toInt) : Int) ≤ (99) := ci_nlt rfl rfl c29
            refine ⟨fun c32 => ?_, fun c32 => ?_⟩
            · skip
              have d33 : (((((((I 102 (Int32.toNatClampNeg ((4 + v3) - 1))) + 1) + 1) - 0) : Int32).toInt) : Int) ≤ (99) := ci_le rfl rfl c32
              refine ⟨Or.inl rfl, ?_⟩
              exact hQ _ _ _ _ hB0 rfl
            · skip
              have d34 : ((99) : Int) < ((((((I 102 (Int32.toNatClampNeg ((4 + v3) - 1))) + 1) + 1) - 0) : Int32).toInt) := ci_nle rfl rfl c32
              refine ⟨Or.inr rfl, ?_⟩
              exact hQ _ _ _ _ hB0 rfl
        · skip
          have d35 : ((v3.toInt) : Int) = (v1.toInt) := ci_eq rfl rfl c27
          refine ⟨fun c36 => ?_, fun c36 => ?_⟩
          · skip
            have d37 : ((99) : Int) < ((((((I 102 (Int32.toNatClampNeg ((4 + v2) - 1))) + 1) + 0) - 0) : Int32).toInt) := ci_lt rfl rfl c36
            refine ⟨Or.inr rfl, ?_⟩
            exact hQ _ _ _ _ hB0 rfl
          · skip
            have d38 : (((((((I 102 (Int32.toNatClampNeg ((4 + v2) - 1))) + 1) + 0) - 0) : Int32).toInt) : Int) ≤ (99) := ci_nlt rfl rfl c36
            refine ⟨fun c39 => ?_, fun c39 => ?_⟩
            · skip
              have d40 : (((((((I 102 (Int32.toNatClampNeg ((4 + v3) - 1))) + 1) + 1) - 1) : Int32).toInt) : Int) ≤ (99) := ci_le rfl rfl c39
              refine ⟨Or.inl rfl, ?_⟩
              exact hQ _ _ _ _ hB0 rfl
            · skip
              have d41 : ((99) : Int) < ((((((I 102 (Int32.toNatClampNeg ((4 + v3) - 1))) + 1) + 1) - 1) : Int32).toInt) := ci_nle rfl rfl c39
              refine ⟨Or.inr rfl, ?_⟩
              exact hQ _ _ _ _ hB0 rfl
    · skip
      have d42 : ((v2.toInt) : Int) = (v1.toInt) := ci_eq rfl rfl c5
      have e43 : ((4 + v3) : Int32).toInt = (4) + (v3.toInt) := ti_add rfl rfl (by omega)
      have e44 : (((4 + v3) - 1) : Int32).toInt = ((4 + v3.toInt)) - (1) := ti_sub e43 rfl (by omega)
      refine ⟨vp_of (a := ((4 + v3.toInt) - 1)) e44 (by omega) (by omega), ?_⟩
      refine ⟨fun c45 => ?_, fun c45 => ?_⟩
      · skip
        have d46 : ¬ ((v2.toInt) : Int) = (v3.toInt) := ci_ne rfl rfl c45
        refine ⟨fun c47 => ?_, fun c47 => ?_⟩
        · skip
          have d48 : ¬ ((v3.toInt) : Int) = (v1.toInt) := ci_ne rfl rfl c47
          refine ⟨fun c49 => ?_, fun c49 => ?_⟩
          · skip
            have d50 : ((99) : Int) < ((((((I 102 (Int32.toNatClampNeg ((4 + v2) - 1))) + 1) + 0) - 1) : Int32).toInt) := ci_lt rfl rfl c49
            refine ⟨Or.inr rfl, ?_⟩
            exact hQ _ _ _ _ hB0 rfl
          · skip
            have d51 : (((((((I 102 (Int32.toNatClampNeg ((4 + v2) - 1))) + 1) + 0) - 1) : Int32).toInt) : Int) ≤ (99) := ci_nlt rfl rfl c49
            refine ⟨fun c52 => ?_, fun c52 => ?_⟩
            · skip
              have d53 : (((((((I 102 (Int32.toNatClampNeg ((4 + v3) - 1))) + 1) + 0) - 0) : Int32).toInt) : Int) ≤ (99) := ci_le rfl rfl c52
              refine ⟨Or.inl rfl, ?_⟩
              exact hQ _ _ _ _ hB0 rfl
            · skip
              have d54 : ((99) : Int) < ((((((I 102 (Int32.toNatClampNeg ((4 + v3) - 1))) + 1) + 0) - 0) : Int32).toInt) := ci_nle rfl rfl c52
              refine ⟨Or.inr rfl, ?_⟩
              exact hQ _ _ _ _ hB0 rfl
        · skip
          have d55 : ((v3.toInt) : Int) = (v1.toInt) := ci_eq rfl rfl c47
          refine ⟨fun c56 => ?_, fun c56 => ?_⟩
          · skip
            have d57 : ((99) : Int) < ((((((I 102 (Int32.toNatClampNeg ((4 + v2) - 1))) + 1) + 0) - 1) : Int32).toInt) := ci_lt rfl rfl c56
            refine ⟨Or.inr rfl, ?_⟩
            exact hQ _ _ _ _ hB0 rfl
          · skip
            have d58 : (((((((I 102 (Int32.toNatClampNeg ((4 + v2) - 1))) + 1) + 0) - 1) : Int32).toInt) : Int) ≤ (99) := ci_nlt rfl rfl c56
            refine ⟨fun c59 => ?_, fun c59 => ?_⟩
            · skip
              have d60 : (((((((I 102 (Int32.toNatClampNeg ((4 + v3) - 1))) + 1) + 0) - 1) : Int32).toInt) : Int) ≤ (99) := ci_le rfl rfl c59
              refine ⟨Or.inl rfl, ?_⟩
              exact hQ _ _ _ _ hB0 rfl
            · skip
              have d61 : ((99) : Int) < ((((((I 102 (Int32.toNatClampNeg ((4 + v3) - 1))) + 1) + 0) - 1) : Int32).toInt) := ci_nle rfl rfl c59
              refine ⟨Or.inr rfl, ?_⟩
              exact hQ _ _ _ _ hB0 rfl
      · skip
        have d62 : ((v2.toInt) : Int) = (v3.toInt) := ci_eq rfl rfl c45
        refine ⟨fun c63 => ?_, fun c63 => ?_⟩
        · skip
          have d64 : ¬ ((v3.toInt) : Int) = (v1.toInt) := ci_ne rfl rfl c63
          refine ⟨fun c65 => ?_, fun c65 => ?_⟩
          · skip
            have d66 : ((99) : Int) < ((((((I 102 (Int32.toNatClampNeg ((4 + v2) - 1))) + 1) + 0) - 1) : Int32).toInt) := ci_lt rfl rfl c65
            refine ⟨Or.inr rfl, ?_⟩
            exact hQ _ _ _ _ hB0 rfl
          · skip
            have d67 : (((((((I 102 (Int32.toNatClampNeg ((4 + v2) - 1))) + 1) + 0) - 1) : Int32).toInt) : Int) ≤ (99) := ci_nlt rfl rfl c65
            refine ⟨fun c68 => ?_, fun c68 => ?_⟩
            · skip
              have d69 : (((((((I 102 (Int32.toNatClampNeg ((4 + v3) - 1))) + 1) + 1) - 0) : Int32).toInt) : Int) ≤ (99) := ci_le rfl rfl c68
              refine ⟨Or.inl rfl, ?_⟩
              exact hQ _ _ _ _ hB0 rfl
            · skip
              have d70 : ((99) : Int) < ((((((I 102 (Int32.toNatClampNeg ((4 + v3) - 1))) + 1) + 1) - 0) : Int32).toInt) := ci_nle rfl rfl c68
              refine ⟨Or.inr rfl, ?_⟩
              exact hQ _ _ _ _ hB0 rfl
        · skip
          have d71 : ((v3.toInt) : Int) = (v1.toInt) := ci_eq rfl rfl c63
          refine ⟨fun c72 => ?_, fun c72 => ?_⟩
          · skip
            have d73 : ((99) : Int) < ((((((I 102 (Int32.toNatClampNeg ((4 + v2) - 1))) + 1) + 0) - 1) : Int32).toInt) := ci_lt rfl rfl c72
            refine ⟨Or.inr rfl, ?_⟩
            exact hQ _ _ _ _ hB0 rfl
          · skip
            have d74 : (((((((I 102 (Int32.toNatClampNeg ((4 + v2) - 1))) + 1) + 0) - 1) : Int32).toInt) : Int) ≤ (99) := ci_nlt rfl rfl c72
            refine ⟨fun c75 => ?_, fun c75 => ?_⟩
            · skip
              have d76 : (((((((I 102 (Int32.toNatClampNeg ((4 + v3) - 1))) + 1) + 1) - 1) : Int32).toInt) : Int) ≤ (99) := ci_le rfl rfl c75
              refine ⟨Or.inl rfl, ?_⟩
              exact hQ _ _ _ _ hB0 rfl
            · skip
              have d77 : ((99) : Int) < ((((((I 102 (Int32.toNatClampNeg ((4 + v3) - 1))) + 1) + 1) - 1) : Int32).toInt) := ci_nle rfl rfl c75
              refine ⟨Or.inr rfl, ?_⟩
              exact hQ _ _ _ _ hB0 rfl
  · skip
    have d78 : ((v2.toInt) : Int) = (v3.toInt) := ci_eq rfl rfl c3
    refine ⟨fun c79 => ?_, fun c79 => ?_⟩
    · skip
      have d80 : ¬ ((v2.toInt) : Int) = (v1.toInt) := ci_ne rfl rfl c79
      have e81 : ((4 + v3) : Int32).toInt = (4) + (v3.toInt) := ti_add rfl rfl (by omega)
      have e82 : (((4 + v3) - 1) : Int32).toInt = ((4 + v3.toInt)) - (1) := ti_sub e81 rfl (by omega)
      refine ⟨vp_of (a := ((4 + v3.toInt) - 1)) e82 (by omega) (by omega), ?_⟩
      refine ⟨fun c83 => ?_, fun c83 => ?_⟩
      · skip
        have d84 : ¬ ((v2.toInt) : Int) = (v3.toInt) := ci_ne rfl rfl c83
        refine ⟨fun c85 => ?_, fun c85 => ?_⟩
        · skip
          have d86 : ¬ ((v3.toInt) : Int) = (v1.toInt) := ci_ne rfl rfl c85
          refine ⟨fun c87 => ?_, fun c87 => ?_⟩
          · skip
            have d88 : ((99) : Int) < ((((((I 102 (Int32.toNatClampNeg ((4 + v2) - 1))) + 1) + 1) - 0) : Int32).toInt) := ci_lt rfl rfl c87
            refine ⟨Or.inr rfl, ?_⟩
            exact hQ _ _ _ _ hB0 rfl
          · skip
            have d89 : (((((((I 102 (Int32.toNatClampNeg ((4 + v2) - 1))) + 1) + 1) - 0) : Int32).toInt) : Int) ≤ (99) := ci_nlt rfl rfl c87
            refine ⟨fun c90 => ?_, fun c90 => ?_⟩
            · skip
              have d91 : (((((((I 102 (Int32.toNatClampNeg ((4 + v3) - 1))) + 1) + 0) - 0) : Int32).toInt) : Int) ≤ (99) := ci_le rfl rfl c90
              refine ⟨Or.inl rfl, ?_⟩
              exact hQ _ _ _ _ hB0 rfl
            · skip
              have d92 : ((99) : Int) < ((((((I 102 (Int32.toNatClampNeg ((4 + v3) - 1))) + 1) + 0) - 0) : Int32).toInt) := ci_nle rfl rfl c90
              refine ⟨Or.inr rfl, ?_⟩
              exact hQ _ _ _ _ hB0 rfl
        · skip
          have d93 : ((v3.toInt) : Int) = (v1.toInt) := ci_eq rfl rfl c85
          refine ⟨fun c94 => ?_, fun c94 => ?_⟩
          · skip
            have d95 : ((99) : Int) < ((((((I 102 (Int32.toNatClampNeg ((4 + v2) - 1))) + 1) + 1) - 0) : Int32).toInt) := ci_lt rfl rfl c94
            refine ⟨Or.inr rfl, ?_⟩
            exact hQ _ _ _ _ hB0 rfl
          · skip
            have d96 : (((((((I 102 (Int32.toNatClampNeg ((4 + v2) - 1))) + 1) + 1) - 0) : Int32).toInt) : Int) ≤ (99) := ci_nlt rfl rfl c94
            refine ⟨fun c97 => ?_, fun c97 => ?_⟩
            · skip
              have d98 : (((((((I 102 (Int32.toNatClampNeg ((4 + v3) - 1))) + 1) + 0) - 1) : Int32).toInt) : Int) ≤ (99) := ci_le rfl rfl c97
              refine ⟨Or.inl rfl, ?_⟩
              exact hQ _ _ _ _ hB0 rfl
            · skip
              have d99 : ((99) : Int) < ((((((I 102 (Int32.toNatClampNeg ((4 + v3) - 1))) + 1) + 0) - 1) : Int32).toInt) := ci_nle rfl rfl c97
              refine ⟨Or.inr rfl, ?_⟩
              exact hQ _ _ _ _ hB0 rfl
      · skip
        have d100 : ((v2.toInt) : Int) = (v3.toInt) := ci_eq rfl rfl c83
        refine ⟨fun c101 => ?_, fun c101 => ?_⟩
        · skip
          have d102 : ¬ ((v3.toInt) : Int) = (v1.toInt) := ci_ne rfl rfl c101
          refine ⟨fun c103 => ?_, fun c103 => ?_⟩
          · skip
            have d104 : ((99) : Int) < ((((((I 102 (Int32.toNatClampNeg ((4 + v2) - 1))) + 1) + 1) - 0) : Int32).toInt) := ci_lt rfl rfl c103
            refine ⟨Or.inr rfl, ?_⟩
            exact hQ _ _ _ _ hB0 rfl
          · skip
            have d105 : (((((((I 102 (Int32.toNatClampNeg ((4 + v2) - 1))) + 1) + 1) - 0) : Int32).toInt) : Int) ≤ (99) := ci_nlt rfl rfl c103
            refine ⟨fun c106 => ?_, fun c106 => ?_⟩
            · skip
              have d107 : (((((((I 102 (Int32.toNatClampNeg ((4 + v3) - 1))) + 1) + 1) - 0) : Int32).toInt) : Int) ≤ (99) := ci_le rfl rfl c106
              refine ⟨Or.inl rfl, ?_⟩
              exact hQ _ _ _ _ hB0 rfl
            · skip
              have d108 : ((99) : Int) < ((((((I 102 (Int32.toNatClampNeg ((4 + v3) - 1))) + 1) + 1) - 0) : Int32).toInt) := ci_nle rfl rfl c106
              refine ⟨Or.inr rfl, ?_⟩
              exact hQ _ _ _ _ hB0 rfl
        · skip
          have d109 : ((v3.toInt) : Int) = (v1.toInt) := ci_eq rfl rfl c101
          refine ⟨fun c110 => ?_, fun c110 => ?_⟩
          · skip
            have d111 : ((99) : Int) < ((((((I 102 (Int32.toNatClampNeg ((4 + v2) - 1))) + 1) + 1) - 0) : Int32).toInt) := ci_lt rfl rfl c110
            refine ⟨Or.inr rfl, ?_⟩
            exact hQ _ _ _ _ hB0 rfl
          · skip
            have d112 : (((((((I 102 (Int32.toNatClampNeg ((4 + v2) - 1))) + 1) + 1) - 0) : Int32).toInt) : Int) ≤ (99) := ci_nlt rfl rfl c110
            refine ⟨fun c113 => ?_, fun c113 => ?_⟩
            · skip
              have d114 : (((((((I 102 (Int32.toNatClampNeg ((4 + v3) - 1))) + 1) + 1) - 1) : Int32).toInt) : Int) ≤ (99) := ci_le rfl rfl c113
              refine ⟨Or.inl rfl, ?_⟩
              exact hQ _ _ _ _ hB0 rfl
            · skip
              have d115 : ((99) : Int) < ((((((I 102 (Int32.toNatClampNeg ((4 + v3) - 1))) + 1) + 1) - 1) : Int32).toInt) := ci_nle rfl rfl c113
              refine ⟨Or.inr rfl, ?_⟩
              exact hQ _ _ _ _ hB0 rfl
    · skip
      have d116 : ((v2.toInt) : Int) = (v1.toInt) := ci_eq rfl rfl c79
      have e117 : ((4 + v3) : Int32).toInt = (4) + (v3.toInt) := ti_add rfl rfl (by omega)
      have e118 : (((4 + v3) - 1) : Int32).toInt = ((4 + v3.toInt)) - (1) := ti_sub e117 rfl (by omega)
      refine ⟨vp_of (a := ((4 + v3.toInt) - 1)) e118 (by omega) (by omega), ?_⟩
      refine ⟨fun c119 => ?_, fun c119 => ?_⟩
      · skip
        have d120 : ¬ ((v2.toInt) : Int) = (v3.toInt) := ci_ne rfl rfl c119
        refine ⟨fun c121 => ?_, fun c121 => ?_⟩
        · skip
          have d122 : ¬ ((v3.toInt) : Int) = (v1.toInt) := ci_ne rfl rfl c121
          refine ⟨fun c123 => ?_, fun c123 => ?_⟩
          · skip
            have d124 : ((99) : Int) < ((((((I 102 (Int32.toNatClampNeg ((4 + v2) - 1))) + 1) + 1) - 1) : Int32).toInt) := ci_lt rfl rfl c123
            refine ⟨Or.inr rfl, ?_⟩
            exact hQ _ _ _ _ hB0 rfl
          · skip
            have d125 : (((((((I 102 (Int32.toNatClampNeg ((4 + v2) - 1))) + 1) + 1) - 1) : Int32).toInt) : Int) ≤ (99) := ci_nlt rfl rfl c123
            refine ⟨fun c126 => ?_, fun c126 => ?_⟩
            · skip
              have d127 : (((((((I 102 (Int32.toNatClampNeg ((4 + v3) - 1))) + 1) + 0) - 0) : Int32).toInt) : Int) ≤ (99) := ci_le rfl rfl c126
              refine ⟨Or.inl rfl, ?_⟩
              exact hQ _ _ _ _ hB0 rfl
            · skip
              have d128 : ((99) : Int) < ((((((I 102 (Int32.toNatClampNeg ((4 + v3) - 1))) + 1) + 0) - 0) : Int32).toInt) := ci_nle rfl rfl c126
              refine ⟨Or.inr rfl, ?_⟩
              exact hQ _ _ _ _ hB0 rfl
        · skip
          have d129 : ((v3.toInt) : Int) = (v1.toInt) := ci_eq rfl rfl c121
          refine ⟨fun c130 => ?_, fun c130 => ?_⟩
          · skip
            have d131 : ((99) : Int) < ((((((I 102 (Int32.toNatClampNeg ((4 + v2) - 1))) + 1) + 1) - 1) : Int32).toInt) := ci_lt rfl rfl c130
            refine ⟨Or.inr rfl, ?_⟩
            exact hQ _ _ _ _ hB0 rfl
          · skip
            have d132 : (((((((I 102 (Int32.toNatClampNeg ((4 + v2) - 1))) + 1) + 1) - 1) : Int32).toInt) : Int) ≤ (99) := ci_nlt rfl rfl c130
            refine ⟨fun c133 => ?_, fun c133 => ?_⟩
            · skip
              have d134 : (((((((I 102 (Int32.toNatClampNeg ((4 + v3) - 1))) + 1) + 0) - 1) : Int32).toInt) : Int) ≤ (99) := ci_le rfl rfl c133
              refine ⟨Or.inl rfl, ?_⟩
              exact hQ _ _ _ _ hB0 rfl
            · skip
              have d135 : ((99) : Int) < ((((((I 102 (Int32.toNatClampNeg ((4 + v3) - 1))) + 1) + 0) - 1) : Int32).toInt) := ci_nle rfl rfl c133
              refine ⟨Or.inr rfl, ?_⟩
              exact hQ _ _ _ _ hB0 rfl
      · skip
        have d136 : ((v2.toInt) : Int) = (v3.toInt) := ci_eq rfl rfl c119
        refine ⟨fun c137 => ?_, fun c137 => ?_⟩
        · skip
          have d138 : ¬ ((v3.toInt) : Int) = (v1.toInt) := ci_ne rfl rfl c137
          refine ⟨fun c139 => ?_, fun c139 => ?_⟩
          · skip
            have d140 : ((99) : Int) < ((((((I 102 (Int32.toNatClampNeg ((4 + v2) - 1))) + 1) + 1) - 1) : Int32).toInt) := ci_lt rfl rfl c139
            refine ⟨Or.inr rfl, ?_⟩
            exact hQ _ _ _ _ hB0 rfl
          · skip
            have d141 : (((((((I 102 (Int32.toNatClampNeg ((4 + v2) - 1))) + 1) + 1) - 1) : Int32).toInt) : Int) ≤ (99) := ci_nlt rfl rfl c139
            refine ⟨fun c142 => ?_, fun c142 => ?_⟩
            · skip
              have d143 : (((((((I 102 (Int32.toNatClampNeg ((4 + v3) - 1))) + 1) + 1) - 0) : Int32).toInt) : Int) ≤ (99) := ci_le rfl rfl c142
              refine ⟨Or.inl rfl, ?_⟩
              exact hQ _ _ _ _ hB0 rfl
            · skip
              have d144 : ((99) : Int) < ((((((I 102 (Int32.toNatClampNeg ((4 + v3) - 1))) + 1) + 1) - 0) : Int32).toInt) := ci_nle rfl rfl c142
              refine ⟨Or.inr rfl, ?_⟩
              exact hQ _ _ _ _ hB0 rfl
        · skip
          have d145 : ((v3.toInt) : Int) = (v1.toInt) := ci_eq rfl rfl c137
          refine ⟨fun c146 => ?_, fun c146 => ?_⟩
          · skip
            have d147 : ((99) : Int) < ((((((I 102 (Int32.toNatClampNeg ((4 + v2) - 1))) + 1) + 1) - 1) : Int32).toInt) := ci_lt rfl rfl c146
            refine ⟨Or.inr rfl, ?_⟩
            exact hQ _ _ _ _ hB0 rfl
          · skip
            have d148 : (((((((I 102 (Int32.toNatClampNeg ((4 + v2) - 1))) + 1) + 1) - 1) : Int32).toInt) : Int) ≤ (99) := ci_nlt rfl rfl c146
            refine ⟨fun c149 => ?_, fun c149 => ?_⟩
            · skip
              have d150 : (((((((I 102 (Int32.toNatClampNeg ((4 + v3) - 1))) + 1) + 1) - 1) : Int32).toInt) : Int) ≤ (99) := ci_le rfl rfl c149
              refine ⟨Or.inl rfl, ?_⟩
              exact hQ _ _ _ _ hB0 rfl
            · skip
              have d151 : ((99) : Int) < ((((((I 102 (Int32.toNatClampNeg ((4 + v3) - 1))) + 1) + 1) - 1) : Int32).toInt) := ci_nle rfl rfl c149
              refine ⟨Or.inr rfl, ?_⟩
              exact hQ _ _ _ _ hB0 rfl
set_option maxHeartbeats 2000000 in
theorem sp_X12_cuts {d : Nat} {Q : Qt} {v1 : Int32} {v2 : Int32} {v3 : Int32} {I : Im} {J : Jm} {R : Rm} (hB0 : Bd I) (hR0 : RI R) (hv1 : 1 ≤ v1.toInt ∧ v1.toInt ≤ 30) (hv2 : 1 ≤ v2.toInt ∧ v2.toInt ≤ 30) (hv3 : 1 ≤ v3.toInt ∧ v3.toInt ≤ 30) (hQ : ∀ (x : Int32) (y : Int64) (I2 : Im) (J2 : Jm), Bd I2 → (I2 97 43 = I 97 43 ∧ Fr pD I I2) → Q x y I2 J2 R) : AM (d + 2) 257 112 [.ref 97, .int v1, .int v2, .int v3] I J R Q := by
  have i_v1 := i32 v1
  have i_v2 := i32 v2
  have i_v3 := i32 v3
  refine w_X12_cuts ?_
  have e1 : ((4 + v1) : Int32).toInt = (4) + (v1.toInt) := ti_add rfl rfl (by omega)
  have e2 : (((4 + v1) - 1) : Int32).toInt = ((4 + v1.toInt)) - (1) := ti_sub e1 rfl (by omega)
  refine ⟨vp_of (a := ((4 + v1.toInt) - 1)) e2 (by omega) (by omega), ?_⟩
  refine ⟨fun c3 => ?_, fun c3 => ?_⟩
  · skip
    have d4 : (((I 102 (Int32.toNatClampNeg ((4 + v1) - 1))).toInt) : Int) = (0) := ci_eq rfl rfl c3
    refine ⟨Or.inl rfl, ?_⟩
    exact hQ _ _ _ _ hB0 ⟨rfl, (Fr.refl _ _)⟩
  · skip
    have d5 : ¬ (((I 102 (Int32.toNatClampNeg ((4 + v1) - 1))).toInt) : Int) = (0) := ci_ne rfl rfl c3
    refine w_X12_partsOf ?_
    refine ⟨(fun z => by have z2 : (v2.toInt : Int) = 0 := cl_eq (tl_i2l rfl) rfl z; omega), ?_⟩
    refine w_X12_partsOf ?_
    refine ⟨(fun z => by have z2 : (v3.toInt : Int) = 0 := cl_eq (tl_i2l rfl) rfl z; omega), ?_⟩
    refine w_X12_partsOf ?_
    refine ⟨(fun z => by have z2 : (v1.toInt : Int) = 0 := cl_eq (tl_i2l rfl) rfl z; omega), ?_⟩
    refine ⟨fun c6 => ?_, fun c6 => ?_⟩
    · skip
      rw [lg_cmp_eq] at c6
      have d7 : ¬ (((((2329089562800 / (Int32.toInt64 v2)) + (2329089562800 / (Int32.toInt64 v3))) : Int64).toInt) : Int) = (((2329089562800 / (Int32.toInt64 v1)) : Int64).toInt) := cl_ne rfl rfl c6
      refine ⟨Or.inl rfl, ?_⟩
      exact hQ _ _ _ _ hB0 ⟨rfl, (Fr.refl _ _)⟩
    · skip
      rw [lg_cmp_eq] at c6
      have d8 : (((((2329089562800 / (Int32.toInt64 v2)) + (2329089562800 / (Int32.toInt64 v3))) : Int64).toInt) : Int) = (((2329089562800 / (Int32.toInt64 v1)) : Int64).toInt) := cl_eq rfl rfl c6
      refine sp_X12_isOver hB0 hR0 (by have z1 : (v1 : Int32).toInt = v1.toInt := rfl; omega) (by have z2 : (v2 : Int32).toInt = v2.toInt := rfl; omega) (by have z3 : (v3 : Int32).toInt = v3.toInt := rfl; omega) (fun x9 y14 I10 J11 hB12 p13 => ?_)
      intro o15
      subst p13
      have i16 := i32 x9
      refine ⟨fun c17 => ?_, fun c17 => ?_⟩
      · skip
        have d18 : ((x9.toInt) : Int) = (0) := ci_eq rfl rfl c17
        refine ⟨vp_of (a := ((4 + v1.toInt) - 1)) e2 (by omega) (by omega), ?_⟩
        refine ⟨vp_of (a := ((4 + v1.toInt) - 1)) e2 (by omega) (by omega), ?_⟩
        have hB19 : Bd (uI I 102 (Int32.toNatClampNeg ((4 + v1) - 1)) ((I 102 (Int32.toNatClampNeg ((4 + v1) - 1))) - 1)) := Bd.cfree hB0 (show (((4 + v1) - 1) : Int32).toInt = ((4 + v1.toInt) - 1) from e2) (by omega) (by omega) (by omega) (by omega)
        have f20 : Fr pD I (uI I 102 (Int32.toNatClampNeg ((4 + v1) - 1)) ((I 102 (Int32.toNatClampNeg ((4 + v1) - 1))) - 1)) := Fr.w (Fr.refl _ _) (show (((4 + v1) - 1) : Int32).toInt = ((4 + v1.toInt) - 1) from e2) (by omega) (fun j hj hp => by unfold pD at hp; omega)
        have e21 : ((4 + v2) : Int32).toInt = (4) + (v2.toInt) := ti_add rfl rfl (by first | (clear e1 e2 d5 p13 i16 d18; omega) | omega)
        have e22 : (((4 + v2) - 1) : Int32).toInt = ((4 + v2.toInt)) - (1) := ti_sub e21 rfl (by first | (clear e1 e2 d5 p13 i16 d18; omega) | omega)
        refine ⟨vp_of (a := ((4 + v2.toInt) - 1)) e22 (by first | (clear e1 e2 d5 p13 i16 d18; omega) | omega) (by first | (clear e1 e2 d5 p13 i16 d18; omega) | omega), ?_⟩
        refine ⟨vp_of (a := ((4 + v2.toInt) - 1)) e22 (by first | (clear e1 e2 d5 p13 i16 d18; omega) | omega) (by first | (clear e1 e2 d5 p13 i16 d18; omega) | omega), ?_⟩
        have hB23 : Bd (uI (uI I 102 (Int32.toNatClampNeg ((4 + v1) - 1)) ((I 102 (Int32.toNatClampNeg ((4 + v1) - 1))) - 1)) 102 (Int32.toNatClampNeg ((4 + v2) - 1)) (((uI I 102 (Int32.toNatClampNeg ((4 + v1) - 1)) ((I 102 (Int32.toNatClampNeg ((4 + v1) - 1))) - 1)) 102 (Int32.toNatClampNeg ((4 + v2) - 1))) + 1)) := Bd.cfree hB19 (show (((4 + v2) - 1) : Int32).toInt = ((4 + v2.toInt) - 1) from e22) (by omega) (by omega) (by omega) (by omega)
        have f24 : Fr pD I (uI (uI I 102 (Int32.toNatClampNeg ((4 + v1) - 1)) ((I 102 (Int32.toNatClampNeg ((4 + v1) - 1))) - 1)) 102 (Int32.toNatClampNeg ((4 + v2) - 1)) (((uI I 102 (Int32.toNatClampNeg ((4 + v1) - 1)) ((I 102 (Int32.toNatClampNeg ((4 + v1) - 1))) - 1)) 102 (Int32.toNatClampNeg ((4 + v2) - 1))) + 1)) := Fr.w f20 (show (((4 + v2) - 1) : Int32).toInt = ((4 + v2.toInt) - 1) from e22) (by omega) (fun j hj hp => by unfold pD at hp; omega)
        have e25 : ((4 + v3) : Int32).toInt = (4) + (v3.toInt) := ti_add rfl rfl (by first | (clear e1 e2 d5 p13 i16 d18 e21 e22; omega) | omega)
        have e26 : (((4 + v3) - 1) : Int32).toInt = ((4 + v3.toInt)) - (1) := ti_sub e25 rfl (by first | (clear e1 e2 d5 p13 i16 d18 e21 e22; omega) | omega)
        refine ⟨vp_of (a := ((4 + v3.toInt) - 1)) e26 (by first | (clear e1 e2 d5 p13 i16 d18 e21 e22; omega) | omega) (by first | (clear e1 e2 d5 p13 i16 d18 e21 e22; omega) | omega), ?_⟩
        refine ⟨vp_of (a := ((4 + v3.toInt) - 1)) e26 (by first | (clear e1 e2 d5 p13 i16 d18 e21 e22; omega) | omega) (by first | (clear e1 e2 d5 p13 i16 d18 e21 e22; omega) | omega), ?_⟩
        have hB27 : Bd (uI (uI (uI I 102 (Int32.toNatClampNeg ((4 + v1) - 1)) ((I 102 (Int32.toNatClampNeg ((4 + v1) - 1))) - 1)) 102 (Int32.toNatClampNeg ((4 + v2) - 1)) (((uI I 102 (Int32.toNatClampNeg ((4 + v1) - 1)) ((I 102 (Int32.toNatClampNeg ((4 + v1) - 1))) - 1)) 102 (Int32.toNatClampNeg ((4 + v2) - 1))) + 1)) 102 (Int32.toNatClampNeg ((4 + v3) - 1)) (((uI (uI I 102 (Int32.toNatClampNeg ((4 + v1) - 1)) ((I 102 (Int32.toNatClampNeg ((4 + v1) - 1))) - 1)) 102 (Int32.toNatClampNeg ((4 + v2) - 1)) (((uI I 102 (Int32.toNatClampNeg ((4 + v1) - 1)) ((I 102 (Int32.toNatClampNeg ((4 + v1) - 1))) - 1)) 102 (Int32.toNatClampNeg ((4 + v2) - 1))) + 1)) 102 (Int32.toNatClampNeg ((4 + v3) - 1))) + 1)) := Bd.cfree hB23 (show (((4 + v3) - 1) : Int32).toInt = ((4 + v3.toInt) - 1) from e26) (by omega) (by omega) (by omega) (by omega)
        have f28 : Fr pD I (uI (uI (uI I 102 (Int32.toNatClampNeg ((4 + v1) - 1)) ((I 102 (Int32.toNatClampNeg ((4 + v1) - 1))) - 1)) 102 (Int32.toNatClampNeg ((4 + v2) - 1)) (((uI I 102 (Int32.toNatClampNeg ((4 + v1) - 1)) ((I 102 (Int32.toNatClampNeg ((4 + v1) - 1))) - 1)) 102 (Int32.toNatClampNeg ((4 + v2) - 1))) + 1)) 102 (Int32.toNatClampNeg ((4 + v3) - 1)) (((uI (uI I 102 (Int32.toNatClampNeg ((4 + v1) - 1)) ((I 102 (Int32.toNatClampNeg ((4 + v1) - 1))) - 1)) 102 (Int32.toNatClampNeg ((4 + v2) - 1)) (((uI I 102 (Int32.toNatClampNeg ((4 + v1) - 1)) ((I 102 (Int32.toNatClampNeg ((4 + v1) - 1))) - 1)) 102 (Int32.toNatClampNeg ((4 + v2) - 1))) + 1)) 102 (Int32.toNatClampNeg ((4 + v3) - 1))) + 1)) := Fr.w f24 (show (((4 + v3) - 1) : Int32).toInt = ((4 + v3.toInt) - 1) from e26) (by omega) (fun j hj hp => by unfold pD at hp; omega)
        refine ⟨vp_of (a := 2) rfl (by first | (clear e1 e2 d5 d8 p13 i16 d18 e21 e22 e25 e26; omega) | omega) (by first | (clear e1 e2 d5 d8 p13 i16 d18 e21 e22 e25 e26; omega) | omega), ?_⟩
        refine ⟨vp_of (a := 2) rfl (by first | (clear e1 e2 d5 d8 p13 i16 d18 e21 e22 e25 e26; omega) | omega) (by first | (clear e1 e2 d5 d8 p13 i16 d18 e21 e22 e25 e26; omega) | omega), ?_⟩
        have hB29 : Bd (uI (uI (uI (uI I 102 (Int32.toNatClampNeg ((4 + v1) - 1)) ((I 102 (Int32.toNatClampNeg ((4 + v1) - 1))) - 1)) 102 (Int32.toNatClampNeg ((4 + v2) - 1)) (((uI I 102 (Int32.toNatClampNeg ((4 + v1) - 1)) ((I 102 (Int32.toNatClampNeg ((4 + v1) - 1))) - 1)) 102 (Int32.toNatClampNeg ((4 + v2) - 1))) + 1)) 102 (Int32.toNatClampNeg ((4 + v3) - 1)) (((uI (uI I 102 (Int32.toNatClampNeg ((4 + v1) - 1)) ((I 102 (Int32.toNatClampNeg ((4 + v1) - 1))) - 1)) 102 (Int32.toNatClampNeg ((4 + v2) - 1)) (((uI I 102 (Int32.toNatClampNeg ((4 + v1) - 1)) ((I 102 (Int32.toNatClampNeg ((4 + v1) - 1))) - 1)) 102 (Int32.toNatClampNeg ((4 + v2) - 1))) + 1)) 102 (Int32.toNatClampNeg ((4 + v3) - 1))) + 1)) 102 (Int32.toNatClampNeg 2) (((uI (uI (uI I 102 (Int32.toNatClampNeg ((4 + v1) - 1)) ((I 102 (Int32.toNatClampNeg ((4 + v1) - 1))) - 1)) 102 (Int32.toNatClampNeg ((4 + v2) - 1)) (((uI I 102 (Int32.toNatClampNeg ((4 + v1) - 1)) ((I 102 (Int32.toNatClampNeg ((4 + v1) - 1))) - 1)) 102 (Int32.toNatClampNeg ((4 + v2) - 1))) + 1)) 102 (Int32.toNatClampNeg ((4 + v3) - 1)) (((uI (uI I 102 (Int32.toNatClampNeg ((4 + v1) - 1)) ((I 102 (Int32.toNatClampNeg ((4 + v1) - 1))) - 1)) 102 (Int32.toNatClampNeg ((4 + v2) - 1)) (((uI I 102 (Int32.toNatClampNeg ((4 + v1) - 1)) ((I 102 (Int32.toNatClampNeg ((4 + v1) - 1))) - 1)) 102 (Int32.toNatClampNeg ((4 + v2) - 1))) + 1)) 102 (Int32.toNatClampNeg ((4 + v3) - 1))) + 1)) 102 (Int32.toNatClampNeg 2)) + 1)) := Bd.cfree hB27 (show (2 : Int32).toInt = 2 from rfl) (by omega) (by omega) (by omega) (by omega)
        have f30 : Fr pD I (uI (uI (uI (uI I 102 (Int32.toNatClampNeg ((4 + v1) - 1)) ((I 102 (Int32.toNatClampNeg ((4 + v1) - 1))) - 1)) 102 (Int32.toNatClampNeg ((4 + v2) - 1)) (((uI I 102 (Int32.toNatClampNeg ((4 + v1) - 1)) ((I 102 (Int32.toNatClampNeg ((4 + v1) - 1))) - 1)) 102 (Int32.toNatClampNeg ((4 + v2) - 1))) + 1)) 102 (Int32.toNatClampNeg ((4 + v3) - 1)) (((uI (uI I 102 (Int32.toNatClampNeg ((4 + v1) - 1)) ((I 102 (Int32.toNatClampNeg ((4 + v1) - 1))) - 1)) 102 (Int32.toNatClampNeg ((4 + v2) - 1)) (((uI I 102 (Int32.toNatClampNeg ((4 + v1) - 1)) ((I 102 (Int32.toNatClampNeg ((4 + v1) - 1))) - 1)) 102 (Int32.toNatClampNeg ((4 + v2) - 1))) + 1)) 102 (Int32.toNatClampNeg ((4 + v3) - 1))) + 1)) 102 (Int32.toNatClampNeg 2) (((uI (uI (uI I 102 (Int32.toNatClampNeg ((4 + v1) - 1)) ((I 102 (Int32.toNatClampNeg ((4 + v1) - 1))) - 1)) 102 (Int32.toNatClampNeg ((4 + v2) - 1)) (((uI I 102 (Int32.toNatClampNeg ((4 + v1) - 1)) ((I 102 (Int32.toNatClampNeg ((4 + v1) - 1))) - 1)) 102 (Int32.toNatClampNeg ((4 + v2) - 1))) + 1)) 102 (Int32.toNatClampNeg ((4 + v3) - 1)) (((uI (uI I 102 (Int32.toNatClampNeg ((4 + v1) - 1)) ((I 102 (Int32.toNatClampNeg ((4 + v1) - 1))) - 1)) 102 (Int32.toNatClampNeg ((4 + v2) - 1)) (((uI I 102 (Int32.toNatClampNeg ((4 + v1) - 1)) ((I 102 (Int32.toNatClampNeg ((4 + v1) - 1))) - 1)) 102 (Int32.toNatClampNeg ((4 + v2) - 1))) + 1)) 102 (Int32.toNatClampNeg ((4 + v3) - 1))) + 1)) 102 (Int32.toNatClampNeg 2)) + 1)) := Fr.w f28 (show (2 : Int32).toInt = 2 from rfl) (by omega) (fun j hj hp => by unfold pD at hp; omega)
        refine ⟨Or.inr rfl, ?_⟩
        exact hQ _ _ _ _ hB29 ⟨(Eq.trans (Eq.trans (Eq.trans (rd_ne (by first | decide | omega)) (rd_ne (by first | decide | omega))) (rd_ne (by first | decide | omega))) (rd_ne (by first | decide | omega))), f30⟩
      · skip
        have d31 : ¬ ((x9.toInt) : Int) = (0) := ci_ne rfl rfl c17
        refine ⟨Or.inl rfl, ?_⟩
        exact hQ _ _ _ _ hB0 ⟨rfl, (Fr.refl _ _)⟩
set_option maxHeartbeats 2000000 in
theorem sp_X12_cut {d : Nat} {Q : Qt} {v1 : Int32} {v2 : Int32} {v3 : Int32} {I : Im} {J : Jm} {R : Rm} (hB0 : Bd I) (hR0 : RI R) (hQ : ∀ (x : Int32) (y : Int64) (I2 : Im) (J2 : Jm), Bd I2 → (Fr pK I I2) → Q x y I2 J2 R) : AM (d + 3) 258 112 [.ref 97, .int v1, .int v2, .int v3] I J R Q := by
  have i_v1 := i32 v1
  have i_v2 := i32 v2
  have i_v3 := i32 v3
  refine w_X12_cut ?_
  have hB1 : Bd (uI I 97 1 0) := Bd.o0 hB0 io9_112_97_12 (by decide) bd9_12_1
  have f2 : Fr pK I (uI I 97 1 0) := Fr.o (Fr.refl _ _) (by decide) (by decide)
  have hB3 : Bd (uI (uI I 97 1 0) 97 0 0) := Bd.o0 hB1 io9_112_97_12 (by decide) bd9_12_0
  have f4 : Fr pK I (uI (uI I 97 1 0) 97 0 0) := Fr.o f2 (by decide) (by decide)
  refine w_X12_isSlice ?_
  refine w_X12_isIn ?_
  refine ⟨fun c5 => ?_, fun c5 => ?_⟩
  · skip
    rw [lg_cmp_lt] at c5
    have d6 : ((v1.toInt) : Int) < (1) := cl_lt (tl_i2l rfl) rfl c5
    refine ⟨Or.inl rfl, ?_⟩
    intro o7
    refine ⟨Or.inl rfl, ?_⟩
    intro o8
    refine ⟨fun c9 => ?_, fun c9 => ?_⟩
    · skip
      refine w_X12_refuse ?_
      have hB10 : Bd (uI (uI (uI I 97 1 0) 97 0 0) 97 0 2) := Bd.o0 hB3 io9_112_97_12 (by decide) bd9_12_0
      have f11 : Fr pK I (uI (uI (uI I 97 1 0) 97 0 0) 97 0 2) := Fr.o f4 (by decide) (by decide)
      exact hQ _ _ _ _ hB10 f11
    · exact absurd c9 (by decide)
  · skip
    rw [lg_cmp_lt] at c5
    have d12 : ((1) : Int) ≤ (v1.toInt) := cl_nlt (tl_i2l rfl) rfl c5
    refine ⟨fun c13 => ?_, fun c13 => ?_⟩
    · skip
      rw [lg_cmp_gt] at c13
      have d14 : ((30) : Int) < (v1.toInt) := cl_lt rfl (tl_i2l rfl) c13
      refine ⟨Or.inl rfl, ?_⟩
      intro o15
      refine ⟨Or.inl rfl, ?_⟩
      intro o16
      refine ⟨fun c17 => ?_, fun c17 => ?_⟩
      · skip
        refine w_X12_refuse ?_
        have hB18 : Bd (uI (uI (uI I 97 1 0) 97 0 0) 97 0 2) := Bd.o0 hB3 io9_112_97_12 (by decide) bd9_12_0
        have f19 : Fr pK I (uI (uI (uI I 97 1 0) 97 0 0) 97 0 2) := Fr.o f4 (by decide) (by decide)
        exact hQ _ _ _ _ hB18 f19
      · exact absurd c17 (by decide)
    · skip
      rw [lg_cmp_gt] at c13
      have d20 : ((v1.toInt) : Int) ≤ (30) := cl_nlt rfl (tl_i2l rfl) c13
      refine ⟨Or.inr rfl, ?_⟩
      intro o21
      refine ⟨Or.inr rfl, ?_⟩
      intro o22
      refine ⟨fun c23 => ?_, fun c23 => ?_⟩
      · exact absurd c23 (by decide)
      · skip
        refine w_X12_isSlice ?_
        refine w_X12_isIn ?_
        refine ⟨fun c24 => ?_, fun c24 => ?_⟩
        · skip
          rw [lg_cmp_lt] at c24
          have d25 : ((v2.toInt) : Int) < (1) := cl_lt (tl_i2l rfl) rfl c24
          refine ⟨Or.inl rfl, ?_⟩
          intro o26
          refine ⟨Or.inl rfl, ?_⟩
          intro o27
          refine ⟨fun c28 => ?_, fun c28 => ?_⟩
          · skip
            refine w_X12_refuse ?_
            have hB29 : Bd (uI (uI (uI I 97 1 0) 97 0 0) 97 0 2) := Bd.o0 hB3 io9_112_97_12 (by decide) bd9_12_0
            have f30 : Fr pK I (uI (uI (uI I 97 1 0) 97 0 0) 97 0 2) := Fr.o f4 (by decide) (by decide)
            exact hQ _ _ _ _ hB29 f30
          · exact absurd c28 (by decide)
        · skip
          rw [lg_cmp_lt] at c24
          have d31 : ((1) : Int) ≤ (v2.toInt) := cl_nlt (tl_i2l rfl) rfl c24
          refine ⟨fun c32 => ?_, fun c32 => ?_⟩
          · skip
            rw [lg_cmp_gt] at c32
            have d33 : ((30) : Int) < (v2.toInt) := cl_lt rfl (tl_i2l rfl) c32
            refine ⟨Or.inl rfl, ?_⟩
            intro o34
            refine ⟨Or.inl rfl, ?_⟩
            intro o35
            refine ⟨fun c36 => ?_, fun c36 => ?_⟩
            · skip
              refine w_X12_refuse ?_
              have hB37 : Bd (uI (uI (uI I 97 1 0) 97 0 0) 97 0 2) := Bd.o0 hB3 io9_112_97_12 (by decide) bd9_12_0
              have f38 : Fr pK I (uI (uI (uI I 97 1 0) 97 0 0) 97 0 2) := Fr.o f4 (by decide) (by decide)
              exact hQ _ _ _ _ hB37 f38
            · exact absurd c36 (by decide)
          · skip
            rw [lg_cmp_gt] at c32
            have d39 : ((v2.toInt) : Int) ≤ (30) := cl_nlt rfl (tl_i2l rfl) c32
            refine ⟨Or.inr rfl, ?_⟩
            intro o40
            refine ⟨Or.inr rfl, ?_⟩
            intro o41
            refine ⟨fun c42 => ?_, fun c42 => ?_⟩
            · exact absurd c42 (by decide)
            · skip
              refine w_X12_isSlice ?_
              refine w_X12_isIn ?_
              refine ⟨fun c43 => ?_, fun c43 => ?_⟩
              · skip
                rw [lg_cmp_lt] at c43
                have d44 : ((v3.toInt) : Int) < (1) := cl_lt (tl_i2l rfl) rfl c43
                refine ⟨Or.inl rfl, ?_⟩
                intro o45
                refine ⟨Or.inl rfl, ?_⟩
                intro o46
                refine ⟨fun c47 => ?_, fun c47 => ?_⟩
                · exact absurd c47 (by decide)
                · skip
                  refine w_X12_refuse ?_
                  have hB48 : Bd (uI (uI (uI I 97 1 0) 97 0 0) 97 0 2) := Bd.o0 hB3 io9_112_97_12 (by decide) bd9_12_0
                  have f49 : Fr pK I (uI (uI (uI I 97 1 0) 97 0 0) 97 0 2) := Fr.o f4 (by decide) (by decide)
                  exact hQ _ _ _ _ hB48 f49
              · skip
                rw [lg_cmp_lt] at c43
                have d50 : ((1) : Int) ≤ (v3.toInt) := cl_nlt (tl_i2l rfl) rfl c43
                refine ⟨fun c51 => ?_, fun c51 => ?_⟩
                · skip
                  rw [lg_cmp_gt] at c51
                  have d52 : ((30) : Int) < (v3.toInt) := cl_lt rfl (tl_i2l rfl) c51
                  refine ⟨Or.inl rfl, ?_⟩
                  intro o53
                  refine ⟨Or.inl rfl, ?_⟩
                  intro o54
                  refine ⟨fun c55 => ?_, fun c55 => ?_⟩
                  · exact absurd c55 (by decide)
                  · skip
                    refine w_X12_refuse ?_
                    have hB56 : Bd (uI (uI (uI I 97 1 0) 97 0 0) 97 0 2) := Bd.o0 hB3 io9_112_97_12 (by decide) bd9_12_0
                    have f57 : Fr pK I (uI (uI (uI I 97 1 0) 97 0 0) 97 0 2) := Fr.o f4 (by decide) (by decide)
                    exact hQ _ _ _ _ hB56 f57
                · skip
                  rw [lg_cmp_gt] at c51
                  have d58 : ((v3.toInt) : Int) ≤ (30) := cl_nlt rfl (tl_i2l rfl) c51
                  refine ⟨Or.inr rfl, ?_⟩
                  intro o59
                  refine ⟨Or.inr rfl, ?_⟩
                  intro o60
                  refine ⟨fun c61 => ?_, fun c61 => ?_⟩
                  · skip
                    refine sp_X12_isOver hB3 hR0 (by have z1 : (v1 : Int32).toInt = v1.toInt := rfl; omega) (by have z2 : (v2 : Int32).toInt = v2.toInt := rfl; omega) (by have z3 : (v3 : Int32).toInt = v3.toInt := rfl; omega) (fun x62 y67 I63 J64 hB65 p66 => ?_)
                    intro o68
                    subst p66
                    have i69 := i32 x62
                    refine ⟨fun c70 => ?_, fun c70 => ?_⟩
                    · skip
                      have d71 : ((x62.toInt) : Int) = (0) := ci_eq rfl rfl c70
                      refine sp_X12_cuts hB3 hR0 (by have z1 : (v1 : Int32).toInt = v1.toInt := rfl; omega) (by have z2 : (v2 : Int32).toInt = v2.toInt := rfl; omega) (by have z3 : (v3 : Int32).toInt = v3.toInt := rfl; omega) (fun x72 y77 I73 J74 hB75 p76 => ?_)
                      intro o78
                      have f79 : Fr pD (uI (uI I 97 1 0) 97 0 0) I73 := p76.2
                      have f80 : Fr pK I I73 := Fr.tr f4 f79 (pK_D)
                      have i81 := i32 x72
                      refine ⟨fun c82 => ?_, fun c82 => ?_⟩
                      · skip
                        have d83 : ((x72.toInt) : Int) = (0) := ci_eq rfl rfl c82
                        refine w_X12_refuse ?_
                        have hB84 : Bd (uI I73 97 0 9) := Bd.o0 hB75 io9_112_97_12 (by decide) bd9_12_0
                        have f85 : Fr pK I (uI I73 97 0 9) := Fr.o f80 (by decide) (by decide)
                        exact hQ _ _ _ _ hB84 f85
                      · skip
                        have d86 : ¬ ((x72.toInt) : Int) = (0) := ci_ne rfl rfl c82
                        refine sp_X12_held hB75 hR0 (fun x87 y92 I88 J89 hB90 p91 => ?_)
                        subst p91
                        have i93 := i32 x87
                        exact hQ _ _ _ _ hB75 f80
                    · skip
                      have d94 : ¬ ((x62.toInt) : Int) = (0) := ci_ne rfl rfl c70
                      refine w_X12_refuse ?_
                      have hB95 : Bd (uI (uI (uI I 97 1 0) 97 0 0) 97 0 7) := Bd.o0 hB3 io9_112_97_12 (by decide) bd9_12_0
                      have f96 : Fr pK I (uI (uI (uI I 97 1 0) 97 0 0) 97 0 7) := Fr.o f4 (by decide) (by decide)
                      exact hQ _ _ _ _ hB95 f96
                  · exact absurd c61 (by decide)
end PT10x1
