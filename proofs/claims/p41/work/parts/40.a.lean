


set_option maxHeartbeats 2000000 in
theorem sp_X10_lay {d : Nat} {Q : Qt} {v0 : Nat} {v1 : Int32} {v2 : Int32} {I : Im} {J : Jm} {R : Rm} (hB0 : Bd I) (hR0 : RI R) (ho0 : isO 112 v0 10 = true) (hv2 : 0 ≤ v2.toInt ∧ v2.toInt ≤ 60) (hQ : ∀ (x : Int32) (y : Int64) (I2 : Im) (J2 : Jm), Bd I2 → ((TL I I2 v0 v1 v2)) → Q x y I2 J2 R) : AM (d + 2) 96 112 [.ref v0, .int v1, .int v2] I J R Q := by
  have i_v1 := i32 v1
  have i_v2 := i32 v2
  refine w_X10_lay ?_
  refine bif_t ho0 ?_
  have hB1 : Bd (uI I v0 0 v1) := Bd.o0 hB0 ho0 (by decide) bd9_10_0
  refine bif_t ho0 ?_
  have hB2 : Bd (uI (uI I v0 0 v1) v0 1 v2) := Bd.o1 hB1 ho0 (by decide) bd9_10_1 (show (v2 : Int32).toInt = v2.toInt from rfl) (by omega)
  refine bif_t ho0 ?_
  refine kp4 rfl (sp_J7_fill_d0a16 hB2 hR0 (fa_10_2 ho0).1 (fun x3 y8 I4 J5 hB6 p7 k9 => ?_))
  exact hQ _ _ _ _ hB6 k9
set_option maxHeartbeats 2000000 in
theorem sp_X10_put {d : Nat} {Q : Qt} {v0 : Nat} {v1 : Int32} {v2 : Int64} {I : Im} {J : Jm} {R : Rm} (hB0 : Bd I) (hR0 : RI R) (ho0 : isO 112 v0 10 = true) (hQ : ∀ (x : Int32) (y : Int64) (I2 : Im) (J2 : Jm), Bd I2 → (True) → Q x y I2 J2 R) : AM (d + 2) 98 112 [.ref v0, .int v1, .long v2] I J R Q := by
  have i_v1 := i32 v1
  have i_v2 := i64 v2
  refine w_X10_put ?_
  refine bif_t ho0 ?_
  refine w_X10_hasPlaces ?_
  refine ⟨fun c1 => ?_, fun c1 => ?_⟩
  · skip
    have d2 : ((v1.toInt) : Int) < (0) := ci_lt rfl rfl c1
    refine ⟨Or.inl rfl, ?_⟩
    intro o3
    refine ⟨fun c4 => ?_, fun c4 => ?_⟩
    · skip
      exact hQ _ _ _ _ hB0 trivial
    · exact absurd c4 (by decide)
  · skip
    have d5 : ((0) : Int) ≤ (v1.toInt) := ci_nlt rfl rfl c1
    refine ⟨fun c6 => ?_, fun c6 => ?_⟩
    · exact absurd c6 (by decide)
    · skip
      refine bif_t ho0 ?_
      refine ⟨fun c7 => ?_, fun c7 => ?_⟩
      · skip
        rw [lg_cmp_gt] at c7
        have e8 : (((Int32.toInt64 v1) + (Int32.toInt64 1)) : Int64).toInt = (v1.toInt) + (1) := tl_add (tl_i2l rfl) (tl_i2l rfl) (by omega)
        have b9 := Bd.o hB0 ho0 bd9_10_1
        have i10 := i32 ((I v0 1))
        have d11 : (((I v0 1).toInt) : Int) < ((v1.toInt + 1)) := cl_lt (tl_i2l rfl) e8 c7
        refine ⟨Or.inl rfl, ?_⟩
        intro o12
        refine ⟨fun c13 => ?_, fun c13 => ?_⟩
        · skip
          exact hQ _ _ _ _ hB0 trivial
        · exact absurd c13 (by decide)
      · skip
        rw [lg_cmp_gt] at c7
        have e14 : (((Int32.toInt64 v1) + (Int32.toInt64 1)) : Int64).toInt = (v1.toInt) + (1) := tl_add (tl_i2l rfl) (tl_i2l rfl) (by omega)
        have b15 := Bd.o hB0 ho0 bd9_10_1
        have i16 := i32 ((I v0 1))
        have d17 : (((v1.toInt + 1)) : Int) ≤ ((I v0 1).toInt) := cl_nlt (tl_i2l rfl) e14 c7
        refine ⟨Or.inr rfl, ?_⟩
        intro o18
        refine ⟨fun c19 => ?_, fun c19 => ?_⟩
        · exact absurd c19 (by decide)
        · skip
          refine bif_t ho0 ?_
          refine bif_t ho0 ?_
          refine ⟨fun c20 => ?_, fun c20 => ?_⟩
          · skip
            have d21 : ¬ (((I v0 0).toInt) : Int) = (0) := ci_ne rfl rfl c20
            refine bif_t ho0 ?_
            refine ⟨fun c22 => ?_, fun c22 => ?_⟩
            · skip
              have d23 : ¬ (((I v0 0).toInt) : Int) = (1) := ci_ne rfl rfl c22
              refine bif_t ho0 ?_
              refine ⟨fun c24 => ?_, fun c24 => ?_⟩
              · skip
                have d25 : ¬ (((I v0 0).toInt) : Int) = (2) := ci_ne rfl rfl c24
                refine bif_t (fa_10_2 ho0).1 ?_
                refine ⟨by rw [(fa_10_2 ho0).2.1]; exact vp_of (a := v1.toInt) rfl (by omega) (by omega), ?_⟩
                exact hQ _ _ _ _ hB0 trivial
              · skip
                have d26 : (((I v0 0).toInt) : Int) = (2) := ci_eq rfl rfl c24
                refine bif_t (fa_10_2 ho0).1 ?_
                refine ⟨by rw [(fa_10_2 ho0).2.1]; exact vp_of (a := v1.toInt) rfl (by omega) (by omega), ?_⟩
                exact hQ _ _ _ _ hB0 trivial
            · skip
              have d27 : (((I v0 0).toInt) : Int) = (1) := ci_eq rfl rfl c22
              refine bif_t (fa_10_2 ho0).1 ?_
              refine ⟨by rw [(fa_10_2 ho0).2.1]; exact vp_of (a := v1.toInt) rfl (by omega) (by omega), ?_⟩
              exact hQ _ _ _ _ hB0 trivial
          · skip
            have d28 : (((I v0 0).toInt) : Int) = (0) := ci_eq rfl rfl c20
            refine bif_t (fa_10_2 ho0).1 ?_
            refine ⟨by rw [(fa_10_2 ho0).2.1]; exact vp_of (a := v1.toInt) rfl (by omega) (by omega), ?_⟩
            exact hQ _ _ _ _ hB0 trivial
set_option maxHeartbeats 2000000 in
theorem sp_X6_append {d : Nat} {Q : Qt} {v1 : Int32} {I : Im} {J : Jm} {R : Rm} (hB0 : Bd I) (hR0 : RI R) (ht : (I 3 1).toInt ≤ 896) (hQ : ∀ (x : Int32) (y : Int64) (I2 : Im) (J2 : Jm), Bd I2 → (((I2 3 1).toInt = (I 3 1).toInt + 4)) → Q x y I2 J2 R) : AM (d + 2) 60 112 [.ref 3, .int v1] I J R Q := by
  have i_v1 := i32 v1
  refine am_X6_append (fun P hc => ?_)
  have L : ∀ n : Nat, (∀ (v2 : Int32) (M : Im) (JM : Jm), Bd M → (-8 ≤ v2.toInt ∧ v2.toInt ≤ 24 ∧ (I 3 1).toInt ≤ 896 ∧ 8 * (M 3 1).toInt + v2.toInt = 8 * (I 3 1).toInt + 24) → v2.toInt + 8 < (n : Int) → P 3 112 [(0, .ref 3), (1, .int v1), (2, .int v2)] [] M JM R) := by
    intro n
    induction n with
    | zero =>
      exact fun v2 M J _ hi hm => absurd hm (by omega)
    | succ n ih =>
      intro v2 M JM hB hi hm
      have i_v1 := i32 v1
      have i_v2 := i32 v2
      refine sg_X6_append_3 hc _ _ _ _ _ ?_
      have b1 := Bd.o hB io9_112_3_6 bd9_6_1
      refine ⟨fun c2 => ?_, fun c2 => ?_⟩
      · skip
        have d3 : ((v2.toInt) : Int) < (0) := ci_lt rfl rfl c2
        have b4 := Bd.o hB0 io9_112_3_6 bd9_6_1
        exact hQ _ _ _ _ hB (by have q2 : ((M 3 1) : Int32).toInt = (M 3 1).toInt := rfl; omega)
      · skip
        have d5 : ((0) : Int) ≤ (v2.toInt) := ci_nlt rfl rfl c2
        refine w_X6_hasRoom ?_
        refine ⟨fun c6 => ?_, fun c6 => ?_⟩
        · skip
          have e7 : (((M 3 1) + 1) : Int32).toInt = ((M 3 1).toInt) + (1) := ti_add rfl rfl (by omega)
          have d8 : ((900) : Int) < (((M 3 1).toInt + 1)) := ci_lt rfl e7 c6
          refine ⟨Or.inl rfl, ?_⟩
          intro o9
          refine ⟨fun c10 => ?_, fun c10 => ?_⟩
          · skip
            have b11 := Bd.o hB0 io9_112_3_6 bd9_6_1
            exact hQ _ _ _ _ hB (by have q2 : ((M 3 1) : Int32).toInt = (M 3 1).toInt := rfl; omega)
          · exact absurd c10 (by decide)
        · skip
          have e12 : (((M 3 1) + 1) : Int32).toInt = ((M 3 1).toInt) + (1) := ti_add rfl rfl (by omega)
          have d13 : ((((M 3 1).toInt + 1)) : Int) ≤ (900) := ci_nlt rfl e12 c6
          refine ⟨Or.inr rfl, ?_⟩
          intro o14
          refine ⟨fun c15 => ?_, fun c15 => ?_⟩
          · exact absurd c15 (by decide)
          · skip
            refine ⟨vp_of (a := (M 3 1).toInt) rfl (by omega) (by omega), ?_⟩
            have hB16 : Bd (uI M 4 (Int32.toNatClampNeg (M 3 1)) (Int32.toInt8 (Int32.toInt8 (Int32.toUInt32 v1 >>> (Int32.toUInt32 v2 &&& Int32.toUInt32 31)).toInt32).toInt32).toInt32) := Bd.a0 hB (show isA 112 4 2 = true from rfl) (show bna 4 = none from rfl)
            have e18 : (((uI M 4 (Int32.toNatClampNeg (M 3 1)) (Int32.toInt8 (Int32.toInt8 (Int32.toUInt32 v1 >>> (Int32.toUInt32 v2 &&& Int32.toUInt32 31)).toInt32).toInt32).toInt32) 3 1) : Int32).toInt = (M 3 1).toInt := Eq.trans (congrArg Int32.toInt (rd_ne (by first | decide | omega))) rfl
            have e19 : ((((uI M 4 (Int32.toNatClampNeg (M 3 1)) (Int32.toInt8 (Int32.toInt8 (Int32.toUInt32 v1 >>> (Int32.toUInt32 v2 &&& Int32.toUInt32 31)).toInt32).toInt32).toInt32) 3 1) + 1) : Int32).toInt = ((M 3 1).toInt) + (1) := ti_add e18 rfl (by omega)
            have hB17 : Bd (uI (uI M 4 (Int32.toNatClampNeg (M 3 1)) (Int32.toInt8 (Int32.toInt8 (Int32.toUInt32 v1 >>> (Int32.toUInt32 v2 &&& Int32.toUInt32 31)).toInt32).toInt32).toInt32) 3 1 (((uI M 4 (Int32.toNatClampNeg (M 3 1)) (Int32.toInt8 (Int32.toInt8 (Int32.toUInt32 v1 >>> (Int32.toUInt32 v2 &&& Int32.toUInt32 31)).toInt32).toInt32).toInt32) 3 1) + 1)) := Bd.o1 hB16 io9_112_3_6 (by decide) bd9_6_1 (show ((((uI M 4 (Int32.toNatClampNeg (M 3 1)) (Int32.toInt8 (Int32.toInt8 (Int32.toUInt32 v1 >>> (Int32.toUInt32 v2 &&& Int32.toUInt32 31)).toInt32).toInt32).toInt32) 3 1) + 1) : Int32).toInt = ((M 3 1).toInt + 1) from e19) (by omega)
            have e20 : ((v2 + (-8)) : Int32).toInt = (v2.toInt) + ((-8)) := ti_add rfl rfl (by omega)
            have e21 : (((uI (uI M 4 (Int32.toNatClampNeg (M 3 1)) (Int32.toInt8 (Int32.toInt8 (Int32.toUInt32 v1 >>> (Int32.toUInt32 v2 &&& Int32.toUInt32 31)).toInt32).toInt32).toInt32) 3 1 (((uI M 4 (Int32.toNatClampNeg (M 3 1)) (Int32.toInt8 (Int32.toInt8 (Int32.toUInt32 v1 >>> (Int32.toUInt32 v2 &&& Int32.toUInt32 31)).toInt32).toInt32).toInt32) 3 1) + 1)) 3 1) : Int32).toInt = ((M 3 1).toInt + 1) := Eq.trans (congrArg Int32.toInt rd_eq) e19
            exact ih _ _ _ hB17 (by have q0 : ((v2 + (-8)) : Int32).toInt = (v2.toInt + (-8)) := e20; have q1 : (((uI (uI M 4 (Int32.toNatClampNeg (M 3 1)) (Int32.toInt8 (Int32.toInt8 (Int32.toUInt32 v1 >>> (Int32.toUInt32 v2 &&& Int32.toUInt32 31)).toInt32).toInt32).toInt32) 3 1 (((uI M 4 (Int32.toNatClampNeg (M 3 1)) (Int32.toInt8 (Int32.toInt8 (Int32.toUInt32 v1 >>> (Int32.toUInt32 v2 &&& Int32.toUInt32 31)).toInt32).toInt32).toInt32) 3 1) + 1)) 3 1) : Int32).toInt = ((M 3 1).toInt + 1) := e21; omega) (by have q0 : ((v2 + (-8)) : Int32).toInt = (v2.toInt + (-8)) := e20; omega)
  refine sg_X6_append_0 hc _ _ _ _ ?_
  have b22 := Bd.o hB0 io9_112_3_6 bd9_6_1
  exact (L 1000000) _ _ _ hB0 (by have q0 : (24 : Int32).toInt = 24 := rfl; have q1 : ((I 3 1) : Int32).toInt = (I 3 1).toInt := rfl; omega) (by have q0 : (24 : Int32).toInt = 24 := rfl; omega)
set_option maxHeartbeats 2000000 in
theorem sp_X6_readWord {d : Nat} {Q : Qt} {I : Im} {J : Jm} {R : Rm} (hB0 : Bd I) (hR0 : RI R) (hQ : ∀ (x : Int32) (y : Int64) (I2 : Im) (J2 : Jm), Bd I2 → (I2 7 1 = I 7 1) → Q x y I2 J2 R) : AM (d + 1) 63 112 [.ref 3] I J R Q := by
  refine am_X6_readWord (fun P hc => ?_)
  have L : ∀ n : Nat, (∀ (v1 : Int32) (M : Im) (JM : Jm), Bd M → (M 7 1 = I 7 1) → (0 ≤ v1.toInt ∧ v1.toInt ≤ 900) → 2000 - v1.toInt < (n : Int) → P 15 112 [(0, .ref 3), (1, .int v1)] [] M JM R) ∧ (∀ (M : Im) (JM : Jm), Bd M → (M 7 1 = I 7 1) → (True) → 1000 < (n : Int) → P 101 112 [(0, .ref 3)] [] M JM R) ∧ (∀ (v1 : Int32) (M : Im) (JM : Jm), Bd M → (M 7 1 = I 7 1) → (1 ≤ v1.toInt ∧ v1.toInt ≤ 22) → 100 - v1.toInt < (n : Int) → P 108 112 [(0, .ref 3), (1, .int v1)] [] M JM R) := by
    intro n
    induction n with
    | zero =>
      exact ⟨fun v1 M J _ _ hi hm => absurd hm (by omega), fun  M J _ _ hi hm => absurd hm (by omega), fun v1 M J _ _ hi hm => absurd hm (by omega)⟩
    | succ n ih =>
      refine ⟨?_, ?_, ?_⟩
      · skip
        intro v1 M JM hB hk_7_1 hi hm
        have i_v1 := i32 v1
        refine sg_X6_readWord_15 hc _ _ _ _ ?_
        refine ⟨fun c1 => ?_, fun c1 => ?_⟩
        · skip
          have b2 := Bd.o hB io9_112_3_6 bd9_6_4
          have d3 : (((M 3 4).toInt) : Int) ≤ (v1.toInt) := ci_le rfl rfl c1
          exact ih.2.1 _ _ hB hk_7_1 trivial (by omega)
        · skip
          have b4 := Bd.o hB io9_112_3_6 bd9_6_4
          have d5 : ((v1.toInt) : Int) < ((M 3 4).toInt) := ci_nle rfl rfl c1
          refine ⟨vp_of (a := v1.toInt) rfl (by omega) (by omega), ?_⟩
          refine ⟨fun c6 => ?_, fun c6 => ?_⟩
          · skip
            have d7 : (((M 4 (Int32.toNatClampNeg v1)).toInt) : Int) < (97) := ci_lt rfl rfl c6
            exact ih.2.1 _ _ hB hk_7_1 trivial (by omega)
          · skip
            have d8 : ((97) : Int) ≤ ((M 4 (Int32.toNatClampNeg v1)).toInt) := ci_nlt rfl rfl c6
            refine ⟨vp_of (a := v1.toInt) rfl (by omega) (by omega), ?_⟩
            refine ⟨fun c9 => ?_, fun c9 => ?_⟩
            · skip
              have d10 : ((122) : Int) < ((M 4 (Int32.toNatClampNeg v1)).toInt) := ci_lt rfl rfl c9
              exact ih.2.1 _ _ hB hk_7_1 trivial (by omega)
            · skip
              have d11 : (((M 4 (Int32.toNatClampNeg v1)).toInt) : Int) ≤ (122) := ci_nlt rfl rfl c9
              have e13 : ((v1 + 1) : Int32).toInt = (v1.toInt) + (1) := ti_add rfl rfl (by omega)
              have hB12 : Bd (uI M 3 5 (v1 + 1)) := Bd.o1 hB io9_112_3_6 (by decide) bd9_6_5 (show ((v1 + 1) : Int32).toInt = (v1.toInt + 1) from e13) (by omega)
              refine ⟨fun c14 => ?_, fun c14 => ?_⟩
              · skip
                have e15 : (((uI M 3 5 (v1 + 1)) 3 5) : Int32).toInt = (v1.toInt + 1) := Eq.trans (congrArg Int32.toInt rd_eq) e13
                have b16 := Bd.o hB io9_112_3_6 bd9_6_6
                have e17 : (((uI M 3 5 (v1 + 1)) 3 6) : Int32).toInt = (M 3 6).toInt := Eq.trans (congrArg Int32.toInt (rd_k (by decide))) rfl
                have e18 : ((((uI M 3 5 (v1 + 1)) 3 5) - ((uI M 3 5 (v1 + 1)) 3 6)) : Int32).toInt = ((v1.toInt + 1)) - ((M 3 6).toInt) := ti_sub e15 e17 (by omega)
                have d19 : ((((v1.toInt + 1) - (M 3 6).toInt)) : Int) ≤ (8) := ci_le e18 rfl c14
                refine ⟨vp_of (a := v1.toInt) rfl (by omega) (by omega), ?_⟩
                exact ih.1 _ _ _ hB12 (Eq.trans (rd_ne (by first | decide | omega)) hk_7_1) (by have q0 : ((v1 + 1) : Int32).toInt = (v1.toInt + 1) := e13; omega) (by have q0 : ((v1 + 1) : Int32).toInt = (v1.toInt + 1) := e13; omega)
              · skip
                have e20 : (((uI M 3 5 (v1 + 1)) 3 5) : Int32).toInt = (v1.toInt + 1) := Eq.trans (congrArg Int32.toInt rd_eq) e13
                have b21 := Bd.o hB io9_112_3_6 bd9_6_6
                have e22 : (((uI M 3 5 (v1 + 1)) 3 6) : Int32).toInt = (M 3 6).toInt := Eq.trans (congrArg Int32.toInt (rd_k (by decide))) rfl
                have e23 : ((((uI M 3 5 (v1 + 1)) 3 5) - ((uI M 3 5 (v1 + 1)) 3 6)) : Int32).toInt = ((v1.toInt + 1)) - ((M 3 6).toInt) := ti_sub e20 e22 (by omega)
                have d24 : ((8) : Int) < (((v1.toInt + 1) - (M 3 6).toInt)) := ci_nle e23 rfl c14
                exact ih.1 _ _ _ hB12 (Eq.trans (rd_ne (by first | decide | omega)) hk_7_1) (by have q0 : ((v1 + 1) : Int32).toInt = (v1.toInt + 1) := e13; omega) (by have q0 : ((v1 + 1) : Int32).toInt = (v1.toInt + 1) := e13; omega)
      · skip
        intro  M JM hB hk_7_1 hi hm
        refine sg_X6_readWord_101 hc _ _ _ ?_
        have hB25 : Bd (uI M 3 9 0) := Bd.o0 hB io9_112_3_6 (by decide) bd9_6_9
        exact ih.2.2 _ _ _ hB25 (Eq.trans (rd_ne (by first | decide | omega)) hk_7_1) (by have q0 : (1 : Int32).toInt = 1 := rfl; omega) (by have q0 : (1 : Int32).toInt = 1 := rfl; omega)
      · skip
        intro v1 M JM hB hk_7_1 hi hm
        have i_v1 := i32 v1
        refine sg_X6_readWord_108 hc _ _ _ _ ?_
        refine ⟨fun c26 => ?_, fun c26 => ?_⟩
        · skip
          have d27 : ((21) : Int) < (v1.toInt) := ci_lt rfl rfl c26
          exact hQ _ _ _ _ hB hk_7_1
        · skip
          have d28 : ((v1.toInt) : Int) ≤ (21) := ci_nlt rfl rfl c26
          refine ⟨vp_of (a := v1.toInt) rfl (by omega) (by omega), ?_⟩
          refine ⟨fun c29 => ?_, fun c29 => ?_⟩
          · skip
            rw [lg_cmp_eq] at c29
            have d30 : ¬ ((((JM 5 (Int32.toNatClampNeg v1)) : Int64).toInt) : Int) = (((JM 3 10) : Int64).toInt) := cl_ne rfl rfl c29
            have e31 : ((v1 + 1) : Int32).toInt = (v1.toInt) + (1) := ti_add rfl rfl (by omega)
            exact ih.2.2 _ _ _ hB hk_7_1 (by have q0 : ((v1 + 1) : Int32).toInt = (v1.toInt + 1) := e31; omega) (by have q0 : ((v1 + 1) : Int32).toInt = (v1.toInt + 1) := e31; omega)
          · skip
            rw [lg_cmp_eq] at c29
            have d32 : ((((JM 5 (Int32.toNatClampNeg v1)) : Int64).toInt) : Int) = (((JM 3 10) : Int64).toInt) := cl_eq rfl rfl c29
            have hB33 : Bd (uI M 3 9 v1) := Bd.o0 hB io9_112_3_6 (by decide) bd9_6_9
            have e34 : ((v1 + 1) : Int32).toInt = (v1.toInt) + (1) := ti_add rfl rfl (by omega)
            exact ih.2.2 _ _ _ hB33 (Eq.trans (rd_ne (by first | decide | omega)) hk_7_1) (by have q0 : ((v1 + 1) : Int32).toInt = (v1.toInt + 1) := e34; omega) (by have q0 : ((v1 + 1) : Int32).toInt = (v1.toInt + 1) := e34; omega)
  refine sg_X6_readWord_0 hc _ _ _ ?_
  have hB35 : Bd (uI I 3 8 1) := Bd.o0 hB0 io9_112_3_6 (by decide) bd9_6_8
  have b36 := Bd.o hB0 io9_112_3_6 bd9_6_6
  have e37 : (((uI I 3 8 1) 3 6) : Int32).toInt = (I 3 6).toInt := Eq.trans (congrArg Int32.toInt (rd_k (by decide))) rfl
  exact (L 1000000).1 _ _ _ hB35 (rd_ne (by first | decide | omega)) (by have q0 : (((uI I 3 8 1) 3 6) : Int32).toInt = (I 3 6).toInt := e37; omega) (by have q0 : (((uI I 3 8 1) 3 6) : Int32).toInt = (I 3 6).toInt := e37; omega)
set_option maxHeartbeats 2000000 in
theorem sp_X6_readNumber {d : Nat} {Q : Qt} {I : Im} {J : Jm} {R : Rm} (hB0 : Bd I) (hR0 : RI R) (hQ : ∀ (x : Int32) (y : Int64) (I2 : Im) (J2 : Jm), Bd I2 → (I2 7 1 = I 7 1) → Q x y I2 J2 R) : AM (d + 1) 64 112 [.ref 3] I J R Q := by
  refine am_X6_readNumber (fun P hc => ?_)
  have L : ∀ n : Nat, (∀ (v1 : Int32) (M : Im) (JM : Jm), Bd M → (M 7 1 = I 7 1) → (0 ≤ v1.toInt ∧ v1.toInt ≤ 900) → 900 - v1.toInt < (n : Int) → P 10 112 [(0, .ref 3), (1, .int v1)] [] M JM R) := by
    intro n
    induction n with
    | zero =>
      exact fun v1 M J _ _ hi hm => absurd hm (by omega)
    | succ n ih =>
      intro v1 M JM hB hk_7_1 hi hm
      have i_v1 := i32 v1
      refine sg_X6_readNumber_10 hc _ _ _ _ ?_
      refine ⟨fun c1 => ?_, fun c1 => ?_⟩
      · skip
        have b2 := Bd.o hB io9_112_3_6 bd9_6_4
        have d3 : (((M 3 4).toInt) : Int) ≤ (v1.toInt) := ci_le rfl rfl c1
        refine ⟨fun c4 => ?_, fun c4 => ?_⟩
        · skip
          have b5 := Bd.o hB io9_112_3_6 bd9_6_5
          have b6 := Bd.o hB io9_112_3_6 bd9_6_6
          have e7 : (((M 3 5) - (M 3 6)) : Int32).toInt = ((M 3 5).toInt) - ((M 3 6).toInt) := ti_sub rfl rfl (by omega)
          have d8 : ((((M 3 5).toInt - (M 3 6).toInt)) : Int) ≤ (4) := ci_le e7 rfl c4
          have hB9 : Bd (uI M 3 8 2) := Bd.o0 hB io9_112_3_6 (by decide) bd9_6_8
          exact hQ _ _ _ _ hB9 (Eq.trans (rd_ne (by first | decide | omega)) hk_7_1)
        · skip
          have b10 := Bd.o hB io9_112_3_6 bd9_6_5
          have b11 := Bd.o hB io9_112_3_6 bd9_6_6
          have e12 : (((M 3 5) - (M 3 6)) : Int32).toInt = ((M 3 5).toInt) - ((M 3 6).toInt) := ti_sub rfl rfl (by omega)
          have d13 : ((4) : Int) < (((M 3 5).toInt - (M 3 6).toInt)) := ci_nle e12 rfl c4
          have hB14 : Bd (uI M 3 8 4) := Bd.o0 hB io9_112_3_6 (by decide) bd9_6_8
          exact hQ _ _ _ _ hB14 (Eq.trans (rd_ne (by first | decide | omega)) hk_7_1)
      · skip
        have b15 := Bd.o hB io9_112_3_6 bd9_6_4
        have d16 : ((v1.toInt) : Int) < ((M 3 4).toInt) := ci_nle rfl rfl c1
        refine ⟨vp_of (a := v1.toInt) rfl (by omega) (by omega), ?_⟩
        refine ⟨fun c17 => ?_, fun c17 => ?_⟩
        · skip
          have d18 : (((M 4 (Int32.toNatClampNeg v1)).toInt) : Int) < (48) := ci_lt rfl rfl c17
          refine ⟨fun c19 => ?_, fun c19 => ?_⟩
          · skip
            have b20 := Bd.o hB io9_112_3_6 bd9_6_5
            have b21 := Bd.o hB io9_112_3_6 bd9_6_6
            have e22 : (((M 3 5) - (M 3 6)) : Int32).toInt = ((M 3 5).toInt) - ((M 3 6).toInt) := ti_sub rfl rfl (by omega)
            have d23 : ((((M 3 5).toInt - (M 3 6).toInt)) : Int) ≤ (4) := ci_le e22 rfl c19
            have hB24 : Bd (uI M 3 8 2) := Bd.o0 hB io9_112_3_6 (by decide) bd9_6_8
            exact hQ _ _ _ _ hB24 (Eq.trans (rd_ne (by first | decide | omega)) hk_7_1)
          · skip
            have b25 := Bd.o hB io9_112_3_6 bd9_6_5
            have b26 := Bd.o hB io9_112_3_6 bd9_6_6
            have e27 : (((M 3 5) - (M 3 6)) : Int32).toInt = ((M 3 5).toInt) - ((M 3 6).toInt) := ti_sub rfl rfl (by omega)
            have d28 : ((4) : Int) < (((M 3 5).toInt - (M 3 6).toInt)) := ci_nle e27 rfl c19
            have hB29 : Bd (uI M 3 8 4) := Bd.o0 hB io9_112_3_6 (by decide) bd9_6_8
            exact hQ _ _ _ _ hB29 (Eq.trans (rd_ne (by first | decide | omega)) hk_7_1)
        · skip
          have d30 : ((48) : Int) ≤ ((M 4 (Int32.toNatClampNeg v1)).toInt) := ci_nlt rfl rfl c17
          refine ⟨vp_of (a := v1.toInt) rfl (by omega) (by omega), ?_⟩
          refine ⟨fun c31 => ?_, fun c31 => ?_⟩
          · skip
            have d32 : ((57) : Int) < ((M 4 (Int32.toNatClampNeg v1)).toInt) := ci_lt rfl rfl c31
            refine ⟨fun c33 => ?_, fun c33 => ?_⟩
            · skip
              have b34 := Bd.o hB io9_112_3_6 bd9_6_5
              have b35 := Bd.o hB io9_112_3_6 bd9_6_6
              have e36 : (((M 3 5) - (M 3 6)) : Int32).toInt = ((M 3 5).toInt) - ((M 3 6).toInt) := ti_sub rfl rfl (by omega)
              have d37 : ((((M 3 5).toInt - (M 3 6).toInt)) : Int) ≤ (4) := ci_le e36 rfl c33
              have hB38 : Bd (uI M 3 8 2) := Bd.o0 hB io9_112_3_6 (by decide) bd9_6_8
              exact hQ _ _ _ _ hB38 (Eq.trans (rd_ne (by first | decide | omega)) hk_7_1)
            · skip
              have b39 := Bd.o hB io9_112_3_6 bd9_6_5
              have b40 := Bd.o hB io9_112_3_6 bd9_6_6
              have e41 : (((M 3 5) - (M 3 6)) : Int32).toInt = ((M 3 5).toInt) - ((M 3 6).toInt) := ti_sub rfl rfl (by omega)
              have d42 : ((4) : Int) < (((M 3 5).toInt - (M 3 6).toInt)) := ci_nle e41 rfl c33
              have hB43 : Bd (uI M 3 8 4) := Bd.o0 hB io9_112_3_6 (by decide) bd9_6_8
              exact hQ _ _ _ _ hB43 (Eq.trans (rd_ne (by first | decide | omega)) hk_7_1)
          · skip
            have d44 : (((M 4 (Int32.toNatClampNeg v1)).toInt) : Int) ≤ (57) := ci_nlt rfl rfl c31
            have e46 : ((v1 + 1) : Int32).toInt = (v1.toInt) + (1) := ti_add rfl rfl (by omega)
            have hB45 : Bd (uI M 3 5 (v1 + 1)) := Bd.o1 hB io9_112_3_6 (by decide) bd9_6_5 (show ((v1 + 1) : Int32).toInt = (v1.toInt + 1) from e46) (by omega)
            refine ⟨fun c47 => ?_, fun c47 => ?_⟩
            · skip
              have e48 : (((uI M 3 5 (v1 + 1)) 3 5) : Int32).toInt = (v1.toInt + 1) := Eq.trans (congrArg Int32.toInt rd_eq) e46
              have b49 := Bd.o hB io9_112_3_6 bd9_6_6
              have e50 : (((uI M 3 5 (v1 + 1)) 3 6) : Int32).toInt = (M 3 6).toInt := Eq.trans (congrArg Int32.toInt (rd_k (by decide))) rfl
              have e51 : ((((uI M 3 5 (v1 + 1)) 3 5) - ((uI M 3 5 (v1 + 1)) 3 6)) : Int32).toInt = ((v1.toInt + 1)) - ((M 3 6).toInt) := ti_sub e48 e50 (by omega)
              have d52 : ((((v1.toInt + 1) - (M 3 6).toInt)) : Int) ≤ (4) := ci_le e51 rfl c47
              refine ⟨vp_of (a := v1.toInt) rfl (by omega) (by omega), ?_⟩
              have hB53 : Bd (uI (uI M 3 5 (v1 + 1)) 3 11 ((((uI M 3 5 (v1 + 1)) 3 11) * 10) + (((uI M 3 5 (v1 + 1)) 4 (Int32.toNatClampNeg v1)) - 48))) := Bd.o0 hB45 io9_112_3_6 (by decide) bd9_6_11
              exact ih _ _ _ hB53 (Eq.trans (Eq.trans (rd_ne (by first | decide | omega)) (rd_ne (by first | decide | omega))) hk_7_1) (by have q0 : ((v1 + 1) : Int32).toInt = (v1.toInt + 1) := e46; omega) (by have q0 : ((v1 + 1) : Int32).toInt = (v1.toInt + 1) := e46; omega)
            · skip
              have e54 : (((uI M 3 5 (v1 + 1)) 3 5) : Int32).toInt = (v1.toInt + 1) := Eq.trans (congrArg Int32.toInt rd_eq) e46
              have b55 := Bd.o hB io9_112_3_6 bd9_6_6
              have e56 : (((uI M 3 5 (v1 + 1)) 3 6) : Int32).toInt = (M 3 6).toInt := Eq.trans (congrArg Int32.toInt (rd_k (by decide))) rfl
              have e57 : ((((uI M 3 5 (v1 + 1)) 3 5) - ((uI M 3 5 (v1 + 1)) 3 6)) : Int32).toInt = ((v1.toInt + 1)) - ((M 3 6).toInt) := ti_sub e54 e56 (by omega)
              have d58 : ((4) : Int) < (((v1.toInt + 1) - (M 3 6).toInt)) := ci_nle e57 rfl c47
              have hB59 : Bd (uI (uI M 3 5 (v1 + 1)) 3 11 0) := Bd.o0 hB45 io9_112_3_6 (by decide) bd9_6_11
              exact ih _ _ _ hB59 (Eq.trans (Eq.trans (rd_ne (by first | decide | omega)) (rd_ne (by first | decide | omega))) hk_7_1) (by have q0 : ((v1 + 1) : Int32).toInt = (v1.toInt + 1) := e46; omega) (by have q0 : ((v1 + 1) : Int32).toInt = (v1.toInt + 1) := e46; omega)
  refine sg_X6_readNumber_0 hc _ _ _ ?_
  have hB60 : Bd (uI I 3 11 0) := Bd.o0 hB0 io9_112_3_6 (by decide) bd9_6_11
  have b61 := Bd.o hB0 io9_112_3_6 bd9_6_6
  have e62 : (((uI I 3 11 0) 3 6) : Int32).toInt = (I 3 6).toInt := Eq.trans (congrArg Int32.toInt (rd_k (by decide))) rfl
  exact (L 1000000) _ _ _ hB60 (rd_ne (by first | decide | omega)) (by have q0 : (((uI I 3 11 0) 3 6) : Int32).toInt = (I 3 6).toInt := e62; omega) (by have q0 : (((uI I 3 11 0) 3 6) : Int32).toInt = (I 3 6).toInt := e62; omega)
set_option maxHeartbeats 2000000 in
theorem sp_X6_advance {d : Nat} {Q : Qt} {I : Im} {J : Jm} {R : Rm} (hB0 : Bd I) (hR0 : RI R) (hQ : ∀ (x : Int32) (y : Int64) (I2 : Im) (J2 : Jm), Bd I2 → (I2 7 1 = I 7 1) → Q x y I2 J2 R) : AM (d + 2) 62 112 [.ref 3] I J R Q := by
  refine am_X6_advance (fun P hc => ?_)
  have L : ∀ n : Nat, (∀ (v1 : Int32) (M : Im) (JM : Jm), Bd M → (M 7 1 = I 7 1) → (0 ≤ v1.toInt ∧ v1.toInt ≤ 900) → 2000 - v1.toInt < (n : Int) → P 13 112 [(0, .ref 3), (1, .int v1)] [] M JM R) ∧ (∀ (M : Im) (JM : Jm), Bd M → (M 7 1 = I 7 1) → (True) → 500 < (n : Int) → P 56 112 [(0, .ref 3)] [] M JM R) ∧ (∀ (v1 : Int32) (M : Im) (JM : Jm), Bd M → (M 7 1 = I 7 1) → ((M 3 5).toInt ≤ 899) → 300 < (n : Int) → P 115 112 [(0, .ref 3), (1, .int v1)] [] M JM R) ∧ (∀ (v1 : Int32) (M : Im) (JM : Jm), Bd M → (M 7 1 = I 7 1) → ((M 3 5).toInt ≤ 899) → 200 < (n : Int) → P 134 112 [(0, .ref 3), (1, .int v1)] [] M JM R) := by
    intro n
    induction n with
    | zero =>
      exact ⟨fun v1 M J _ _ hi hm => absurd hm (by omega), fun  M J _ _ hi hm => absurd hm (by omega), fun v1 M J _ _ hi hm => absurd hm (by omega), fun v1 M J _ _ hi hm => absurd hm (by omega)⟩
    | succ n ih =>
      refine ⟨?_, ?_, ?_, ?_⟩
      · skip
        intro v1 M JM hB hk_7_1 hi hm
        have i_v1 := i32 v1
        refine sg_X6_advance_13 hc _ _ _ _ ?_
        refine ⟨fun c1 => ?_, fun c1 => ?_⟩
        · skip
          have b2 := Bd.o hB io9_112_3_6 bd9_6_4
          have d3 : (((M 3 4).toInt) : Int) ≤ (v1.toInt) := ci_le rfl rfl c1
          exact ih.2.1 _ _ hB hk_7_1 trivial (by omega)
        · skip
          have b4 := Bd.o hB io9_112_3_6 bd9_6_4
          have d5 : ((v1.toInt) : Int) < ((M 3 4).toInt) := ci_nle rfl rfl c1
          refine ⟨vp_of (a := v1.toInt) rfl (by omega) (by omega), ?_⟩
          refine ⟨fun c6 => ?_, fun c6 => ?_⟩
          · skip
            have d7 : (((M 4 (Int32.toNatClampNeg v1)).toInt) : Int) = (32) := ci_eq rfl rfl c6
            have e9 : ((v1 + 1) : Int32).toInt = (v1.toInt) + (1) := ti_add rfl rfl (by omega)
            have hB8 : Bd (uI M 3 5 (v1 + 1)) := Bd.o1 hB io9_112_3_6 (by decide) bd9_6_5 (show ((v1 + 1) : Int32).toInt = (v1.toInt + 1) from e9) (by omega)
            exact ih.1 _ _ _ hB8 (Eq.trans (rd_ne (by first | decide | omega)) hk_7_1) (by have q0 : ((v1 + 1) : Int32).toInt = (v1.toInt + 1) := e9; omega) (by have q0 : ((v1 + 1) : Int32).toInt = (v1.toInt + 1) := e9; omega)
          · skip
            have d10 : ¬ (((M 4 (Int32.toNatClampNeg v1)).toInt) : Int) = (32) := ci_ne rfl rfl c6
            refine ⟨vp_of (a := v1.toInt) rfl (by omega) (by omega), ?_⟩
            refine ⟨fun c11 => ?_, fun c11 => ?_⟩
            · skip
              have d12 : ¬ (((M 4 (Int32.toNatClampNeg v1)).toInt) : Int) = (10) := ci_ne rfl rfl c11
              exact ih.2.1 _ _ hB hk_7_1 trivial (by omega)
            · skip
              have d13 : (((M 4 (Int32.toNatClampNeg v1)).toInt) : Int) = (10) := ci_eq rfl rfl c11
              have e15 : ((v1 + 1) : Int32).toInt = (v1.toInt) + (1) := ti_add rfl rfl (by omega)
              have hB14 : Bd (uI M 3 5 (v1 + 1)) := Bd.o1 hB io9_112_3_6 (by decide) bd9_6_5 (show ((v1 + 1) : Int32).toInt = (v1.toInt + 1) from e15) (by omega)
              exact ih.1 _ _ _ hB14 (Eq.trans (rd_ne (by first | decide | omega)) hk_7_1) (by have q0 : ((v1 + 1) : Int32).toInt = (v1.toInt + 1) := e15; omega) (by have q0 : ((v1 + 1) : Int32).toInt = (v1.toInt + 1) := e15; omega)
      · skip
        intro  M JM hB hk_7_1 hi hm
        refine sg_X6_advance_56 hc _ _ _ ?_
        have b17 := Bd.o hB io9_112_3_6 bd9_6_5
        have hB16 : Bd (uI M 3 6 (M 3 5)) := Bd.o1 hB io9_112_3_6 (by decide) bd9_6_6 (show ((M 3 5) : Int32).toInt = (M 3 5).toInt from rfl) (by omega)
        have hB18 : Bd (uI (uI M 3 6 (M 3 5)) 3 9 (-1)) := Bd.o0 hB16 io9_112_3_6 (by decide) bd9_6_9
        refine ⟨fun c19 => ?_, fun c19 => ?_⟩
        · skip
          have e20 : (((uI (uI M 3 6 (M 3 5)) 3 9 (-1)) 3 5) : Int32).toInt = (M 3 5).toInt := Eq.trans (congrArg Int32.toInt (Eq.trans (rd_k (by decide)) (rd_k (by decide)))) rfl
          have b21 := Bd.o hB io9_112_3_6 bd9_6_4
          have e22 : (((uI (uI M 3 6 (M 3 5)) 3 9 (-1)) 3 4) : Int32).toInt = (M 3 4).toInt := Eq.trans (congrArg Int32.toInt (Eq.trans (rd_k (by decide)) (rd_k (by decide)))) rfl
          have d23 : (((M 3 5).toInt) : Int) < ((M 3 4).toInt) := ci_lt e20 e22 c19
          refine ⟨vp_of (a := (M 3 5).toInt) e20 (by omega) (by omega), ?_⟩
          refine ⟨fun c24 => ?_, fun c24 => ?_⟩
          · skip
            have e25 : (((uI (uI M 3 6 (M 3 5)) 3 9 (-1)) 4 (Int32.toNatClampNeg ((uI (uI M 3 6 (M 3 5)) 3 9 (-1)) 3 5))) : Int32).toInt = (M 4 (Int32.toNatClampNeg (M 3 5))).toInt := Eq.trans (congrArg Int32.toInt (Eq.trans (Eq.trans (rd_ne (by first | decide | omega)) (rd_ne (by first | decide | omega))) (congrArg (fun z => M 4 (Int32.toNatClampNeg z)) (Eq.trans (rd_k (by decide)) (rd_k (by decide)))))) rfl
            have d26 : (((M 4 (Int32.toNatClampNeg (M 3 5))).toInt) : Int) < (97) := ci_lt e25 rfl c24
            exact ih.2.2.1 _ _ _ hB18 (Eq.trans (Eq.trans (rd_ne (by first | decide | omega)) (rd_ne (by first | decide | omega))) hk_7_1) (by have q0 : (((uI (uI M 3 6 (M 3 5)) 3 9 (-1)) 3 5) : Int32).toInt = (M 3 5).toInt := e20; omega) (by omega)
          · skip
            have e27 : (((uI (uI M 3 6 (M 3 5)) 3 9 (-1)) 4 (Int32.toNatClampNeg ((uI (uI M 3 6 (M 3 5)) 3 9 (-1)) 3 5))) : Int32).toInt = (M 4 (Int32.toNatClampNeg (M 3 5))).toInt := Eq.trans (congrArg Int32.toInt (Eq.trans (Eq.trans (rd_ne (by first | decide | omega)) (rd_ne (by first | decide | omega))) (congrArg (fun z => M 4 (Int32.toNatClampNeg z)) (Eq.trans (rd_k (by decide)) (rd_k (by decide)))))) rfl
            have d28 : ((97) : Int) ≤ ((M 4 (Int32.toNatClampNeg (M 3 5))).toInt) := ci_nlt e27 rfl c24
            refine ⟨fun c29 => ?_, fun c29 => ?_⟩
            · skip
              have d30 : ((122) : Int) < ((M 4 (Int32.toNatClampNeg (M 3 5))).toInt) := ci_lt rfl e27 c29
              exact ih.2.2.1 _ _ _ hB18 (Eq.trans (Eq.trans (rd_ne (by first | decide | omega)) (rd_ne (by first | decide | omega))) hk_7_1) (by have q0 : (((uI (uI M 3 6 (M 3 5)) 3 9 (-1)) 3 5) : Int32).toInt = (M 3 5).toInt := e20; omega) (by omega)
            · skip
              have d31 : (((M 4 (Int32.toNatClampNeg (M 3 5))).toInt) : Int) ≤ (122) := ci_nlt rfl e27 c29
              refine sp_X6_readWord hB18 hR0 (fun x32 y37 I33 J34 hB35 p36 => ?_)
              exact hQ _ _ _ _ hB35 (Eq.trans (Eq.trans (Eq.trans p36 (rd_ne (by first | decide | omega))) (rd_ne (by first | decide | omega))) hk_7_1)
        · skip
          have e38 : (((uI (uI M 3 6 (M 3 5)) 3 9 (-1)) 3 5) : Int32).toInt = (M 3 5).toInt := Eq.trans (congrArg Int32.toInt (Eq.trans (rd_k (by decide)) (rd_k (by decide)))) rfl
          have b39 := Bd.o hB io9_112_3_6 bd9_6_4
          have e40 : (((uI (uI M 3 6 (M 3 5)) 3 9 (-1)) 3 4) : Int32).toInt = (M 3 4).toInt := Eq.trans (congrArg Int32.toInt (Eq.trans (rd_k (by decide)) (rd_k (by decide)))) rfl
          have d41 : (((M 3 4).toInt) : Int) ≤ ((M 3 5).toInt) := ci_nlt e38 e40 c19
          have hB42 : Bd (uI (uI (uI M 3 6 (M 3 5)) 3 9 (-1)) 3 8 0) := Bd.o0 hB18 io9_112_3_6 (by decide) bd9_6_8
          exact hQ _ _ _ _ hB42 (Eq.trans (Eq.trans (Eq.trans (rd_ne (by first | decide | omega)) (rd_ne (by first | decide | omega))) (rd_ne (by first | decide | omega))) hk_7_1)
      · skip
        intro v1 M JM hB hk_7_1 hi hm
        have i_v1 := i32 v1
        refine sg_X6_advance_115 hc _ _ _ _ ?_
        have b43 := Bd.o hB io9_112_3_6 bd9_6_5
        refine ⟨fun c44 => ?_, fun c44 => ?_⟩
        · skip
          have d45 : ((v1.toInt) : Int) < (48) := ci_lt rfl rfl c44
          exact ih.2.2.2 _ _ _ hB hk_7_1 (by have q0 : ((M 3 5) : Int32).toInt = (M 3 5).toInt := rfl; omega) (by omega)
        · skip
          have d46 : ((48) : Int) ≤ (v1.toInt) := ci_nlt rfl rfl c44
          refine ⟨fun c47 => ?_, fun c47 => ?_⟩
          · skip
            have d48 : ((57) : Int) < (v1.toInt) := ci_lt rfl rfl c47
            exact ih.2.2.2 _ _ _ hB hk_7_1 (by have q0 : ((M 3 5) : Int32).toInt = (M 3 5).toInt := rfl; omega) (by omega)
          · skip
            have d49 : ((v1.toInt) : Int) ≤ (57) := ci_nlt rfl rfl c47
            refine sp_X6_readNumber hB hR0 (fun x50 y55 I51 J52 hB53 p54 => ?_)
            exact hQ _ _ _ _ hB53 (Eq.trans p54 hk_7_1)
      · skip
        intro v1 M JM hB hk_7_1 hi hm
        have i_v1 := i32 v1
        refine sg_X6_advance_134 hc _ _ _ _ ?_
        have b56 := Bd.o hB io9_112_3_6 bd9_6_5
        refine ⟨fun c57 => ?_, fun c57 => ?_⟩
        · skip
          have d58 : ((v1.toInt) : Int) = (59) := ci_eq rfl rfl c57
          have hB59 : Bd (uI M 3 8 3) := Bd.o0 hB io9_112_3_6 (by decide) bd9_6_8
          have hB60 : Bd (uI (uI M 3 8 3) 3 11 v1) := Bd.o0 hB59 io9_112_3_6 (by decide) bd9_6_11
          have e62 : (((uI (uI M 3 8 3) 3 11 v1) 3 5) : Int32).toInt = (M 3 5).toInt := Eq.trans (congrArg Int32.toInt (Eq.trans (rd_k (by decide)) (rd_k (by decide)))) rfl
          have e63 : ((((uI (uI M 3 8 3) 3 11 v1) 3 5) + 1) : Int32).toInt = ((M 3 5).toInt) + (1) := ti_add e62 rfl (by omega)
          have hB61 : Bd (uI (uI (uI M 3 8 3) 3 11 v1) 3 5 (((uI (uI M 3 8 3) 3 11 v1) 3 5) + 1)) := Bd.o1 hB60 io9_112_3_6 (by decide) bd9_6_5 (show ((((uI (uI M 3 8 3) 3 11 v1) 3 5) + 1) : Int32).toInt = ((M 3 5).toInt + 1) from e63) (by omega)
          exact hQ _ _ _ _ hB61 (Eq.trans (Eq.trans (Eq.trans (rd_ne (by first | decide | omega)) (rd_ne (by first | decide | omega))) (rd_ne (by first | decide | omega))) hk_7_1)
        · skip
          have d64 : ¬ ((v1.toInt) : Int) = (59) := ci_ne rfl rfl c57
          refine ⟨fun c65 => ?_, fun c65 => ?_⟩
          · skip
            have d66 : ((v1.toInt) : Int) = (60) := ci_eq rfl rfl c65
            have hB67 : Bd (uI M 3 8 3) := Bd.o0 hB io9_112_3_6 (by decide) bd9_6_8
            have hB68 : Bd (uI (uI M 3 8 3) 3 11 v1) := Bd.o0 hB67 io9_112_3_6 (by decide) bd9_6_11
            have e70 : (((uI (uI M 3 8 3) 3 11 v1) 3 5) : Int32).toInt = (M 3 5).toInt := Eq.trans (congrArg Int32.toInt (Eq.trans (rd_k (by decide)) (rd_k (by decide)))) rfl
            have e71 : ((((uI (uI M 3 8 3) 3 11 v1) 3 5) + 1) : Int32).toInt = ((M 3 5).toInt) + (1) := ti_add e70 rfl (by omega)
            have hB69 : Bd (uI (uI (uI M 3 8 3) 3 11 v1) 3 5 (((uI (uI M 3 8 3) 3 11 v1) 3 5) + 1)) := Bd.o1 hB68 io9_112_3_6 (by decide) bd9_6_5 (show ((((uI (uI M 3 8 3) 3 11 v1) 3 5) + 1) : Int32).toInt = ((M 3 5).toInt + 1) from e71) (by omega)
            exact hQ _ _ _ _ hB69 (Eq.trans (Eq.trans (Eq.trans (rd_ne (by first | decide | omega)) (rd_ne (by first | decide | omega))) (rd_ne (by first | decide | omega))) hk_7_1)
          · skip
            have d72 : ¬ ((v1.toInt) : Int) = (60) := ci_ne rfl rfl c65
            refine ⟨fun c73 => ?_, fun c73 => ?_⟩
            · skip
              have d74 : ((v1.toInt) : Int) = (62) := ci_eq rfl rfl c73
              have hB75 : Bd (uI M 3 8 3) := Bd.o0 hB io9_112_3_6 (by decide) bd9_6_8
              have hB76 : Bd (uI (uI M 3 8 3) 3 11 v1) := Bd.o0 hB75 io9_112_3_6 (by decide) bd9_6_11
              have e78 : (((uI (uI M 3 8 3) 3 11 v1) 3 5) : Int32).toInt = (M 3 5).toInt := Eq.trans (congrArg Int32.toInt (Eq.trans (rd_k (by decide)) (rd_k (by decide)))) rfl
              have e79 : ((((uI (uI M 3 8 3) 3 11 v1) 3 5) + 1) : Int32).toInt = ((M 3 5).toInt) + (1) := ti_add e78 rfl (by omega)
              have hB77 : Bd (uI (uI (uI M 3 8 3) 3 11 v1) 3 5 (((uI (uI M 3 8 3) 3 11 v1) 3 5) + 1)) := Bd.o1 hB76 io9_112_3_6 (by decide) bd9_6_5 (show ((((uI (uI M 3 8 3) 3 11 v1) 3 5) + 1) : Int32).toInt = ((M 3 5).toInt + 1) from e79) (by omega)
              exact hQ _ _ _ _ hB77 (Eq.trans (Eq.trans (Eq.trans (rd_ne (by first | decide | omega)) (rd_ne (by first | decide | omega))) (rd_ne (by first | decide | omega))) hk_7_1)
            · skip
              have d80 : ¬ ((v1.toInt) : Int) = (62) := ci_ne rfl rfl c73
              refine ⟨fun c81 => ?_, fun c81 => ?_⟩
              · skip
                have d82 : ¬ ((v1.toInt) : Int) = (61) := ci_ne rfl rfl c81
                have hB83 : Bd (uI M 3 8 4) := Bd.o0 hB io9_112_3_6 (by decide) bd9_6_8
                have hB84 : Bd (uI (uI M 3 8 4) 3 11 v1) := Bd.o0 hB83 io9_112_3_6 (by decide) bd9_6_11
                have e86 : (((uI (uI M 3 8 4) 3 11 v1) 3 5) : Int32).toInt = (M 3 5).toInt := Eq.trans (congrArg Int32.toInt (Eq.trans (rd_k (by decide)) (rd_k (by decide)))) rfl
                have e87 : ((((uI (uI M 3 8 4) 3 11 v1) 3 5) + 1) : Int32).toInt = ((M 3 5).toInt) + (1) := ti_add e86 rfl (by omega)
                have hB85 : Bd (uI (uI (uI M 3 8 4) 3 11 v1) 3 5 (((uI (uI M 3 8 4) 3 11 v1) 3 5) + 1)) := Bd.o1 hB84 io9_112_3_6 (by decide) bd9_6_5 (show ((((uI (uI M 3 8 4) 3 11 v1) 3 5) + 1) : Int32).toInt = ((M 3 5).toInt + 1) from e87) (by omega)
                exact hQ _ _ _ _ hB85 (Eq.trans (Eq.trans (Eq.trans (rd_ne (by first | decide | omega)) (rd_ne (by first | decide | omega))) (rd_ne (by first | decide | omega))) hk_7_1)
              · skip
                have d88 : ((v1.toInt) : Int) = (61) := ci_eq rfl rfl c81
                have hB89 : Bd (uI M 3 8 3) := Bd.o0 hB io9_112_3_6 (by decide) bd9_6_8
                have hB90 : Bd (uI (uI M 3 8 3) 3 11 v1) := Bd.o0 hB89 io9_112_3_6 (by decide) bd9_6_11
                have e92 : (((uI (uI M 3 8 3) 3 11 v1) 3 5) : Int32).toInt = (M 3 5).toInt := Eq.trans (congrArg Int32.toInt (Eq.trans (rd_k (by decide)) (rd_k (by decide)))) rfl
                have e93 : ((((uI (uI M 3 8 3) 3 11 v1) 3 5) + 1) : Int32).toInt = ((M 3 5).toInt) + (1) := ti_add e92 rfl (by omega)
                have hB91 : Bd (uI (uI (uI M 3 8 3) 3 11 v1) 3 5 (((uI (uI M 3 8 3) 3 11 v1) 3 5) + 1)) := Bd.o1 hB90 io9_112_3_6 (by decide) bd9_6_5 (show ((((uI (uI M 3 8 3) 3 11 v1) 3 5) + 1) : Int32).toInt = ((M 3 5).toInt + 1) from e93) (by omega)
                exact hQ _ _ _ _ hB91 (Eq.trans (Eq.trans (Eq.trans (rd_ne (by first | decide | omega)) (rd_ne (by first | decide | omega))) (rd_ne (by first | decide | omega))) hk_7_1)
  refine sg_X6_advance_0 hc _ _ _ ?_
  have hB94 : Bd (uI I 3 7 (I 3 6)) := Bd.o0 hB0 io9_112_3_6 (by decide) bd9_6_7
  have b95 := Bd.o hB0 io9_112_3_6 bd9_6_5
  have e96 : (((uI I 3 7 (I 3 6)) 3 5) : Int32).toInt = (I 3 5).toInt := Eq.trans (congrArg Int32.toInt (rd_k (by decide))) rfl
  exact (L 1000000).1 _ _ _ hB94 (rd_ne (by first | decide | omega)) (by have q0 : (((uI I 3 7 (I 3 6)) 3 5) : Int32).toInt = (I 3 5).toInt := e96; omega) (by have q0 : (((uI I 3 7 (I 3 6)) 3 5) : Int32).toInt = (I 3 5).toInt := e96; omega)
set_option maxHeartbeats 2000000 in
theorem sp_X6_open {d : Nat} {Q : Qt} {v1 : Int32} {I : Im} {J : Jm} {R : Rm} (hB0 : Bd I) (hR0 : RI R) (hQ : ∀ (x : Int32) (y : Int64) (I2 : Im) (J2 : Jm), Bd I2 → (((I2 3 1).toInt = 0)) → Q x y I2 J2 R) : AM (d + 3) 61 112 [.ref 3, .int v1] I J R Q := by
  have i_v1 := i32 v1
  refine w_X6_open ?_
  have b2 := Bd.o hB0 io9_112_3_6 bd9_6_1
  have e3 : ((if ((I 3 1) : Int32) < v1 then (I 3 1) else v1) : Int32).toInt = min (v1.toInt) ((I 3 1).toInt) := ti_min rfl rfl
  have e4 : ((if (0 : Int32) < (if ((I 3 1) : Int32) < v1 then (I 3 1) else v1) then (if ((I 3 1) : Int32) < v1 then (I 3 1) else v1) else 0) : Int32).toInt = max (0) ((min (v1.toInt) ((I 3 1).toInt))) := ti_max rfl e3
  have hB1 : Bd (uI I 3 4 (if (0 : Int32) < (if ((I 3 1) : Int32) < v1 then (I 3 1) else v1) then (if ((I 3 1) : Int32) < v1 then (I 3 1) else v1) else 0)) := Bd.o1 hB0 io9_112_3_6 (by decide) bd9_6_4 (show ((if (0 : Int32) < (if ((I 3 1) : Int32) < v1 then (I 3 1) else v1) then (if ((I 3 1) : Int32) < v1 then (I 3 1) else v1) else 0) : Int32).toInt = (max (0) ((min (v1.toInt) ((I 3 1).toInt)))) from e4) (by omega)
  have hB5 : Bd (uI (uI I 3 4 (if (0 : Int32) < (if ((I 3 1) : Int32) < v1 then (I 3 1) else v1) then (if ((I 3 1) : Int32) < v1 then (I 3 1) else v1) else 0)) 3 1 0) := Bd.o1 hB1 io9_112_3_6 (by decide) bd9_6_1 (show (0 : Int32).toInt = 0 from rfl) (by omega)
  refine ⟨Or.inr rfl, ?_⟩
  have hB6 : Bd (uI (uI (uI I 3 4 (if (0 : Int32) < (if ((I 3 1) : Int32) < v1 then (I 3 1) else v1) then (if ((I 3 1) : Int32) < v1 then (I 3 1) else v1) else 0)) 3 1 0) 3 3 1) := Bd.o1 hB5 io9_112_3_6 (by decide) bd9_6_3 rfl (bl_ti (Or.inr rfl))
  have hB7 : Bd (uI (uI (uI (uI I 3 4 (if (0 : Int32) < (if ((I 3 1) : Int32) < v1 then (I 3 1) else v1) then (if ((I 3 1) : Int32) < v1 then (I 3 1) else v1) else 0)) 3 1 0) 3 3 1) 3 5 0) := Bd.o1 hB6 io9_112_3_6 (by decide) bd9_6_5 (show (0 : Int32).toInt = 0 from rfl) (by omega)
  have hB8 : Bd (uI (uI (uI (uI (uI I 3 4 (if (0 : Int32) < (if ((I 3 1) : Int32) < v1 then (I 3 1) else v1) then (if ((I 3 1) : Int32) < v1 then (I 3 1) else v1) else 0)) 3 1 0) 3 3 1) 3 5 0) 3 12 0) := Bd.o0 hB7 io9_112_3_6 (by decide) bd9_6_12
  have hB9 : Bd (uI (uI (uI (uI (uI (uI I 3 4 (if (0 : Int32) < (if ((I 3 1) : Int32) < v1 then (I 3 1) else v1) then (if ((I 3 1) : Int32) < v1 then (I 3 1) else v1) else 0)) 3 1 0) 3 3 1) 3 5 0) 3 12 0) 3 13 (-1)) := Bd.o0 hB8 io9_112_3_6 (by decide) bd9_6_13
  refine kp0 rfl (sp_X6_advance hB9 hR0 (fun x10 y15 I11 J12 hB13 p14 kq16 => ?_))
  have e17 : ((I11 3 1) : Int32).toInt = 0 := Eq.trans (congrArg Int32.toInt (Eq.trans (Eq.trans (Eq.trans (Eq.trans (Eq.trans kq16 (rd_k (by decide))) (rd_k (by decide))) (rd_k (by decide))) (rd_k (by decide))) rd_eq)) rfl
  exact hQ _ _ _ _ hB13 (by have q1 : ((I11 3 1) : Int32).toInt = 0 := e17; omega)
set_option maxHeartbeats 2000000 in
theorem sp_X6_takeNumber {d : Nat} {Q : Qt} {v1 : Int32} {v2 : Int32} {I : Im} {J : Jm} {R : Rm} (hB0 : Bd I) (hR0 : RI R) (hQ : ∀ (x : Int32) (y : Int64) (I2 : Im) (J2 : Jm), Bd I2 → (I2 7 1 = I 7 1) → Q x y I2 J2 R) : AM (d + 3) 72 112 [.ref 3, .int v1, .int v2] I J R Q := by
  have i_v1 := i32 v1
  have i_v2 := i32 v2
  refine w_X6_takeNumber ?_
  refine ⟨fun c1 => ?_, fun c1 => ?_⟩
  · skip
    have d2 : (((I 3 8).toInt) : Int) = (2) := ci_eq rfl rfl c1
    refine sp_X6_advance hB0 hR0 (fun x3 y8 I4 J5 hB6 p7 => ?_)
    refine ⟨fun c9 => ?_, fun c9 => ?_⟩
    · skip
      have d10 : (((I 3 11).toInt) : Int) < (v1.toInt) := ci_lt rfl rfl c9
      refine w_X6_wrongTaken ?_
      refine w_X6_wrong ?_
      have hB11 : Bd (uI I4 3 12 4) := Bd.o0 hB6 io9_112_3_6 (by decide) bd9_6_12
      have hB12 : Bd (uI (uI I4 3 12 4) 3 13 (I4 3 7)) := Bd.o0 hB11 io9_112_3_6 (by decide) bd9_6_13
      refine ⟨Or.inl rfl, ?_⟩
      intro o13
      refine ⟨Or.inl rfl, ?_⟩
      intro o14
      exact hQ _ _ _ _ hB12 (Eq.trans (Eq.trans (rd_ne (by first | decide | omega)) (rd_ne (by first | decide | omega))) p7)
    · skip
      have d15 : ((v1.toInt) : Int) ≤ ((I 3 11).toInt) := ci_nlt rfl rfl c9
      refine ⟨fun c16 => ?_, fun c16 => ?_⟩
      · skip
        have d17 : (((I 3 11).toInt) : Int) ≤ (v2.toInt) := ci_le rfl rfl c16
        exact hQ _ _ _ _ hB6 p7
      · skip
        have d18 : ((v2.toInt) : Int) < ((I 3 11).toInt) := ci_nle rfl rfl c16
        refine w_X6_wrongTaken ?_
        refine w_X6_wrong ?_
        have hB19 : Bd (uI I4 3 12 4) := Bd.o0 hB6 io9_112_3_6 (by decide) bd9_6_12
        have hB20 : Bd (uI (uI I4 3 12 4) 3 13 (I4 3 7)) := Bd.o0 hB19 io9_112_3_6 (by decide) bd9_6_13
        refine ⟨Or.inl rfl, ?_⟩
        intro o21
        refine ⟨Or.inl rfl, ?_⟩
        intro o22
        exact hQ _ _ _ _ hB20 (Eq.trans (Eq.trans (rd_ne (by first | decide | omega)) (rd_ne (by first | decide | omega))) p7)
  · skip
    have d23 : ¬ (((I 3 8).toInt) : Int) = (2) := ci_ne rfl rfl c1
    refine w_X6_misplaced ?_
    refine ⟨fun c24 => ?_, fun c24 => ?_⟩
    · skip
      have d25 : ¬ (((I 3 8).toInt) : Int) = (4) := ci_ne rfl rfl c24
      refine w_X6_wrong ?_
      have hB26 : Bd (uI I 3 12 2) := Bd.o0 hB0 io9_112_3_6 (by decide) bd9_6_12
      have hB27 : Bd (uI (uI I 3 12 2) 3 13 (I 3 6)) := Bd.o0 hB26 io9_112_3_6 (by decide) bd9_6_13
      refine ⟨Or.inl rfl, ?_⟩
      intro o28
      refine ⟨Or.inl rfl, ?_⟩
      intro o29
      exact hQ _ _ _ _ hB27 (Eq.trans (rd_ne (by first | decide | omega)) (rd_ne (by first | decide | omega)))
    · skip
      have d30 : (((I 3 8).toInt) : Int) = (4) := ci_eq rfl rfl c24
      refine w_X6_wrong ?_
      have hB31 : Bd (uI I 3 12 1) := Bd.o0 hB0 io9_112_3_6 (by decide) bd9_6_12
      have hB32 : Bd (uI (uI I 3 12 1) 3 13 (I 3 6)) := Bd.o0 hB31 io9_112_3_6 (by decide) bd9_6_13
      refine ⟨Or.inl rfl, ?_⟩
      intro o33
      refine ⟨Or.inl rfl, ?_⟩
      intro o34
      exact hQ _ _ _ _ hB32 (Eq.trans (rd_ne (by first | decide | omega)) (rd_ne (by first | decide | omega)))
set_option maxHeartbeats 2000000 in
theorem sp_X6_takeName {d : Nat} {Q : Qt} {I : Im} {J : Jm} {R : Rm} (hB0 : Bd I) (hR0 : RI R) (hQ : ∀ (x : Int32) (y : Int64) (I2 : Im) (J2 : Jm), Bd I2 → (I2 7 1 = I 7 1) → Q x y I2 J2 R) : AM (d + 3) 73 112 [.ref 3] I J R Q := by
  refine w_X6_takeName ?_
  refine ⟨fun c1 => ?_, fun c1 => ?_⟩
  · skip
    have d2 : ¬ (((I 3 9).toInt) : Int) = (0) := ci_ne rfl rfl c1
    refine w_X6_misplaced ?_
    refine ⟨fun c3 => ?_, fun c3 => ?_⟩
    · skip
      have d4 : ¬ (((I 3 8).toInt) : Int) = (4) := ci_ne rfl rfl c3
      refine w_X6_wrong ?_
      have hB5 : Bd (uI I 3 12 2) := Bd.o0 hB0 io9_112_3_6 (by decide) bd9_6_12
      have hB6 : Bd (uI (uI I 3 12 2) 3 13 (I 3 6)) := Bd.o0 hB5 io9_112_3_6 (by decide) bd9_6_13
      refine ⟨Or.inl rfl, ?_⟩
      intro o7
      refine ⟨Or.inl rfl, ?_⟩
      intro o8
      exact hQ _ _ _ _ hB6 (Eq.trans (rd_ne (by first | decide | omega)) (rd_ne (by first | decide | omega)))
    · skip
      have d9 : (((I 3 8).toInt) : Int) = (4) := ci_eq rfl rfl c3
      refine w_X6_wrong ?_
      have hB10 : Bd (uI I 3 12 1) := Bd.o0 hB0 io9_112_3_6 (by decide) bd9_6_12
      have hB11 : Bd (uI (uI I 3 12 1) 3 13 (I 3 6)) := Bd.o0 hB10 io9_112_3_6 (by decide) bd9_6_13
      refine ⟨Or.inl rfl, ?_⟩
      intro o12
      refine ⟨Or.inl rfl, ?_⟩
      intro o13
      exact hQ _ _ _ _ hB11 (Eq.trans (rd_ne (by first | decide | omega)) (rd_ne (by first | decide | omega)))
  · skip
    have d14 : (((I 3 9).toInt) : Int) = (0) := ci_eq rfl rfl c1
    refine ⟨fun c15 => ?_, fun c15 => ?_⟩
    · skip
      rw [lg_cmp_eq] at c15
      have d16 : ¬ ((((J 3 10) : Int64).toInt) : Int) = (0) := cl_ne rfl rfl c15
      refine sp_X6_advance hB0 hR0 (fun x17 y22 I18 J19 hB20 p21 => ?_)
      exact hQ _ _ _ _ hB20 p21
    · skip
      rw [lg_cmp_eq] at c15
      have d23 : ((((J 3 10) : Int64).toInt) : Int) = (0) := cl_eq rfl rfl c15
      refine w_X6_misplaced ?_
      refine ⟨fun c24 => ?_, fun c24 => ?_⟩
      · skip
        have d25 : ¬ (((I 3 8).toInt) : Int) = (4) := ci_ne rfl rfl c24
        refine w_X6_wrong ?_
        have hB26 : Bd (uI I 3 12 2) := Bd.o0 hB0 io9_112_3_6 (by decide) bd9_6_12
        have hB27 : Bd (uI (uI I 3 12 2) 3 13 (I 3 6)) := Bd.o0 hB26 io9_112_3_6 (by decide) bd9_6_13
        refine ⟨Or.inl rfl, ?_⟩
        intro o28
        refine ⟨Or.inl rfl, ?_⟩
        intro o29
        exact hQ _ _ _ _ hB27 (Eq.trans (rd_ne (by first | decide | omega)) (rd_ne (by first | decide | omega)))
      · skip
        have d30 : (((I 3 8).toInt) : Int) = (4) := ci_eq rfl rfl c24
        refine w_X6_wrong ?_
        have hB31 : Bd (uI I 3 12 1) := Bd.o0 hB0 io9_112_3_6 (by decide) bd9_6_12
        have hB32 : Bd (uI (uI I 3 12 1) 3 13 (I 3 6)) := Bd.o0 hB31 io9_112_3_6 (by decide) bd9_6_13
        refine ⟨Or.inl rfl, ?_⟩
        intro o33
        refine ⟨Or.inl rfl, ?_⟩
        intro o34
        exact hQ _ _ _ _ hB32 (Eq.trans (rd_ne (by first | decide | omega)) (rd_ne (by first | decide | omega)))
set_option maxHeartbeats 2000000 in
theorem sp_X6_takeAny {d : Nat} {Q : Qt} {I : Im} {J : Jm} {R : Rm} (hB0 : Bd I) (hR0 : RI R) (hQ : ∀ (x : Int32) (y : Int64) (I2 : Im) (J2 : Jm), Bd I2 → (I2 7 1 = I 7 1) → Q x y I2 J2 R) : AM (d + 3) 68 112 [.ref 3] I J R Q := by
  refine w_X6_takeAny ?_
  refine sp_X6_advance hB0 hR0 (fun x1 y6 I2 J3 hB4 p5 => ?_)
  refine ⟨Or.inr rfl, ?_⟩
  exact hQ _ _ _ _ hB4 p5
set_option maxHeartbeats 2000000 in
theorem sp_X6_takeWord {d : Nat} {Q : Qt} {v1 : Int32} {I : Im} {J : Jm} {R : Rm} (hB0 : Bd I) (hR0 : RI R) (hQ : ∀ (x : Int32) (y : Int64) (I2 : Im) (J2 : Jm), Bd I2 → (I2 7 1 = I 7 1) → Q x y I2 J2 R) : AM (d + 4) 69 112 [.ref 3, .int v1] I J R Q := by
  have i_v1 := i32 v1
  refine w_X6_takeWord ?_
  refine ⟨fun c1 => ?_, fun c1 => ?_⟩
  · skip
    have d2 : ¬ (((I 3 9).toInt) : Int) = (v1.toInt) := ci_ne rfl rfl c1
    refine w_X6_misplaced ?_
    refine ⟨fun c3 => ?_, fun c3 => ?_⟩
    · skip
      have d4 : ¬ (((I 3 8).toInt) : Int) = (4) := ci_ne rfl rfl c3
      refine w_X6_wrong ?_
      have hB5 : Bd (uI I 3 12 2) := Bd.o0 hB0 io9_112_3_6 (by decide) bd9_6_12
      have hB6 : Bd (uI (uI I 3 12 2) 3 13 (I 3 6)) := Bd.o0 hB5 io9_112_3_6 (by decide) bd9_6_13
      refine ⟨Or.inl rfl, ?_⟩
      intro o7
      refine ⟨Or.inl rfl, ?_⟩
      intro o8
      refine ⟨Or.inl rfl, ?_⟩
      exact hQ _ _ _ _ hB6 (Eq.trans (rd_ne (by first | decide | omega)) (rd_ne (by first | decide | omega)))
    · skip
      have d9 : (((I 3 8).toInt) : Int) = (4) := ci_eq rfl rfl c3
      refine w_X6_wrong ?_
      have hB10 : Bd (uI I 3 12 1) := Bd.o0 hB0 io9_112_3_6 (by decide) bd9_6_12
      have hB11 : Bd (uI (uI I 3 12 1) 3 13 (I 3 6)) := Bd.o0 hB10 io9_112_3_6 (by decide) bd9_6_13
      refine ⟨Or.inl rfl, ?_⟩
      intro o12
      refine ⟨Or.inl rfl, ?_⟩
      intro o13
      refine ⟨Or.inl rfl, ?_⟩
      exact hQ _ _ _ _ hB11 (Eq.trans (rd_ne (by first | decide | omega)) (rd_ne (by first | decide | omega)))
  · skip
    have d14 : (((I 3 9).toInt) : Int) = (v1.toInt) := ci_eq rfl rfl c1
    refine sp_X6_takeAny hB0 hR0 (fun x15 y20 I16 J17 hB18 p19 => ?_)
    intro o21
    have i22 := i32 x15
    refine ⟨o21, ?_⟩
    exact hQ _ _ _ _ hB18 p19
set_option maxHeartbeats 2000000 in
theorem sp_X6_takeSemicolon {d : Nat} {Q : Qt} {I : Im} {J : Jm} {R : Rm} (hB0 : Bd I) (hR0 : RI R) (hQ : ∀ (x : Int32) (y : Int64) (I2 : Im) (J2 : Jm), Bd I2 → (I2 7 1 = I 7 1) → Q x y I2 J2 R) : AM (d + 4) 70 112 [.ref 3] I J R Q := by
  refine w_X6_takeSemicolon ?_
  refine ⟨fun c1 => ?_, fun c1 => ?_⟩
  · skip
    have d2 : ¬ (((I 3 8).toInt) : Int) = (3) := ci_ne rfl rfl c1
    refine w_X6_misplaced ?_
    refine ⟨fun c3 => ?_, fun c3 => ?_⟩
    · skip
      have d4 : ¬ (((I 3 8).toInt) : Int) = (4) := ci_ne rfl rfl c3
      refine w_X6_wrong ?_
      have hB5 : Bd (uI I 3 12 2) := Bd.o0 hB0 io9_112_3_6 (by decide) bd9_6_12
      have hB6 : Bd (uI (uI I 3 12 2) 3 13 (I 3 6)) := Bd.o0 hB5 io9_112_3_6 (by decide) bd9_6_13
      refine ⟨Or.inl rfl, ?_⟩
      intro o7
      refine ⟨Or.inl rfl, ?_⟩
      intro o8
      refine ⟨Or.inl rfl, ?_⟩
      exact hQ _ _ _ _ hB6 (Eq.trans (rd_ne (by first | decide | omega)) (rd_ne (by first | decide | omega)))
    · skip
      have d9 : (((I 3 8).toInt) : Int) = (4) := ci_eq rfl rfl c3
      refine w_X6_wrong ?_
      have hB10 : Bd (uI I 3 12 1) := Bd.o0 hB0 io9_112_3_6 (by decide) bd9_6_12
      have hB11 : Bd (uI (uI I 3 12 1) 3 13 (I 3 6)) := Bd.o0 hB10 io9_112_3_6 (by decide) bd9_6_13
      refine ⟨Or.inl rfl, ?_⟩
      intro o12
      refine ⟨Or.inl rfl, ?_⟩
      intro o13
      refine ⟨Or.inl rfl, ?_⟩
      exact hQ _ _ _ _ hB11 (Eq.trans (rd_ne (by first | decide | omega)) (rd_ne (by first | decide | omega)))
  · skip
    have d14 : (((I 3 8).toInt) : Int) = (3) := ci_eq rfl rfl c1
    refine ⟨fun c15 => ?_, fun c15 => ?_⟩
    · skip
      have d16 : ¬ (((I 3 11).toInt) : Int) = (59) := ci_ne rfl rfl c15
      refine w_X6_misplaced ?_
      refine ⟨fun c17 => ?_, fun c17 => ?_⟩
      · skip
        have d18 : ¬ (((I 3 8).toInt) : Int) = (4) := ci_ne rfl rfl c17
        refine w_X6_wrong ?_
        have hB19 : Bd (uI I 3 12 2) := Bd.o0 hB0 io9_112_3_6 (by decide) bd9_6_12
        have hB20 : Bd (uI (uI I 3 12 2) 3 13 (I 3 6)) := Bd.o0 hB19 io9_112_3_6 (by decide) bd9_6_13
        refine ⟨Or.inl rfl, ?_⟩
        intro o21
        refine ⟨Or.inl rfl, ?_⟩
        intro o22
        refine ⟨Or.inl rfl, ?_⟩
        exact hQ _ _ _ _ hB20 (Eq.trans (rd_ne (by first | decide | omega)) (rd_ne (by first | decide | omega)))
      · skip
        have d23 : (((I 3 8).toInt) : Int) = (4) := ci_eq rfl rfl c17
        refine w_X6_wrong ?_
        have hB24 : Bd (uI I 3 12 1) := Bd.o0 hB0 io9_112_3_6 (by decide) bd9_6_12
        have hB25 : Bd (uI (uI I 3 12 1) 3 13 (I 3 6)) := Bd.o0 hB24 io9_112_3_6 (by decide) bd9_6_13
        refine ⟨Or.inl rfl, ?_⟩
        intro o26
        refine ⟨Or.inl rfl, ?_⟩
        intro o27
        refine ⟨Or.inl rfl, ?_⟩
        exact hQ _ _ _ _ hB25 (Eq.trans (rd_ne (by first | decide | omega)) (rd_ne (by first | decide | omega)))
    · skip
      have d28 : (((I 3 11).toInt) : Int) = (59) := ci_eq rfl rfl c15
      refine sp_X6_takeAny hB0 hR0 (fun x29 y34 I30 J31 hB32 p33 => ?_)
      intro o35
      have i36 := i32 x29
      refine ⟨o35, ?_⟩
      exact hQ _ _ _ _ hB32 p33
set_option maxHeartbeats 2000000 in
theorem sp_X6_takeCompares {d : Nat} {Q : Qt} {I : Im} {J : Jm} {R : Rm} (hB0 : Bd I) (hR0 : RI R) (hQ : ∀ (x : Int32) (y : Int64) (I2 : Im) (J2 : Jm), Bd I2 → (I2 7 1 = I 7 1) → Q x y I2 J2 R) : AM (d + 3) 71 112 [.ref 3] I J R Q := by
  refine w_X6_takeCompares ?_
  refine ⟨fun c1 => ?_, fun c1 => ?_⟩
  · skip
    have d2 : ¬ (((I 3 8).toInt) : Int) = (3) := ci_ne rfl rfl c1
    refine w_X6_misplaced ?_
    refine ⟨fun c3 => ?_, fun c3 => ?_⟩
    · skip
      have d4 : ¬ (((I 3 8).toInt) : Int) = (4) := ci_ne rfl rfl c3
      refine w_X6_wrong ?_
      have hB5 : Bd (uI I 3 12 2) := Bd.o0 hB0 io9_112_3_6 (by decide) bd9_6_12
      have hB6 : Bd (uI (uI I 3 12 2) 3 13 (I 3 6)) := Bd.o0 hB5 io9_112_3_6 (by decide) bd9_6_13
      refine ⟨Or.inl rfl, ?_⟩
      intro o7
      refine ⟨Or.inl rfl, ?_⟩
      intro o8
      exact hQ _ _ _ _ hB6 (Eq.trans (rd_ne (by first | decide | omega)) (rd_ne (by first | decide | omega)))
    · skip
      have d9 : (((I 3 8).toInt) : Int) = (4) := ci_eq rfl rfl c3
      refine w_X6_wrong ?_
      have hB10 : Bd (uI I 3 12 1) := Bd.o0 hB0 io9_112_3_6 (by decide) bd9_6_12
      have hB11 : Bd (uI (uI I 3 12 1) 3 13 (I 3 6)) := Bd.o0 hB10 io9_112_3_6 (by decide) bd9_6_13
      refine ⟨Or.inl rfl, ?_⟩
      intro o12
      refine ⟨Or.inl rfl, ?_⟩
      intro o13
      exact hQ _ _ _ _ hB11 (Eq.trans (rd_ne (by first | decide | omega)) (rd_ne (by first | decide | omega)))
  · skip
    have d14 : (((I 3 8).toInt) : Int) = (3) := ci_eq rfl rfl c1
    refine ⟨fun c15 => ?_, fun c15 => ?_⟩
    · skip
      have d16 : ¬ (((I 3 11).toInt) : Int) = (59) := ci_ne rfl rfl c15
      refine sp_X6_advance hB0 hR0 (fun x17 y22 I18 J19 hB20 p21 => ?_)
      exact hQ _ _ _ _ hB20 p21
    · skip
      have d23 : (((I 3 11).toInt) : Int) = (59) := ci_eq rfl rfl c15
      refine w_X6_misplaced ?_
      refine ⟨fun c24 => ?_, fun c24 => ?_⟩
      · skip
        have d25 : ¬ (((I 3 8).toInt) : Int) = (4) := ci_ne rfl rfl c24
        refine w_X6_wrong ?_
        have hB26 : Bd (uI I 3 12 2) := Bd.o0 hB0 io9_112_3_6 (by decide) bd9_6_12
        have hB27 : Bd (uI (uI I 3 12 2) 3 13 (I 3 6)) := Bd.o0 hB26 io9_112_3_6 (by decide) bd9_6_13
        refine ⟨Or.inl rfl, ?_⟩
        intro o28
        refine ⟨Or.inl rfl, ?_⟩
        intro o29
        exact hQ _ _ _ _ hB27 (Eq.trans (rd_ne (by first | decide | omega)) (rd_ne (by first | decide | omega)))
      · skip
        have d30 : (((I 3 8).toInt) : Int) = (4) := ci_eq rfl rfl c24
        refine w_X6_wrong ?_
        have hB31 : Bd (uI I 3 12 1) := Bd.o0 hB0 io9_112_3_6 (by decide) bd9_6_12
        have hB32 : Bd (uI (uI I 3 12 1) 3 13 (I 3 6)) := Bd.o0 hB31 io9_112_3_6 (by decide) bd9_6_13
        refine ⟨Or.inl rfl, ?_⟩
        intro o33
        refine ⟨Or.inl rfl, ?_⟩
        intro o34
        exact hQ _ _ _ _ hB32 (Eq.trans (rd_ne (by first | decide | omega)) (rd_ne (by first | decide | omega)))
set_option maxHeartbeats 2000000 in
theorem sp_X0_manNamed {d : Nat} {Q : Qt} {v0 : Nat} {v1 : Int64} {I : Im} {J : Jm} {R : Rm} (hB0 : Bd I) (hR0 : RI R) (ho0 : isO 112 v0 0 = true) (hQ : ∀ (x : Int32) (y : Int64) (I2 : Im) (J2 : Jm), Bd I2 → (I2 7 1 = I 7 1) → Q x y I2 J2 R) : AM (d + 1) 5 112 [.ref v0, .long v1] I J R Q := by
  have i_v1 := i64 v1
  refine am_X0_manNamed (fun P hc => ?_)
  have L : ∀ n : Nat, (∀ (v3 : Int32) (M : Im) (JM : Jm), Bd M → (M 7 1 = I 7 1) → (0 ≤ v3.toInt ∧ v3.toInt ≤ 6) → 6 - v3.toInt < (n : Int) → P 2 112 [(0, .ref v0), (1, .long v1), (3, .int v3)] [] M JM R) := by
    intro n
    induction n with
    | zero =>
      exact fun v3 M J _ _ hi hm => absurd hm (by omega)
    | succ n ih =>
      intro v3 M JM hB hk_7_1 hi hm
      have i_v1 := i64 v1
      have i_v3 := i32 v3
      refine sg_X0_manNamed_2 hc _ _ _ _ _ _ ?_
      refine bif_t ho0 ?_
      refine ⟨fun c1 => ?_, fun c1 => ?_⟩
      · skip
        have b2 := Bd.o hB ho0 bd9_0_4
        have d3 : (((M v0 4).toInt) : Int) ≤ (v3.toInt) := ci_le rfl rfl c1
        exact hQ _ _ _ _ hB hk_7_1
      · skip
        have b4 := Bd.o hB ho0 bd9_0_4
        have d5 : ((v3.toInt) : Int) < ((M v0 4).toInt) := ci_nle rfl rfl c1
        refine bif_t ho0 ?_
        refine bif_t (fa_0_5 ho0).1 ?_
        refine ⟨by rw [(fa_0_5 ho0).2.1]; exact vp_of (a := v3.toInt) rfl (by omega) (by omega), ?_⟩
        refine ⟨fun c6 => ?_, fun c6 => ?_⟩
        · skip
          rw [lg_cmp_eq] at c6
          have d7 : ¬ ((((JM (v0 + 2) (Int32.toNatClampNeg v3)) : Int64).toInt) : Int) = ((v1 : Int64).toInt) := cl_ne rfl rfl c6
          have e8 : ((v3 + 1) : Int32).toInt = (v3.toInt) + (1) := ti_add rfl rfl (by omega)
          exact ih _ _ _ hB hk_7_1 (by have q0 : ((v3 + 1) : Int32).toInt = (v3.toInt + 1) := e8; omega) (by have q0 : ((v3 + 1) : Int32).toInt = (v3.toInt + 1) := e8; omega)
        · skip
          rw [lg_cmp_eq] at c6
          have d9 : ((((JM (v0 + 2) (Int32.toNatClampNeg v3)) : Int64).toInt) : Int) = ((v1 : Int64).toInt) := cl_eq rfl rfl c6
          exact hQ _ _ _ _ hB hk_7_1
  refine sg_X0_manNamed_0 hc _ _ _ _ _ ?_
  exact (L 1000000) _ _ _ hB0 rfl (by have q0 : (0 : Int32).toInt = 0 := rfl; omega) (by have q0 : (0 : Int32).toInt = 0 := rfl; omega)
set_option maxHeartbeats 2000000 in
theorem sp_X0_pieces {d : Nat} {Q : Qt} {v0 : Nat} {I : Im} {J : Jm} {R : Rm} (hB0 : Bd I) (hR0 : RI R) (ho0 : isO 112 v0 0 = true) (hQ : ∀ (x : Int32) (y : Int64) (I2 : Im) (J2 : Jm), Bd I2 → (True) → Q x y I2 J2 R) : AM (d + 1) 6 112 [.ref v0] I J R Q := by
  refine am_X0_pieces (fun P hc => ?_)
  have L : ∀ n : Nat, (∀ (v1 : Int32) (v2 : Int32) (M : Im) (JM : Jm), Bd M → (1 ≤ v2.toInt ∧ v2.toInt ≤ 31) → 31 - v2.toInt < (n : Int) → P 4 112 [(0, .ref v0), (1, .int v1), (2, .int v2)] [] M JM R) := by
    intro n
    induction n with
    | zero =>
      exact fun v1 v2 M J _ hi hm => absurd hm (by omega)
    | succ n ih =>
      intro v1 v2 M JM hB hi hm
      have i_v1 := i32 v1
      have i_v2 := i32 v2
      refine sg_X0_pieces_4 hc _ _ _ _ _ _ ?_
      refine ⟨fun c1 => ?_, fun c1 => ?_⟩
      · skip
        have d2 : ((30) : Int) < (v2.toInt) := ci_lt rfl rfl c1
        exact hQ _ _ _ _ hB trivial
      · skip
        have d3 : ((v2.toInt) : Int) ≤ (30) := ci_nlt rfl rfl c1
        refine bif_t ho0 ?_
        refine bif_t (fa_0_0 ho0).1 ?_
        refine ⟨by rw [(fa_0_0 ho0).2.1]; exact vp_of (a := v2.toInt) rfl (by omega) (by omega), ?_⟩
        have e4 : ((v2 + 1) : Int32).toInt = (v2.toInt) + (1) := ti_add rfl rfl (by omega)
        exact ih _ _ _ _ hB (by have q0 : ((v2 + 1) : Int32).toInt = (v2.toInt + 1) := e4; omega) (by have q0 : ((v2 + 1) : Int32).toInt = (v2.toInt + 1) := e4; omega)
  refine sg_X0_pieces_0 hc _ _ _ _ ?_
  exact (L 1000000) _ _ _ _ hB0 (by have q0 : (1 : Int32).toInt = 1 := rfl; omega) (by have q0 : (1 : Int32).toInt = 1 := rfl; omega)
set_option maxHeartbeats 2000000 in
theorem sp_X0_stockSet {d : Nat} {Q : Qt} {v0 : Nat} {I : Im} {J : Jm} {R : Rm} (hB0 : Bd I) (hR0 : RI R) (ho0 : isO 112 v0 0 = true) (hQ : ∀ (x : Int32) (y : Int64) (I2 : Im) (J2 : Jm), Bd I2 → (True) → Q x y I2 J2 R) : AM (d + 2) 7 112 [.ref v0] I J R Q := by
  refine am_X0_stockSet (fun P hc => ?_)
  have L : ∀ n : Nat, (∀ (v1 : Int32) (v2 : Int32) (M : Im) (JM : Jm), Bd M → (1 ≤ v2.toInt ∧ v2.toInt ≤ 31) → 31 - v2.toInt < (n : Int) → P 4 112 [(0, .ref v0), (1, .int v1), (2, .int v2)] [] M JM R) := by
    intro n
    induction n with
    | zero =>
      exact fun v1 v2 M J _ hi hm => absurd hm (by omega)
    | succ n ih =>
      intro v1 v2 M JM hB hi hm
      have i_v1 := i32 v1
      have i_v2 := i32 v2
      refine sg_X0_stockSet_4 hc _ _ _ _ _ _ ?_
      refine ⟨fun c1 => ?_, fun c1 => ?_⟩
      · skip
        have d2 : ((30) : Int) < (v2.toInt) := ci_lt rfl rfl c1
        exact hQ _ _ _ _ hB trivial
      · skip
        have d3 : ((v2.toInt) : Int) ≤ (30) := ci_nlt rfl rfl c1
        refine bif_t ho0 ?_
        refine bif_t (fa_0_0 ho0).1 ?_
        refine ⟨by rw [(fa_0_0 ho0).2.1]; exact vp_of (a := v2.toInt) rfl (by omega) (by omega), ?_⟩
        refine ⟨fun c4 => ?_, fun c4 => ?_⟩
        · skip
          have d5 : (((M (v0 + 1) (Int32.toNatClampNeg v2)).toInt) : Int) ≤ (0) := ci_le rfl rfl c4
          have e6 : ((v2 + 1) : Int32).toInt = (v2.toInt) + (1) := ti_add rfl rfl (by omega)
          exact ih _ _ _ _ hB (by have q0 : ((v2 + 1) : Int32).toInt = (v2.toInt + 1) := e6; omega) (by have q0 : ((v2 + 1) : Int32).toInt = (v2.toInt + 1) := e6; omega)
        · skip
          have d7 : ((0) : Int) < ((M (v0 + 1) (Int32.toNatClampNeg v2)).toInt) := ci_nle rfl rfl c4
          refine w_X11_bit ?_
          have e8 : ((v2 + 1) : Int32).toInt = (v2.toInt) + (1) := ti_add rfl rfl (by omega)
          exact ih _ _ _ _ hB (by have q0 : ((v2 + 1) : Int32).toInt = (v2.toInt + 1) := e8; omega) (by have q0 : ((v2 + 1) : Int32).toInt = (v2.toInt + 1) := e8; omega)
  refine sg_X0_stockSet_0 hc _ _ _ _ ?_
  exact (L 1000000) _ _ _ _ hB0 (by have q0 : (1 : Int32).toInt = 1 := rfl; omega) (by have q0 : (1 : Int32).toInt = 1 := rfl; omega)
set_option maxHeartbeats 2000000 in
theorem sp_X0_stockCrumbs {d : Nat} {Q : Qt} {v0 : Nat} {I : Im} {J : Jm} {R : Rm} (hB0 : Bd I) (hR0 : RI R) (ho0 : isO 112 v0 0 = true) (hQ : ∀ (x : Int32) (y : Int64) (I2 : Im) (J2 : Jm), Bd I2 → (True) → Q x y I2 J2 R) : AM (d + 2) 8 112 [.ref v0] I J R Q := by
  refine am_X0_stockCrumbs (fun P hc => ?_)
  have L : ∀ n : Nat, (∀ (v1 : Int64) (v3 : Int32) (M : Im) (JM : Jm), Bd M → (1 ≤ v3.toInt ∧ v3.toInt ≤ 31) → 31 - v3.toInt < (n : Int) → P 4 112 [(0, .ref v0), (1, .long v1), (3, .int v3)] [] M JM R) := by
    intro n
    induction n with
    | zero =>
      exact fun v1 v3 M J _ hi hm => absurd hm (by omega)
    | succ n ih =>
      intro v1 v3 M JM hB hi hm
      have i_v1 := i64 v1
      have i_v3 := i32 v3
      refine sg_X0_stockCrumbs_4 hc _ _ _ _ _ _ ?_
      refine ⟨fun c1 => ?_, fun c1 => ?_⟩
      · skip
        have d2 : ((30) : Int) < (v3.toInt) := ci_lt rfl rfl c1
        exact hQ _ _ _ _ hB trivial
      · skip
        have d3 : ((v3.toInt) : Int) ≤ (30) := ci_nlt rfl rfl c1
        refine bif_t ho0 ?_
        refine bif_t (fa_0_0 ho0).1 ?_
        refine ⟨by rw [(fa_0_0 ho0).2.1]; exact vp_of (a := v3.toInt) rfl (by omega) (by omega), ?_⟩
        refine w_X11_crumbs ?_
        refine ⟨fun c4 => ?_, fun c4 => ?_⟩
        · skip
          have d5 : ((1) : Int) ≤ (v3.toInt) := ci_le rfl rfl c4
          refine ⟨(fun z => by have z2 : (v3.toInt : Int) = 0 := cl_eq (tl_i2l rfl) rfl z; omega), ?_⟩
          have e6 : ((v3 + 1) : Int32).toInt = (v3.toInt) + (1) := ti_add rfl rfl (by omega)
          exact ih _ _ _ _ hB (by have q0 : ((v3 + 1) : Int32).toInt = (v3.toInt + 1) := e6; omega) (by have q0 : ((v3 + 1) : Int32).toInt = (v3.toInt + 1) := e6; omega)
        · skip
          have d7 : ((v3.toInt) : Int) < (1) := ci_nle rfl rfl c4
          have e8 : ((v3 + 1) : Int32).toInt = (v3.toInt) + (1) := ti_add rfl rfl (by omega)
          exact ih _ _ _ _ hB (by have q0 : ((v3 + 1) : Int32).toInt = (v3.toInt + 1) := e8; omega) (by have q0 : ((v3 + 1) : Int32).toInt = (v3.toInt + 1) := e8; omega)
  refine sg_X0_stockCrumbs_0 hc _ _ _ _ ?_
  exact (L 1000000) _ _ _ _ hB0 (by have q0 : (1 : Int32).toInt = 1 := rfl; omega) (by have q0 : (1 : Int32).toInt = 1 := rfl; omega)
set_option maxHeartbeats 2000000 in
theorem sp_X0_holding {d : Nat} {Q : Qt} {v0 : Nat} {v1 : Int32} {I : Im} {J : Jm} {R : Rm} (hB0 : Bd I) (hR0 : RI R) (ho0 : isO 112 v0 0 = true) (hv1 : 0 ≤ v1.toInt ∧ v1.toInt ≤ 5) (hQ : ∀ (x : Int32) (y : Int64) (I2 : Im) (J2 : Jm), Bd I2 → (True) → Q x y I2 J2 R) : AM (d + 2) 9 112 [.ref v0, .int v1] I J R Q := by
  have i_v1 := i32 v1
  refine am_X0_holding (fun P hc => ?_)
  have L : ∀ n : Nat, (∀ (v2 : Int64) (v4 : Int32) (M : Im) (JM : Jm), Bd M → (0 ≤ v1.toInt ∧ v1.toInt ≤ 5 ∧ 1 ≤ v4.toInt ∧ v4.toInt ≤ 31) → 31 - v4.toInt < (n : Int) → P 5 112 [(0, .ref v0), (1, .int v1), (2, .long v2), (4, .int v4)] [] M JM R) := by
    intro n
    induction n with
    | zero =>
      exact fun v2 v4 M J _ hi hm => absurd hm (by omega)
    | succ n ih =>
      intro v2 v4 M JM hB hi hm
      have i_v1 := i32 v1
      have i_v2 := i64 v2
      have i_v4 := i32 v4
      refine sg_X0_holding_5 hc _ _ _ _ _ _ _ ?_
      refine ⟨fun c1 => ?_, fun c1 => ?_⟩
      · skip
        have d2 : ((30) : Int) < (v4.toInt) := ci_lt rfl rfl c1
        exact hQ _ _ _ _ hB trivial
      · skip
        have d3 : ((v4.toInt) : Int) ≤ (30) := ci_nlt rfl rfl c1
        refine bif_t ho0 ?_
        refine bif_t (fa_0_8 ho0).1 ?_
        refine ⟨by rw [(fa_0_8 ho0).2.1]; exact vp_of (a := v1.toInt) rfl (by omega) (by omega), ?_⟩
        refine w_X11_isIn ?_
        refine ⟨fun c4 => ?_, fun c4 => ?_⟩
        · skip
          have d5 : (((((M (v0 + 5) (Int32.toNatClampNeg v1)) &&& (1 <<< ((v4 - 1) &&& 31))) : Int32).toInt) : Int) = (0) := ci_eq rfl rfl c4
          refine ⟨Or.inl rfl, ?_⟩
          intro o6
          refine ⟨fun c7 => ?_, fun c7 => ?_⟩
          · skip
            have e8 : ((v4 + 1) : Int32).toInt = (v4.toInt) + (1) := ti_add rfl rfl (by omega)
            exact ih _ _ _ _ hB (by have q0 : ((v4 + 1) : Int32).toInt = (v4.toInt + 1) := e8; omega) (by have q0 : ((v4 + 1) : Int32).toInt = (v4.toInt + 1) := e8; omega)
          · exact absurd c7 (by decide)
        · skip
          have d9 : ¬ (((((M (v0 + 5) (Int32.toNatClampNeg v1)) &&& (1 <<< ((v4 - 1) &&& 31))) : Int32).toInt) : Int) = (0) := ci_ne rfl rfl c4
          refine ⟨Or.inr rfl, ?_⟩
          intro o10
          refine ⟨fun c11 => ?_, fun c11 => ?_⟩
          · exact absurd c11 (by decide)
          · skip
            refine w_X11_crumbs ?_
            refine ⟨fun c12 => ?_, fun c12 => ?_⟩
            · skip
              have d13 : ((1) : Int) ≤ (v4.toInt) := ci_le rfl rfl c12
              refine ⟨(fun z => by have z2 : (v4.toInt : Int) = 0 := cl_eq (tl_i2l rfl) rfl z; omega), ?_⟩
              have e14 : ((v4 + 1) : Int32).toInt = (v4.toInt) + (1) := ti_add rfl rfl (by omega)
              exact ih _ _ _ _ hB (by have q0 : ((v4 + 1) : Int32).toInt = (v4.toInt + 1) := e14; omega) (by have q0 : ((v4 + 1) : Int32).toInt = (v4.toInt + 1) := e14; omega)
            · skip
              have d15 : ((v4.toInt) : Int) < (1) := ci_nle rfl rfl c12
              have e16 : ((v4 + 1) : Int32).toInt = (v4.toInt) + (1) := ti_add rfl rfl (by omega)
              exact ih _ _ _ _ hB (by have q0 : ((v4 + 1) : Int32).toInt = (v4.toInt + 1) := e16; omega) (by have q0 : ((v4 + 1) : Int32).toInt = (v4.toInt + 1) := e16; omega)
  refine sg_X0_holding_0 hc _ _ _ _ _ ?_
  exact (L 1000000) _ _ _ _ hB0 (by have q0 : (1 : Int32).toInt = 1 := rfl; omega) (by have q0 : (1 : Int32).toInt = 1 := rfl; omega)
set_option maxHeartbeats 2000000 in
theorem sp_X0_lacking {d : Nat} {Q : Qt} {v0 : Nat} {v1 : Int32} {I : Im} {J : Jm} {R : Rm} (hB0 : Bd I) (hR0 : RI R) (ho0 : isO 112 v0 0 = true) (hv1 : 0 ≤ v1.toInt ∧ v1.toInt ≤ 5) (hQ : ∀ (x : Int32) (y : Int64) (I2 : Im) (J2 : Jm), Bd I2 → (True) → Q x y I2 J2 R) : AM (d + 3) 11 112 [.ref v0, .int v1] I J R Q := by
  have i_v1 := i32 v1
  refine w_X0_lacking ?_
  refine bif_t ho0 ?_
  refine bif_t (fa_0_6 ho0).1 ?_
  refine ⟨by rw [(fa_0_6 ho0).2.1]; exact vp_of (a := v1.toInt) rfl (by omega) (by omega), ?_⟩
  refine bif_t ho0 ?_
  refine bif_t (fa_0_7 ho0).1 ?_
  refine ⟨by rw [(fa_0_7 ho0).2.1]; exact vp_of (a := v1.toInt) rfl (by omega) (by omega), ?_⟩
  refine w_X11_crumbs ?_
  refine ⟨fun c1 => ?_, fun c1 => ?_⟩
  · skip
    have d2 : ((1) : Int) ≤ ((I (v0 + 4) (Int32.toNatClampNeg v1)).toInt) := ci_le rfl rfl c1
    have i3 := i32 ((I (v0 + 4) (Int32.toNatClampNeg v1)))
    refine ⟨(fun z => by have z2 : ((I (v0 + 4) (Int32.toNatClampNeg v1)).toInt : Int) = 0 := cl_eq (tl_i2l rfl) rfl z; omega), ?_⟩
    refine bif_t ho0 ?_
    refine sp_X0_holding hB0 hR0 ho0 (by have z : (v1 : Int32).toInt = v1.toInt := rfl; omega) (fun x4 y9 I5 J6 hB7 p8 => ?_)
    exact hQ _ _ _ _ hB7 trivial
  · skip
    have d10 : (((I (v0 + 4) (Int32.toNatClampNeg v1)).toInt) : Int) < (1) := ci_nle rfl rfl c1
    refine bif_t ho0 ?_
    refine sp_X0_holding hB0 hR0 ho0 (by have z : (v1 : Int32).toInt = v1.toInt := rfl; omega) (fun x11 y16 I12 J13 hB14 p15 => ?_)
    exact hQ _ _ _ _ hB14 trivial
set_option maxHeartbeats 2000000 in
theorem sp_X0_allHoldings {d : Nat} {Q : Qt} {v0 : Nat} {I : Im} {J : Jm} {R : Rm} (hB0 : Bd I) (hR0 : RI R) (ho0 : isO 112 v0 0 = true) (hQ : ∀ (x : Int32) (y : Int64) (I2 : Im) (J2 : Jm), Bd I2 → (True) → Q x y I2 J2 R) : AM (d + 3) 10 112 [.ref v0] I J R Q := by
  refine am_X0_allHoldings (fun P hc => ?_)
  have L : ∀ n : Nat, (∀ (v1 : Int64) (v3 : Int32) (M : Im) (JM : Jm), Bd M → (0 ≤ v3.toInt ∧ v3.toInt ≤ 6) → 6 - v3.toInt < (n : Int) → P 4 112 [(0, .ref v0), (1, .long v1), (3, .int v3)] [] M JM R) := by
    intro n
    induction n with
    | zero =>
      exact fun v1 v3 M J _ hi hm => absurd hm (by omega)
    | succ n ih =>
      intro v1 v3 M JM hB hi hm
      have i_v1 := i64 v1
      have i_v3 := i32 v3
      refine sg_X0_allHoldings_4 hc _ _ _ _ _ _ ?_
      refine bif_t ho0 ?_
      refine ⟨fun c1 => ?_, fun c1 => ?_⟩
      · skip
        have b2 := Bd.o hB ho0 bd9_0_4
        have d3 : (((M v0 4).toInt) : Int) ≤ (v3.toInt) := ci_le rfl rfl c1
        exact hQ _ _ _ _ hB trivial
      · skip
        have b4 := Bd.o hB ho0 bd9_0_4
        have d5 : ((v3.toInt) : Int) < ((M v0 4).toInt) := ci_nle rfl rfl c1
        refine bif_t ho0 ?_
        refine sp_X0_holding hB hR0 ho0 (by have z : (v3 : Int32).toInt = v3.toInt := rfl; omega) (fun x6 y11 I7 J8 hB9 p10 => ?_)
        have e12 : ((v3 + 1) : Int32).toInt = (v3.toInt) + (1) := ti_add rfl rfl (by omega)
        exact ih _ _ _ _ hB9 (by have q0 : ((v3 + 1) : Int32).toInt = (v3.toInt + 1) := e12; omega) (by have q0 : ((v3 + 1) : Int32).toInt = (v3.toInt + 1) := e12; omega)
  refine sg_X0_allHoldings_0 hc _ _ _ _ ?_
  exact (L 1000000) _ _ _ _ hB0 (by have q0 : (0 : Int32).toInt = 0 := rfl; omega) (by have q0 : (0 : Int32).toInt = 0 := rfl; omega)
set_option maxHeartbeats 2000000 in
theorem sp_X0_evenMen {d : Nat} {Q : Qt} {v0 : Nat} {I : Im} {J : Jm} {R : Rm} (hB0 : Bd I) (hR0 : RI R) (ho0 : isO 112 v0 0 = true) (hQ : ∀ (x : Int32) (y : Int64) (I2 : Im) (J2 : Jm), Bd I2 → (True) → Q x y I2 J2 R) : AM (d + 4) 12 112 [.ref v0] I J R Q := by
  refine am_X0_evenMen (fun P hc => ?_)
  have L : ∀ n : Nat, (∀ (v1 : Int32) (v2 : Int32) (M : Im) (JM : Jm), Bd M → (0 ≤ v2.toInt ∧ v2.toInt ≤ 6) → 6 - v2.toInt < (n : Int) → P 4 112 [(0, .ref v0), (1, .int v1), (2, .int v2)] [] M JM R) := by
    intro n
    induction n with
    | zero =>
      exact fun v1 v2 M J _ hi hm => absurd hm (by omega)
    | succ n ih =>
      intro v1 v2 M JM hB hi hm
      have i_v1 := i32 v1
      have i_v2 := i32 v2
      refine sg_X0_evenMen_4 hc _ _ _ _ _ _ ?_
      refine bif_t ho0 ?_
      refine ⟨fun c1 => ?_, fun c1 => ?_⟩
      · skip
        have b2 := Bd.o hB ho0 bd9_0_4
        have d3 : (((M v0 4).toInt) : Int) ≤ (v2.toInt) := ci_le rfl rfl c1
        exact hQ _ _ _ _ hB trivial
      · skip
        have b4 := Bd.o hB ho0 bd9_0_4
        have d5 : ((v2.toInt) : Int) < ((M v0 4).toInt) := ci_nle rfl rfl c1
        refine bif_t ho0 ?_
        refine sp_X0_lacking hB hR0 ho0 (by have z : (v2 : Int32).toInt = v2.toInt := rfl; omega) (fun x6 y11 I7 J8 hB9 p10 => ?_)
        refine ⟨fun c12 => ?_, fun c12 => ?_⟩
        · skip
          rw [lg_cmp_eq] at c12
          have d13 : ¬ (((y11 : Int64).toInt) : Int) = (0) := cl_ne rfl rfl c12
          have e14 : ((v2 + 1) : Int32).toInt = (v2.toInt) + (1) := ti_add rfl rfl (by omega)
          exact ih _ _ _ _ hB9 (by have q0 : ((v2 + 1) : Int32).toInt = (v2.toInt + 1) := e14; omega) (by have q0 : ((v2 + 1) : Int32).toInt = (v2.toInt + 1) := e14; omega)
        · skip
          rw [lg_cmp_eq] at c12
          have d15 : (((y11 : Int64).toInt) : Int) = (0) := cl_eq rfl rfl c12
          have e16 : ((v2 + 1) : Int32).toInt = (v2.toInt) + (1) := ti_add rfl rfl (by omega)
          exact ih _ _ _ _ hB9 (by have q0 : ((v2 + 1) : Int32).toInt = (v2.toInt + 1) := e16; omega) (by have q0 : ((v2 + 1) : Int32).toInt = (v2.toInt + 1) := e16; omega)
  refine sg_X0_evenMen_0 hc _ _ _ _ ?_
  exact (L 1000000) _ _ _ _ hB0 (by have q0 : (0 : Int32).toInt = 0 := rfl; omega) (by have q0 : (0 : Int32).toInt = 0 := rfl; omega)
set_option maxHeartbeats 2000000 in
theorem sp_X0_giftsFor {d : Nat} {Q : Qt} {v0 : Nat} {v1 : Int32} {I : Im} {J : Jm} {R : Rm} (hB0 : Bd I) (hR0 : RI R) (ho0 : isO 112 v0 0 = true) (hv1 : 0 ≤ v1.toInt ∧ v1.toInt ≤ 5) (hQ : ∀ (x : Int32) (y : Int64) (I2 : Im) (J2 : Jm), Bd I2 → (True) → Q x y I2 J2 R) : AM (d + 3) 13 112 [.ref v0, .int v1] I J R Q := by
  have i_v1 := i32 v1
  refine w_X0_giftsFor ?_
  refine bif_t ho0 ?_
  refine sp_X0_stockSet hB0 hR0 ho0 (fun x1 y6 I2 J3 hB4 p5 => ?_)
  have i7 := i32 x1
  refine bif_t ho0 ?_
  refine bif_t (fa_0_8 ho0).1 ?_
  refine ⟨by rw [(fa_0_8 ho0).2.1]; exact vp_of (a := v1.toInt) rfl (by omega) (by omega), ?_⟩
  exact hQ _ _ _ _ hB4 trivial
set_option maxHeartbeats 2000000 in
theorem sp_X0_forget {d : Nat} {Q : Qt} {v0 : Nat} {I : Im} {J : Jm} {R : Rm} (hB0 : Bd I) (hR0 : RI R) (ho0 : isO 112 v0 0 = true) (hQ : ∀ (x : Int32) (y : Int64) (I2 : Im) (J2 : Jm), Bd I2 → (True) → Q x y I2 J2 R) : AM (d + 2) 1 112 [.ref v0] I J R Q := by
  refine w_X0_forget ?_
  refine bif_t ho0 ?_
  refine sp_J7_fill_53178 hB0 hR0 (fa_0_0 ho0).1 (fa_0_0 ho0).2.2 (fun x1 y6 I2 J3 hB4 p5 => ?_)
  refine bif_t ho0 ?_
  have hB7 : Bd (uI I2 v0 1 4) := Bd.o0 hB4 ho0 (by decide) bd9_0_1
  refine bif_t ho0 ?_
  have hB8 : Bd (uI (uI I2 v0 1 4) v0 2 1073741823) := Bd.o0 hB7 ho0 (by decide) bd9_0_2
  refine bif_t ho0 ?_
  have hB9 : Bd (uI (uI (uI I2 v0 1 4) v0 2 1073741823) v0 3 0) := Bd.o0 hB8 ho0 (by decide) bd9_0_3
  refine bif_t ho0 ?_
  have hB10 : Bd (uI (uI (uI (uI I2 v0 1 4) v0 2 1073741823) v0 3 0) v0 4 0) := Bd.o1 hB9 ho0 (by decide) bd9_0_4 (show (0 : Int32).toInt = 0 from rfl) (by omega)
  exact hQ _ _ _ _ hB10 trivial
set_option maxHeartbeats 2000000 in
theorem sp_X0_copyFrom {d : Nat} {Q : Qt} {v0 : Nat} {v1 : Nat} {I : Im} {J : Jm} {R : Rm} (hB0 : Bd I) (hR0 : RI R) (ho0 : isO 112 v0 0 = true) (ho1 : isO 112 v1 0 = true) (hQ : ∀ (x : Int32) (y : Int64) (I2 : Im) (J2 : Jm), Bd I2 → (I2 1 13 = I 1 13) → Q x y I2 J2 R) : AM (d + 1) 2 112 [.ref v0, .ref v1] I J R Q := by
  refine w_X0_copyFrom ?_
  refine bif_t ho1 ?_
  refine bif_t ho0 ?_
  refine bif_t ho0 ?_
  refine bif_e (fa_0_0 ho0).1 ?_
  rw [(fa_0_0 ho0).2.1]
  refine bif_t2 (fa_0_0 ho1).1 (fa_0_0 ho0).1 ?_
  refine ⟨⟨(fun z => by have z2 : (0 : Int) < 0 := ci_lt rfl rfl z; omega), (fun z => by have z2 : (0 : Int) < 0 := ci_lt rfl rfl z; omega), (fun z => by have z2 : (31 : Int) < 0 := ci_lt rfl rfl z; omega), (by (try rw [(fa_0_0 ho1).2.1]); have z1 := tn_of (show ((Int32.ofNat 31) : Int32).toInt = 31 from rfl) (by omega); have z2 := tn_of (show (0 : Int32).toInt = 0 from rfl) (by omega); omega), (by (try rw [(fa_0_0 ho0).2.1]); have z1 := tn_of (show ((Int32.ofNat 31) : Int32).toInt = 31 from rfl) (by omega); have z2 := tn_of (show (0 : Int32).toInt = 0 from rfl) (by omega); omega)⟩, ?_⟩
  have hB1 : Bd (cI I (v1 + 1) (v0 + 1) (Int32.toNatClampNeg 0) (Int32.toNatClampNeg 0) (Int32.toNatClampNeg (Int32.ofNat 31))) := Bd.cp hB0 (fa_0_0 ho0).1 (fa_0_0 ho0).2.2
  refine bif_t ho1 ?_
  refine bif_t ho0 ?_
  have hB2 : Bd (uI (cI I (v1 + 1) (v0 + 1) (Int32.toNatClampNeg 0) (Int32.toNatClampNeg 0) (Int32.toNatClampNeg (Int32.ofNat 31))) v0 1 ((cI I (v1 + 1) (v0 + 1) (Int32.toNatClampNeg 0) (Int32.toNatClampNeg 0) (Int32.toNatClampNeg (Int32.ofNat 31))) v1 1)) := Bd.o0 hB1 ho0 (by decide) bd9_0_1
  refine bif_t ho1 ?_
  refine bif_t ho0 ?_
  have hB3 : Bd (uI (uI (cI I (v1 + 1) (v0 + 1) (Int32.toNatClampNeg 0) (Int32.toNatClampNeg 0) (Int32.toNatClampNeg (Int32.ofNat 31))) v0 1 ((cI I (v1 + 1) (v0 + 1) (Int32.toNatClampNeg 0) (Int32.toNatClampNeg 0) (Int32.toNatClampNeg (Int32.ofNat 31))) v1 1)) v0 2 ((uI (cI I (v1 + 1) (v0 + 1) (Int32.toNatClampNeg 0) (Int32.toNatClampNeg 0) (Int32.toNatClampNeg (Int32.ofNat 31))) v0 1 ((cI I (v1 + 1) (v0 + 1) (Int32.toNatClampNeg 0) (Int32.toNatClampNeg 0) (Int32.toNatClampNeg (Int32.ofNat 31))) v1 1)) v1 2)) := Bd.o0 hB2 ho0 (by decide) bd9_0_2
  refine bif_t ho1 ?_
  refine bif_t ho0 ?_
  have hB4 : Bd (uI (uI (uI (cI I (v1 + 1) (v0 + 1) (Int32.toNatClampNeg 0) (Int32.toNatClampNeg 0) (Int32.toNatClampNeg (Int32.ofNat 31))) v0 1 ((cI I (v1 + 1) (v0 + 1) (Int32.toNatClampNeg 0) (Int32.toNatClampNeg 0) (Int32.toNatClampNeg (Int32.ofNat 31))) v1 1)) v0 2 ((uI (cI I (v1 + 1) (v0 + 1) (Int32.toNatClampNeg 0) (Int32.toNatClampNeg 0) (Int32.toNatClampNeg (Int32.ofNat 31))) v0 1 ((cI I (v1 + 1) (v0 + 1) (Int32.toNatClampNeg 0) (Int32.toNatClampNeg 0) (Int32.toNatClampNeg (Int32.ofNat 31))) v1 1)) v1 2)) v0 3 ((uI (uI (cI I (v1 + 1) (v0 + 1) (Int32.toNatClampNeg 0) (Int32.toNatClampNeg 0) (Int32.toNatClampNeg (Int32.ofNat 31))) v0 1 ((cI I (v1 + 1) (v0 + 1) (Int32.toNatClampNeg 0) (Int32.toNatClampNeg 0) (Int32.toNatClampNeg (Int32.ofNat 31))) v1 1)) v0 2 ((uI (cI I (v1 + 1) (v0 + 1) (Int32.toNatClampNeg 0) (Int32.toNatClampNeg 0) (Int32.toNatClampNeg (Int32.ofNat 31))) v0 1 ((cI I (v1 + 1) (v0 + 1) (Int32.toNatClampNeg 0) (Int32.toNatClampNeg 0) (Int32.toNatClampNeg (Int32.ofNat 31))) v1 1)) v1 2)) v1 3)) := Bd.o0 hB3 ho0 (by decide) bd9_0_3
  refine bif_t ho1 ?_
  refine bif_t ho0 ?_
  have b6 := Bd.o hB4 ho1 bd9_0_4
  have hB5 : Bd (uI (uI (uI (uI (cI I (v1 + 1) (v0 + 1) (Int32.toNatClampNeg 0) (Int32.toNatClampNeg 0) (Int32.toNatClampNeg (Int32.ofNat 31))) v0 1 ((cI I (v1 + 1) (v0 + 1) (Int32.toNatClampNeg 0) (Int32.toNatClampNeg 0) (Int32.toNatClampNeg (Int32.ofNat 31))) v1 1)) v0 2 ((uI (cI I (v1 + 1) (v0 + 1) (Int32.toNatClampNeg 0) (Int32.toNatClampNeg 0) (Int32.toNatClampNeg (Int32.ofNat 31))) v0 1 ((cI I (v1 + 1) (v0 + 1) (Int32.toNatClampNeg 0) (Int32.toNatClampNeg 0) (Int32.toNatClampNeg (Int32.ofNat 31))) v1 1)) v1 2)) v0 3 ((uI (uI (cI I (v1 + 1) (v0 + 1) (Int32.toNatClampNeg 0) (Int32.toNatClampNeg 0) (Int32.toNatClampNeg (Int32.ofNat 31))) v0 1 ((cI I (v1 + 1) (v0 + 1) (Int32.toNatClampNeg 0) (Int32.toNatClampNeg 0) (Int32.toNatClampNeg (Int32.ofNat 31))) v1 1)) v0 2 ((uI (cI I (v1 + 1) (v0 + 1) (Int32.toNatClampNeg 0) (Int32.toNatClampNeg 0) (Int32.toNatClampNeg (Int32.ofNat 31))) v0 1 ((cI I (v1 + 1) (v0 + 1) (Int32.toNatClampNeg 0) (Int32.toNatClampNeg 0) (Int32.toNatClampNeg (Int32.ofNat 31))) v1 1)) v1 2)) v1 3)) v0 4 ((uI (uI (uI (cI I (v1 + 1) (v0 + 1) (Int32.toNatClampNeg 0) (Int32.toNatClampNeg 0) (Int32.toNatClampNeg (Int32.ofNat 31))) v0 1 ((cI I (v1 + 1) (v0 + 1) (Int32.toNatClampNeg 0) (Int32.toNatClampNeg 0) (Int32.toNatClampNeg (Int32.ofNat 31))) v1 1)) v0 2 ((uI (cI I (v1 + 1) (v0 + 1) (Int32.toNatClampNeg 0) (Int32.toNatClampNeg 0) (Int32.toNatClampNeg (Int32.ofNat 31))) v0 1 ((cI I (v1 + 1) (v0 + 1) (Int32.toNatClampNeg 0) (Int32.toNatClampNeg 0) (Int32.toNatClampNeg (Int32.ofNat 31))) v1 1)) v1 2)) v0 3 ((uI (uI (cI I (v1 + 1) (v0 + 1) (Int32.toNatClampNeg 0) (Int32.toNatClampNeg 0) (Int32.toNatClampNeg (Int32.ofNat 31))) v0 1 ((cI I (v1 + 1) (v0 + 1) (Int32.toNatClampNeg 0) (Int32.toNatClampNeg 0) (Int32.toNatClampNeg (Int32.ofNat 31))) v1 1)) v0 2 ((uI (cI I (v1 + 1) (v0 + 1) (Int32.toNatClampNeg 0) (Int32.toNatClampNeg 0) (Int32.toNatClampNeg (Int32.ofNat 31))) v0 1 ((cI I (v1 + 1) (v0 + 1) (Int32.toNatClampNeg 0) (Int32.toNatClampNeg 0) (Int32.toNatClampNeg (Int32.ofNat 31))) v1 1)) v1 2)) v1 3)) v1 4)) := Bd.o1 hB4 ho0 (by decide) bd9_0_4 (show (((uI (uI (uI (cI I (v1 + 1) (v0 + 1) (Int32.toNatClampNeg 0) (Int32.toNatClampNeg 0) (Int32.toNatClampNeg (Int32.ofNat 31))) v0 1 ((cI I (v1 + 1) (v0 + 1) (Int32.toNatClampNeg 0) (Int32.toNatClampNeg 0) (Int32.toNatClampNeg (Int32.ofNat 31))) v1 1)) v0 2 ((uI (cI I (v1 + 1) (v0 + 1) (Int32.toNatClampNeg 0) (Int32.toNatClampNeg 0) (Int32.toNatClampNeg (Int32.ofNat 31))) v0 1 ((cI I (v1 + 1) (v0 + 1) (Int32.toNatClampNeg 0) (Int32.toNatClampNeg 0) (Int32.toNatClampNeg (Int32.ofNat 31))) v1 1)) v1 2)) v0 3 ((uI (uI (cI I (v1 + 1) (v0 + 1) (Int32.toNatClampNeg 0) (Int32.toNatClampNeg 0) (Int32.toNatClampNeg (Int32.ofNat 31))) v0 1 ((cI I (v1 + 1) (v0 + 1) (Int32.toNatClampNeg 0) (Int32.toNatClampNeg 0) (Int32.toNatClampNeg (Int32.ofNat 31))) v1 1)) v0 2 ((uI (cI I (v1 + 1) (v0 + 1) (Int32.toNatClampNeg 0) (Int32.toNatClampNeg 0) (Int32.toNatClampNeg (Int32.ofNat 31))) v0 1 ((cI I (v1 + 1) (v0 + 1) (Int32.toNatClampNeg 0) (Int32.toNatClampNeg 0) (Int32.toNatClampNeg (Int32.ofNat 31))) v1 1)) v1 2)) v1 3)) v1 4) : Int32).toInt = ((uI (uI (uI (cI I (v1 + 1) (v0 + 1) (Int32.toNatClampNeg 0) (Int32.toNatClampNeg 0) (Int32.toNatClampNeg (Int32.ofNat 31))) v0 1 ((cI I (v1 + 1) (v0 + 1) (Int32.toNatClampNeg 0) (Int32.toNatClampNeg 0) (Int32.toNatClampNeg (Int32.ofNat 31))) v1 1)) v0 2 ((uI (cI I (v1 + 1) (v0 + 1) (Int32.toNatClampNeg 0) (Int32.toNatClampNeg 0) (Int32.toNatClampNeg (Int32.ofNat 31))) v0 1 ((cI I (v1 + 1) (v0 + 1) (Int32.toNatClampNeg 0) (Int32.toNatClampNeg 0) (Int32.toNatClampNeg (Int32.ofNat 31))) v1 1)) v1 2)) v0 3 ((uI (uI (cI I (v1 + 1) (v0 + 1) (Int32.toNatClampNeg 0) (Int32.toNatClampNeg 0) (Int32.toNatClampNeg (Int32.ofNat 31))) v0 1 ((cI I (v1 + 1) (v0 + 1) (Int32.toNatClampNeg 0) (Int32.toNatClampNeg 0) (Int32.toNatClampNeg (Int32.ofNat 31))) v1 1)) v0 2 ((uI (cI I (v1 + 1) (v0 + 1) (Int32.toNatClampNeg 0) (Int32.toNatClampNeg 0) (Int32.toNatClampNeg (Int32.ofNat 31))) v0 1 ((cI I (v1 + 1) (v0 + 1) (Int32.toNatClampNeg 0) (Int32.toNatClampNeg 0) (Int32.toNatClampNeg (Int32.ofNat 31))) v1 1)) v1 2)) v1 3)) v1 4).toInt from rfl) (by omega)
  refine bif_t ho1 ?_
  refine bif_t ho0 ?_
  refine bif_t2 (fa_0_5 ho1).1 (fa_0_5 ho0).1 ?_
  refine ⟨⟨(fun z => by have z2 : (0 : Int) < 0 := ci_lt rfl rfl z; omega), (fun z => by have z2 : (0 : Int) < 0 := ci_lt rfl rfl z; omega), (fun z => by have z2 : (6 : Int) < 0 := ci_lt rfl rfl z; omega), (by (try rw [(fa_0_5 ho1).2.1]); have z1 := tn_of (show (6 : Int32).toInt = 6 from rfl) (by omega); have z2 := tn_of (show (0 : Int32).toInt = 0 from rfl) (by omega); omega), (by (try rw [(fa_0_5 ho0).2.1]); have z1 := tn_of (show (6 : Int32).toInt = 6 from rfl) (by omega); have z2 := tn_of (show (0 : Int32).toInt = 0 from rfl) (by omega); omega)⟩, ?_⟩
  refine bif_t ho1 ?_
  refine bif_t ho0 ?_
  refine bif_t2 (fa_0_6 ho1).1 (fa_0_6 ho0).1 ?_
  refine ⟨⟨(fun z => by have z2 : (0 : Int) < 0 := ci_lt rfl rfl z; omega), (fun z => by have z2 : (0 : Int) < 0 := ci_lt rfl rfl z; omega), (fun z => by have z2 : (6 : Int) < 0 := ci_lt rfl rfl z; omega), (by (try rw [(fa_0_6 ho1).2.1]); have z1 := tn_of (show (6 : Int32).toInt = 6 from rfl) (by omega); have z2 := tn_of (show (0 : Int32).toInt = 0 from rfl) (by omega); omega), (by (try rw [(fa_0_6 ho0).2.1]); have z1 := tn_of (show (6 : Int32).toInt = 6 from rfl) (by omega); have z2 := tn_of (show (0 : Int32).toInt = 0 from rfl) (by omega); omega)⟩, ?_⟩
  have hB7 : Bd (cI (uI (uI (uI (uI (cI I (v1 + 1) (v0 + 1) (Int32.toNatClampNeg 0) (Int32.toNatClampNeg 0) (Int32.toNatClampNeg (Int32.ofNat 31))) v0 1 ((cI I (v1 + 1) (v0 + 1) (Int32.toNatClampNeg 0) (Int32.toNatClampNeg 0) (Int32.toNatClampNeg (Int32.ofNat 31))) v1 1)) v0 2 ((uI (cI I (v1 + 1) (v0 + 1) (Int32.toNatClampNeg 0) (Int32.toNatClampNeg 0) (Int32.toNatClampNeg (Int32.ofNat 31))) v0 1 ((cI I (v1 + 1) (v0 + 1) (Int32.toNatClampNeg 0) (Int32.toNatClampNeg 0) (Int32.toNatClampNeg (Int32.ofNat 31))) v1 1)) v1 2)) v0 3 ((uI (uI (cI I (v1 + 1) (v0 + 1) (Int32.toNatClampNeg 0) (Int32.toNatClampNeg 0) (Int32.toNatClampNeg (Int32.ofNat 31))) v0 1 ((cI I (v1 + 1) (v0 + 1) (Int32.toNatClampNeg 0) (Int32.toNatClampNeg 0) (Int32.toNatClampNeg (Int32.ofNat 31))) v1 1)) v0 2 ((uI (cI I (v1 + 1) (v0 + 1) (Int32.toNatClampNeg 0) (Int32.toNatClampNeg 0) (Int32.toNatClampNeg (Int32.ofNat 31))) v0 1 ((cI I (v1 + 1) (v0 + 1) (Int32.toNatClampNeg 0) (Int32.toNatClampNeg 0) (Int32.toNatClampNeg (Int32.ofNat 31))) v1 1)) v1 2)) v1 3)) v0 4 ((uI (uI (uI (cI I (v1 + 1) (v0 + 1) (Int32.toNatClampNeg 0) (Int32.toNatClampNeg 0) (Int32.toNatClampNeg (Int32.ofNat 31))) v0 1 ((cI I (v1 + 1) (v0 + 1) (Int32.toNatClampNeg 0) (Int32.toNatClampNeg 0) (Int32.toNatClampNeg (Int32.ofNat 31))) v1 1)) v0 2 ((uI (cI I (v1 + 1) (v0 + 1) (Int32.toNatClampNeg 0) (Int32.toNatClampNeg 0) (Int32.toNatClampNeg (Int32.ofNat 31))) v0 1 ((cI I (v1 + 1) (v0 + 1) (Int32.toNatClampNeg 0) (Int32.toNatClampNeg 0) (Int32.toNatClampNeg (Int32.ofNat 31))) v1 1)) v1 2)) v0 3 ((uI (uI (cI I (v1 + 1) (v0 + 1) (Int32.toNatClampNeg 0) (Int32.toNatClampNeg 0) (Int32.toNatClampNeg (Int32.ofNat 31))) v0 1 ((cI I (v1 + 1) (v0 + 1) (Int32.toNatClampNeg 0) (Int32.toNatClampNeg 0) (Int32.toNatClampNeg (Int32.ofNat 31))) v1 1)) v0 2 ((uI (cI I (v1 + 1) (v0 + 1) (Int32.toNatClampNeg 0) (Int32.toNatClampNeg 0) (Int32.toNatClampNeg (Int32.ofNat 31))) v0 1 ((cI I (v1 + 1) (v0 + 1) (Int32.toNatClampNeg 0) (Int32.toNatClampNeg 0) (Int32.toNatClampNeg (Int32.ofNat 31))) v1 1)) v1 2)) v1 3)) v1 4)) (v1 + 3) (v0 + 3) (Int32.toNatClampNeg 0) (Int32.toNatClampNeg 0) (Int32.toNatClampNeg 6)) := Bd.cp hB5 (fa_0_6 ho0).1 (fa_0_6 ho0).2.2
  refine bif_t ho1 ?_
  refine bif_t ho0 ?_
  refine bif_t2 (fa_0_7 ho1).1 (fa_0_7 ho0).1 ?_
  refine ⟨⟨(fun z => by have z2 : (0 : Int) < 0 := ci_lt rfl rfl z; omega), (fun z => by have z2 : (0 : Int) < 0 := ci_lt rfl rfl z; omega), (fun z => by have z2 : (6 : Int) < 0 := ci_lt rfl rfl z; omega), (by (try rw [(fa_0_7 ho1).2.1]); have z1 := tn_of (show (6 : Int32).toInt = 6 from rfl) (by omega); have z2 := tn_of (show (0 : Int32).toInt = 0 from rfl) (by omega); omega), (by (try rw [(fa_0_7 ho0).2.1]); have z1 := tn_of (show (6 : Int32).toInt = 6 from rfl) (by omega); have z2 := tn_of (show (0 : Int32).toInt = 0 from rfl) (by omega); omega)⟩, ?_⟩
  have hB8 : Bd (cI (cI (uI (uI (uI (uI (cI I (v1 + 1) (v0 + 1) (Int32.toNatClampNeg 0) (Int32.toNatClampNeg 0) (Int32.toNatClampNeg (Int32.ofNat 31))) v0 1 ((cI I (v1 + 1) (v0 + 1) (Int32.toNatClampNeg 0) (Int32.toNatClampNeg 0) (Int32.toNatClampNeg (Int32.ofNat 31))) v1 1)) v0 2 ((uI (cI I (v1 + 1) (v0 + 1) (Int32.toNatClampNeg 0) (Int32.toNatClampNeg 0) (Int32.toNatClampNeg (Int32.ofNat 31))) v0 1 ((cI I (v1 + 1) (v0 + 1) (Int32.toNatClampNeg 0) (Int32.toNatClampNeg 0) (Int32.toNatClampNeg (Int32.ofNat 31))) v1 1)) v1 2)) v0 3 ((uI (uI (cI I (v1 + 1) (v0 + 1) (Int32.toNatClampNeg 0) (Int32.toNatClampNeg 0) (Int32.toNatClampNeg (Int32.ofNat 31))) v0 1 ((cI I (v1 + 1) (v0 + 1) (Int32.toNatClampNeg 0) (Int32.toNatClampNeg 0) (Int32.toNatClampNeg (Int32.ofNat 31))) v1 1)) v0 2 ((uI (cI I (v1 + 1) (v0 + 1) (Int32.toNatClampNeg 0) (Int32.toNatClampNeg 0) (Int32.toNatClampNeg (Int32.ofNat 31))) v0 1 ((cI I (v1 + 1) (v0 + 1) (Int32.toNatClampNeg 0) (Int32.toNatClampNeg 0) (Int32.toNatClampNeg (Int32.ofNat 31))) v1 1)) v1 2)) v1 3)) v0 4 ((uI (uI (uI (cI I (v1 + 1) (v0 + 1) (Int32.toNatClampNeg 0) (Int32.toNatClampNeg 0) (Int32.toNatClampNeg (Int32.ofNat 31))) v0 1 ((cI I (v1 + 1) (v0 + 1) (Int32.toNatClampNeg 0) (Int32.toNatClampNeg 0) (Int32.toNatClampNeg (Int32.ofNat 31))) v1 1)) v0 2 ((uI (cI I (v1 + 1) (v0 + 1) (Int32.toNatClampNeg 0) (Int32.toNatClampNeg 0) (Int32.toNatClampNeg (Int32.ofNat 31))) v0 1 ((cI I (v1 + 1) (v0 + 1) (Int32.toNatClampNeg 0) (Int32.toNatClampNeg 0) (Int32.toNatClampNeg (Int32.ofNat 31))) v1 1)) v1 2)) v0 3 ((uI (uI (cI I (v1 + 1) (v0 + 1) (Int32.toNatClampNeg 0) (Int32.toNatClampNeg 0) (Int32.toNatClampNeg (Int32.ofNat 31))) v0 1 ((cI I (v1 + 1) (v0 + 1) (Int32.toNatClampNeg 0) (Int32.toNatClampNeg 0) (Int32.toNatClampNeg (Int32.ofNat 31))) v1 1)) v0 2 ((uI (cI I (v1 + 1) (v0 + 1) (Int32.toNatClampNeg 0) (Int32.toNatClampNeg 0) (Int32.toNatClampNeg (Int32.ofNat 31))) v0 1 ((cI I (v1 + 1) (v0 + 1) (Int32.toNatClampNeg 0) (Int32.toNatClampNeg 0) (Int32.toNatClampNeg (Int32.ofNat 31))) v1 1)) v1 2)) v1 3)) v1 4)) (v1 + 3) (v0 + 3) (Int32.toNatClampNeg 0) (Int32.toNatClampNeg 0) (Int32.toNatClampNeg 6)) (v1 + 4) (v0 + 4) (Int32.toNatClampNeg 0) (Int32.toNatClampNeg 0) (Int32.toNatClampNeg 6)) := Bd.cp hB7 (fa_0_7 ho0).1 (fa_0_7 ho0).2.2
  refine bif_t ho1 ?_
  refine bif_t ho0 ?_
  refine bif_t2 (fa_0_8 ho1).1 (fa_0_8 ho0).1 ?_
  refine ⟨⟨(fun z => by have z2 : (0 : Int) < 0 := ci_lt rfl rfl z; omega), (fun z => by have z2 : (0 : Int) < 0 := ci_lt rfl rfl z; omega), (fun z => by have z2 : (6 : Int) < 0 := ci_lt rfl rfl z; omega), (by (try rw [(fa_0_8 ho1).2.1]); have z1 := tn_of (show (6 : Int32).toInt = 6 from rfl) (by omega); have z2 := tn_of (show (0 : Int32).toInt = 0 from rfl) (by omega); omega), (by (try rw [(fa_0_8 ho0).2.1]); have z1 := tn_of (show (6 : Int32).toInt = 6 from rfl) (by omega); have z2 := tn_of (show (0 : Int32).toInt = 0 from rfl) (by omega); omega)⟩, ?_⟩
  have hB9 : Bd (cI (cI (cI (uI (uI (uI (uI (cI I (v1 + 1) (v0 + 1) (Int32.toNatClampNeg 0) (Int32.toNatClampNeg 0) (Int32.toNatClampNeg (Int32.ofNat 31))) v0 1 ((cI I (v1 + 1) (v0 + 1) (Int32.toNatClampNeg 0) (Int32.toNatClampNeg 0) (Int32.toNatClampNeg (Int32.ofNat 31))) v1 1)) v0 2 ((uI (cI I (v1 + 1) (v0 + 1) (Int32.toNatClampNeg 0) (Int32.toNatClampNeg 0) (Int32.toNatClampNeg (Int32.ofNat 31))) v0 1 ((cI I (v1 + 1) (v0 + 1) (Int32.toNatClampNeg 0) (Int32.toNatClampNeg 0) (Int32.toNatClampNeg (Int32.ofNat 31))) v1 1)) v1 2)) v0 3 ((uI (uI (cI I (v1 + 1) (v0 + 1) (Int32.toNatClampNeg 0) (Int32.toNatClampNeg 0) (Int32.toNatClampNeg (Int32.ofNat 31))) v0 1 ((cI I (v1 + 1) (v0 + 1) (Int32.toNatClampNeg 0) (Int32.toNatClampNeg 0) (Int32.toNatClampNeg (Int32.ofNat 31))) v1 1)) v0 2 ((uI (cI I (v1 + 1) (v0 + 1) (Int32.toNatClampNeg 0) (Int32.toNatClampNeg 0) (Int32.toNatClampNeg (Int32.ofNat 31))) v0 1 ((cI I (v1 + 1) (v0 + 1) (Int32.toNatClampNeg 0) (Int32.toNatClampNeg 0) (Int32.toNatClampNeg (Int32.ofNat 31))) v1 1)) v1 2)) v1 3)) v0 4 ((uI (uI (uI (cI I (v1 + 1) (v0 + 1) (Int32.toNatClampNeg 0) (Int32.toNatClampNeg 0) (Int32.toNatClampNeg (Int32.ofNat 31))) v0 1 ((cI I (v1 + 1) (v0 + 1) (Int32.toNatClampNeg 0) (Int32.toNatClampNeg 0) (Int32.toNatClampNeg (Int32.ofNat 31))) v1 1)) v0 2 ((uI (cI I (v1 + 1) (v0 + 1) (Int32.toNatClampNeg 0) (Int32.toNatClampNeg 0) (Int32.toNatClampNeg (Int32.ofNat 31))) v0 1 ((cI I (v1 + 1) (v0 + 1) (Int32.toNatClampNeg 0) (Int32.toNatClampNeg 0) (Int32.toNatClampNeg (Int32.ofNat 31))) v1 1)) v1 2)) v0 3 ((uI (uI (cI I (v1 + 1) (v0 + 1) (Int32.toNatClampNeg 0) (Int32.toNatClampNeg 0) (Int32.toNatClampNeg (Int32.ofNat 31))) v0 1 ((cI I (v1 + 1) (v0 + 1) (Int32.toNatClampNeg 0) (Int32.toNatClampNeg 0) (Int32.toNatClampNeg (Int32.ofNat 31))) v1 1)) v0 2 ((uI (cI I (v1 + 1) (v0 + 1) (Int32.toNatClampNeg 0) (Int32.toNatClampNeg 0) (Int32.toNatClampNeg (Int32.ofNat 31))) v0 1 ((cI I (v1 + 1) (v0 + 1) (Int32.toNatClampNeg 0) (Int32.toNatClampNeg 0) (Int32.toNatClampNeg (Int32.ofNat 31))) v1 1)) v1 2)) v1 3)) v1 4)) (v1 + 3) (v0 + 3) (Int32.toNatClampNeg 0) (Int32.toNatClampNeg 0) (Int32.toNatClampNeg 6)) (v1 + 4) (v0 + 4) (Int32.toNatClampNeg 0) (Int32.toNatClampNeg 0) (Int32.toNatClampNeg 6)) (v1 + 5) (v0 + 5) (Int32.toNatClampNeg 0) (Int32.toNatClampNeg 0) (Int32.toNatClampNeg 6)) := Bd.cp hB8 (fa_0_8 ho0).1 (fa_0_8 ho0).2.2
  exact hQ _ _ _ _ hB9 (Eq.trans (Eq.trans (Eq.trans (Eq.trans (Eq.trans (Eq.trans (Eq.trans (rd_c (cne (clO io9_112_1_11) (clA (fa_0_8 ho0).1) rfl)) (rd_c (cne (clO io9_112_1_11) (clA (fa_0_7 ho0).1) rfl))) (rd_c (cne (clO io9_112_1_11) (clA (fa_0_6 ho0).1) rfl))) (rd_ne (cne (clO io9_112_1_11) (clO ho0) rfl))) (rd_ne (cne (clO io9_112_1_11) (clO ho0) rfl))) (rd_ne (cne (clO io9_112_1_11) (clO ho0) rfl))) (rd_ne (cne (clO io9_112_1_11) (clO ho0) rfl))) (rd_c (cne (clO io9_112_1_11) (clA (fa_0_0 ho0).1) rfl)))
set_option maxHeartbeats 2000000 in
theorem sp_X0_addMan {d : Nat} {Q : Qt} {v0 : Nat} {v1 : Int64} {v3 : Int32} {v4 : Int32} {I : Im} {J : Jm} {R : Rm} (hB0 : Bd I) (hR0 : RI R) (ho0 : isO 112 v0 0 = true) (hQ : ∀ (x : Int32) (y : Int64) (I2 : Im) (J2 : Jm), Bd I2 → (True) → Q x y I2 J2 R) : AM (d + 1) 4 112 [.ref v0, .long v1, .int v3, .int v4] I J R Q := by
  have i_v1 := i64 v1
  have i_v3 := i32 v3
  have i_v4 := i32 v4
  refine w_X0_addMan ?_
  refine bif_t ho0 ?_
  refine ⟨fun c1 => ?_, fun c1 => ?_⟩
  · skip
    have b2 := Bd.o hB0 ho0 bd9_0_4
    have d3 : (((I v0 4).toInt) : Int) < (6) := ci_lt rfl rfl c1
    refine bif_t ho0 ?_
    refine bif_t ho0 ?_
    refine bif_t (fa_0_5 ho0).1 ?_
    refine ⟨by rw [(fa_0_5 ho0).2.1]; exact vp_of (a := (I v0 4).toInt) rfl (by omega) (by omega), ?_⟩
    refine bif_t ho0 ?_
    refine bif_t ho0 ?_
    refine bif_t (fa_0_6 ho0).1 ?_
    refine ⟨by rw [(fa_0_6 ho0).2.1]; exact vp_of (a := (I v0 4).toInt) rfl (by omega) (by omega), ?_⟩
    have hB4 : Bd (uI I (v0 + 3) (Int32.toNatClampNeg (I v0 4)) v3) := Bd.a0 hB0 (fa_0_6 ho0).1 (fa_0_6 ho0).2.2
    refine bif_t ho0 ?_
    refine bif_t ho0 ?_
    refine bif_t (fa_0_7 ho0).1 ?_
    have e5 : (((uI I (v0 + 3) (Int32.toNatClampNeg (I v0 4)) v3) v0 4) : Int32).toInt = (I v0 4).toInt := Eq.trans (congrArg Int32.toInt (rd_ne (by first | decide | omega))) rfl
    refine ⟨by rw [(fa_0_7 ho0).2.1]; exact vp_of (a := (I v0 4).toInt) e5 (by omega) (by omega), ?_⟩
    have hB6 : Bd (uI (uI I (v0 + 3) (Int32.toNatClampNeg (I v0 4)) v3) (v0 + 4) (Int32.toNatClampNeg ((uI I (v0 + 3) (Int32.toNatClampNeg (I v0 4)) v3) v0 4)) v4) := Bd.a0 hB4 (fa_0_7 ho0).1 (fa_0_7 ho0).2.2
    refine bif_t ho0 ?_
    refine bif_t ho0 ?_
    refine bif_t (fa_0_8 ho0).1 ?_
    have e7 : (((uI (uI I (v0 + 3) (Int32.toNatClampNeg (I v0 4)) v3) (v0 + 4) (Int32.toNatClampNeg ((uI I (v0 + 3) (Int32.toNatClampNeg (I v0 4)) v3) v0 4)) v4) v0 4) : Int32).toInt = (I v0 4).toInt := Eq.trans (congrArg Int32.toInt (Eq.trans (rd_ne (by first | decide | omega)) (rd_ne (by first | decide | omega)))) rfl
    refine ⟨by rw [(fa_0_8 ho0).2.1]; exact vp_of (a := (I v0 4).toInt) e7 (by omega) (by omega), ?_⟩
    have hB8 : Bd (uI (uI (uI I (v0 + 3) (Int32.toNatClampNeg (I v0 4)) v3) (v0 + 4) (Int32.toNatClampNeg ((uI I (v0 + 3) (Int32.toNatClampNeg (I v0 4)) v3) v0 4)) v4) (v0 + 5) (Int32.toNatClampNeg ((uI (uI I (v0 + 3) (Int32.toNatClampNeg (I v0 4)) v3) (v0 + 4) (Int32.toNatClampNeg ((uI I (v0 + 3) (Int32.toNatClampNeg (I v0 4)) v3) v0 4)) v4) v0 4)) 0) := Bd.a0 hB6 (fa_0_8 ho0).1 (fa_0_8 ho0).2.2
    refine bif_t ho0 ?_
    refine bif_t ho0 ?_
    have e10 : (((uI (uI (uI I (v0 + 3) (Int32.toNatClampNeg (I v0 4)) v3) (v0 + 4) (Int32.toNatClampNeg ((uI I (v0 + 3) (Int32.toNatClampNeg (I v0 4)) v3) v0 4)) v4) (v0 + 5) (Int32.toNatClampNeg ((uI (uI I (v0 + 3) (Int32.toNatClampNeg (I v0 4)) v3) (v0 + 4) (Int32.toNatClampNeg ((uI I (v0 + 3) (Int32.toNatClampNeg (I v0 4)) v3) v0 4)) v4) v0 4)) 0) v0 4) : Int32).toInt = (I v0 4).toInt := Eq.trans (congrArg Int32.toInt (Eq.trans (Eq.trans (rd_ne (by first | decide | omega)) (rd_ne (by first | decide | omega))) (rd_ne (by first | decide | omega)))) rfl
    have e11 : ((((uI (uI (uI I (v0 + 3) (Int32.toNatClampNeg (I v0 4)) v3) (v0 + 4) (Int32.toNatClampNeg ((uI I (v0 + 3) (Int32.toNatClampNeg (I v0 4)) v3) v0 4)) v4) (v0 + 5) (Int32.toNatClampNeg ((uI (uI I (v0 + 3) (Int32.toNatClampNeg (I v0 4)) v3) (v0 + 4) (Int32.toNatClampNeg ((uI I (v0 + 3) (Int32.toNatClampNeg (I v0 4)) v3) v0 4)) v4) v0 4)) 0) v0 4) + 1) : Int32).toInt = ((I v0 4).toInt) + (1) := ti_add e10 rfl (by omega)
    have hB9 : Bd (uI (uI (uI (uI I (v0 + 3) (Int32.toNatClampNeg (I v0 4)) v3) (v0 + 4) (Int32.toNatClampNeg ((uI I (v0 + 3) (Int32.toNatClampNeg (I v0 4)) v3) v0 4)) v4) (v0 + 5) (Int32.toNatClampNeg ((uI (uI I (v0 + 3) (Int32.toNatClampNeg (I v0 4)) v3) (v0 + 4) (Int32.toNatClampNeg ((uI I (v0 + 3) (Int32.toNatClampNeg (I v0 4)) v3) v0 4)) v4) v0 4)) 0) v0 4 (((uI (uI (uI I (v0 + 3) (Int32.toNatClampNeg (I v0 4)) v3) (v0 + 4) (Int32.toNatClampNeg ((uI I (v0 + 3) (Int32.toNatClampNeg (I v0 4)) v3) v0 4)) v4) (v0 + 5) (Int32.toNatClampNeg ((uI (uI I (v0 + 3) (Int32.toNatClampNeg (I v0 4)) v3) (v0 + 4) (Int32.toNatClampNeg ((uI I (v0 + 3) (Int32.toNatClampNeg (I v0 4)) v3) v0 4)) v4) v0 4)) 0) v0 4) + 1)) := Bd.o1 hB8 ho0 (by decide) bd9_0_4 (show ((((uI (uI (uI I (v0 + 3) (Int32.toNatClampNeg (I v0 4)) v3) (v0 + 4) (Int32.toNatClampNeg ((uI I (v0 + 3) (Int32.toNatClampNeg (I v0 4)) v3) v0 4)) v4) (v0 + 5) (Int32.toNatClampNeg ((uI (uI I (v0 + 3) (Int32.toNatClampNeg (I v0 4)) v3) (v0 + 4) (Int32.toNatClampNeg ((uI I (v0 + 3) (Int32.toNatClampNeg (I v0 4)) v3) v0 4)) v4) v0 4)) 0) v0 4) + 1) : Int32).toInt = ((I v0 4).toInt + 1) from e11) (by omega)
    refine bif_t ho0 ?_
    exact hQ _ _ _ _ hB9 trivial
  · skip
    have b12 := Bd.o hB0 ho0 bd9_0_4
    have d13 : ((6) : Int) ≤ ((I v0 4).toInt) := ci_nlt rfl rfl c1
    exact hQ _ _ _ _ hB0 trivial
set_option maxHeartbeats 2000000 in
theorem sp_X0_addLoaves {d : Nat} {Q : Qt} {v0 : Nat} {v1 : Int32} {I : Im} {J : Jm} {R : Rm} (hB0 : Bd I) (hR0 : RI R) (ho0 : isO 112 v0 0 = true) (hQ : ∀ (x : Int32) (y : Int64) (I2 : Im) (J2 : Jm), Bd I2 → (True) → Q x y I2 J2 R) : AM (d + 1) 14 112 [.ref v0, .int v1] I J R Q := by
  have i_v1 := i32 v1
  refine w_X0_addLoaves ?_
  refine ⟨fun c1 => ?_, fun c1 => ?_⟩
  · skip
    have d2 : ((v1.toInt) : Int) < (1) := ci_lt rfl rfl c1
    exact hQ _ _ _ _ hB0 trivial
  · skip
    have d3 : ((1) : Int) ≤ (v1.toInt) := ci_nlt rfl rfl c1
    refine ⟨fun c4 => ?_, fun c4 => ?_⟩
    · skip
      have d5 : ((v1.toInt) : Int) ≤ (99) := ci_le rfl rfl c4
      refine bif_t ho0 ?_
      refine bif_t (fa_0_0 ho0).1 ?_
      refine ⟨by rw [(fa_0_0 ho0).2.1]; exact vp_of (a := 1) rfl (by omega) (by omega), ?_⟩
      refine ⟨fun c6 => ?_, fun c6 => ?_⟩
      · skip
        have d7 : (((((I (v0 + 1) (Int32.toNatClampNeg 1)) + v1) : Int32).toInt) : Int) ≤ (99) := ci_le rfl rfl c6
        refine bif_t ho0 ?_
        refine bif_t (fa_0_0 ho0).1 ?_
        refine ⟨by rw [(fa_0_0 ho0).2.1]; exact vp_of (a := 1) rfl (by omega) (by omega), ?_⟩
        refine bif_t (fa_0_0 ho0).1 ?_
        refine ⟨by rw [(fa_0_0 ho0).2.1]; exact vp_of (a := 1) rfl (by omega) (by omega), ?_⟩
        have hB8 : Bd (uI I (v0 + 1) (Int32.toNatClampNeg 1) ((I (v0 + 1) (Int32.toNatClampNeg 1)) + v1)) := Bd.a0 hB0 (fa_0_0 ho0).1 (fa_0_0 ho0).2.2
        exact hQ _ _ _ _ hB8 trivial
      · skip
        have d9 : ((99) : Int) < ((((I (v0 + 1) (Int32.toNatClampNeg 1)) + v1) : Int32).toInt) := ci_nle rfl rfl c6
        exact hQ _ _ _ _ hB0 trivial
    · skip
      have d10 : ((99) : Int) < (v1.toInt) := ci_nle rfl rfl c4
      exact hQ _ _ _ _ hB0 trivial
set_option maxHeartbeats 2000000 in
theorem sp_X0_stockAfterCut {d : Nat} {Q : Qt} {v0 : Nat} {v1 : Int32} {v2 : Int32} {v3 : Int32} {v4 : Int32} {I : Im} {J : Jm} {R : Rm} (hB0 : Bd I) (hR0 : RI R) (ho0 : isO 112 v0 0 = true) (hv1 : 0 ≤ v1.toInt ∧ v1.toInt ≤ 30) (hQ : ∀ (x : Int32) (y : Int64) (I2 : Im) (J2 : Jm), Bd I2 → (True) → Q x y I2 J2 R) : AM (d + 1) 16 112 [.ref v0, .int v1, .int v2, .int v3, .int v4] I J R Q := by
  have i_v1 := i32 v1
  have i_v2 := i32 v2
  have i_v3 := i32 v3
  have i_v4 := i32 v4
  refine w_X0_stockAfterCut ?_
  refine bif_t ho0 ?_
  refine bif_t (fa_0_0 ho0).1 ?_
  refine ⟨by rw [(fa_0_0 ho0).2.1]; exact vp_of (a := v1.toInt) rfl (by omega) (by omega), ?_⟩
  refine ⟨fun c1 => ?_, fun c1 => ?_⟩
  · skip
    have d2 : ¬ ((v1.toInt) : Int) = (v2.toInt) := ci_ne rfl rfl c1
    refine ⟨fun c3 => ?_, fun c3 => ?_⟩
    · skip
      have d4 : ¬ ((v1.toInt) : Int) = (v3.toInt) := ci_ne rfl rfl c3
      refine ⟨fun c5 => ?_, fun c5 => ?_⟩
      · skip
        have d6 : ¬ ((v1.toInt) : Int) = (v4.toInt) := ci_ne rfl rfl c5
        exact hQ _ _ _ _ hB0 trivial
      · skip
        have d7 : ((v1.toInt) : Int) = (v4.toInt) := ci_eq rfl rfl c5
        exact hQ _ _ _ _ hB0 trivial
    · skip
      have d8 : ((v1.toInt) : Int) = (v3.toInt) := ci_eq rfl rfl c3
      refine ⟨fun c9 => ?_, fun c9 => ?_⟩
      · skip
        have d10 : ¬ ((v1.toInt) : Int) = (v4.toInt) := ci_ne rfl rfl c9
        exact hQ _ _ _ _ hB0 trivial
      · skip
        have d11 : ((v1.toInt) : Int) = (v4.toInt) := ci_eq rfl rfl c9
        exact hQ _ _ _ _ hB0 trivial
  · skip
    have d12 : ((v1.toInt) : Int) = (v2.toInt) := ci_eq rfl rfl c1
    refine ⟨fun c13 => ?_, fun c13 => ?_⟩
    · skip
      have d14 : ¬ ((v1.toInt) : Int) = (v3.toInt) := ci_ne rfl rfl c13
      refine ⟨fun c15 => ?_, fun c15 => ?_⟩
      · skip
        have d16 : ¬ ((v1.toInt) : Int) = (v4.toInt) := ci_ne rfl rfl c15
        exact hQ _ _ _ _ hB0 trivial
      · skip
        have d17 : ((v1.toInt) : Int) = (v4.toInt) := ci_eq rfl rfl c15
        exact hQ _ _ _ _ hB0 trivial
    · skip
      have d18 : ((v1.toInt) : Int) = (v3.toInt) := ci_eq rfl rfl c13
      refine ⟨fun c19 => ?_, fun c19 => ?_⟩
      · skip
        have d20 : ¬ ((v1.toInt) : Int) = (v4.toInt) := ci_ne rfl rfl c19
        exact hQ _ _ _ _ hB0 trivial
      · skip
        have d21 : ((v1.toInt) : Int) = (v4.toInt) := ci_eq rfl rfl c19
        exact hQ _ _ _ _ hB0 trivial
set_option maxHeartbeats 2000000 in
theorem sp_X0_cutUp {d : Nat} {Q : Qt} {v0 : Nat} {v1 : Int32} {v2 : Int32} {v3 : Int32} {I : Im} {J : Jm} {R : Rm} (hB0 : Bd I) (hR0 : RI R) (ho0 : isO 112 v0 0 = true) (hQ : ∀ (x : Int32) (y : Int64) (I2 : Im) (J2 : Jm), Bd I2 → (True) → Q x y I2 J2 R) : AM (d + 2) 15 112 [.ref v0, .int v1, .int v2, .int v3] I J R Q := by
  have i_v1 := i32 v1
  have i_v2 := i32 v2
  have i_v3 := i32 v3
  refine w_X0_cutUp ?_
  refine w_X11_isSlice ?_
  refine ⟨fun c1 => ?_, fun c1 => ?_⟩
  · skip
    have d2 : ((v1.toInt) : Int) < (1) := ci_lt rfl rfl c1
    refine ⟨Or.inl rfl, ?_⟩
    intro o3
    refine ⟨fun c4 => ?_, fun c4 => ?_⟩
    · skip
      exact hQ _ _ _ _ hB0 trivial
    · exact absurd c4 (by decide)
  · skip
    have d5 : ((1) : Int) ≤ (v1.toInt) := ci_nlt rfl rfl c1
    refine ⟨fun c6 => ?_, fun c6 => ?_⟩
    · skip
      have d7 : ((30) : Int) < (v1.toInt) := ci_lt rfl rfl c6
      refine ⟨Or.inl rfl, ?_⟩
      intro o8
      refine ⟨fun c9 => ?_, fun c9 => ?_⟩
      · skip
        exact hQ _ _ _ _ hB0 trivial
      · exact absurd c9 (by decide)
    · skip
      have d10 : ((v1.toInt) : Int) ≤ (30) := ci_nlt rfl rfl c6
      refine ⟨Or.inr rfl, ?_⟩
      intro o11
      refine ⟨fun c12 => ?_, fun c12 => ?_⟩
      · exact absurd c12 (by decide)
      · skip
        refine w_X11_isSlice ?_
        refine ⟨fun c13 => ?_, fun c13 => ?_⟩
        · skip
          have d14 : ((v2.toInt) : Int) < (1) := ci_lt rfl rfl c13
          refine ⟨Or.inl rfl, ?_⟩
          intro o15
          refine ⟨fun c16 => ?_, fun c16 => ?_⟩
          · skip
            exact hQ _ _ _ _ hB0 trivial
          · exact absurd c16 (by decide)
        · skip
          have d17 : ((1) : Int) ≤ (v2.toInt) := ci_nlt rfl rfl c13
          refine ⟨fun c18 => ?_, fun c18 => ?_⟩
          · skip
            have d19 : ((30) : Int) < (v2.toInt) := ci_lt rfl rfl c18
            refine ⟨Or.inl rfl, ?_⟩
            intro o20
            refine ⟨fun c21 => ?_, fun c21 => ?_⟩
            · skip
              exact hQ _ _ _ _ hB0 trivial
            · exact absurd c21 (by decide)
          · skip
            have d22 : ((v2.toInt) : Int) ≤ (30) := ci_nlt rfl rfl c18
            refine ⟨Or.inr rfl, ?_⟩
            intro o23
            refine ⟨fun c24 => ?_, fun c24 => ?_⟩
            · exact absurd c24 (by decide)
            · skip
              refine w_X11_isSlice ?_
              refine ⟨fun c25 => ?_, fun c25 => ?_⟩
              · skip
                have d26 : ((v3.toInt) : Int) < (1) := ci_lt rfl rfl c25
                refine ⟨Or.inl rfl, ?_⟩
                intro o27
                refine ⟨fun c28 => ?_, fun c28 => ?_⟩
                · exact absurd c28 (by decide)
                · skip
                  exact hQ _ _ _ _ hB0 trivial
              · skip
                have d29 : ((1) : Int) ≤ (v3.toInt) := ci_nlt rfl rfl c25
                refine ⟨fun c30 => ?_, fun c30 => ?_⟩
                · skip
                  have d31 : ((30) : Int) < (v3.toInt) := ci_lt rfl rfl c30
                  refine ⟨Or.inl rfl, ?_⟩
                  intro o32
                  refine ⟨fun c33 => ?_, fun c33 => ?_⟩
                  · exact absurd c33 (by decide)
                  · skip
                    exact hQ _ _ _ _ hB0 trivial
                · skip
                  have d34 : ((v3.toInt) : Int) ≤ (30) := ci_nlt rfl rfl c30
                  refine ⟨Or.inr rfl, ?_⟩
                  intro o35
                  refine ⟨fun c36 => ?_, fun c36 => ?_⟩
                  · skip
                    refine bif_t ho0 ?_
                    refine sp_X0_stockAfterCut hB0 hR0 ho0 (by have z : (v2 : Int32).toInt = v2.toInt := rfl; omega) (fun x37 y42 I38 J39 hB40 p41 => ?_)
                    have i43 := i32 x37
                    refine ⟨fun c44 => ?_, fun c44 => ?_⟩
                    · skip
                      have d45 : ((99) : Int) < (x37.toInt) := ci_lt rfl rfl c44
                      exact hQ _ _ _ _ hB40 trivial
                    · skip
                      have d46 : ((x37.toInt) : Int) ≤ (99) := ci_nlt rfl rfl c44
                      refine bif_t ho0 ?_
                      refine sp_X0_stockAfterCut hB40 hR0 ho0 (by have z : (v3 : Int32).toInt = v3.toInt := rfl; omega) (fun x47 y52 I48 J49 hB50 p51 => ?_)
                      have i53 := i32 x47
                      refine ⟨fun c54 => ?_, fun c54 => ?_⟩
                      · skip
                        have d55 : ((x47.toInt) : Int) ≤ (99) := ci_le rfl rfl c54
                        refine bif_t ho0 ?_
                        refine bif_t (fa_0_0 ho0).1 ?_
                        refine ⟨by rw [(fa_0_0 ho0).2.1]; exact vp_of (a := v1.toInt) rfl (by omega) (by omega), ?_⟩
                        refine ⟨fun c56 => ?_, fun c56 => ?_⟩
                        · skip
                          have d57 : (((I48 (v0 + 1) (Int32.toNatClampNeg v1)).toInt) : Int) < (1) := ci_lt rfl rfl c56
                          exact hQ _ _ _ _ hB50 trivial
                        · skip
                          have d58 : ((1) : Int) ≤ ((I48 (v0 + 1) (Int32.toNatClampNeg v1)).toInt) := ci_nlt rfl rfl c56
                          refine ⟨fun c59 => ?_, fun c59 => ?_⟩
                          · skip
                            have d60 : ((((v2 * v3) : Int32).toInt) : Int) = (((v1 * (v2 + v3)) : Int32).toInt) := ci_eq rfl rfl c59
                            refine bif_t ho0 ?_
                            refine bif_t (fa_0_0 ho0).1 ?_
                            refine ⟨by rw [(fa_0_0 ho0).2.1]; exact vp_of (a := v1.toInt) rfl (by omega) (by omega), ?_⟩
                            refine bif_t (fa_0_0 ho0).1 ?_
                            refine ⟨by rw [(fa_0_0 ho0).2.1]; exact vp_of (a := v1.toInt) rfl (by omega) (by omega), ?_⟩
                            have hB61 : Bd (uI I48 (v0 + 1) (Int32.toNatClampNeg v1) ((I48 (v0 + 1) (Int32.toNatClampNeg v1)) - 1)) := Bd.a0 hB50 (fa_0_0 ho0).1 (fa_0_0 ho0).2.2
                            refine bif_t ho0 ?_
                            refine bif_t (fa_0_0 ho0).1 ?_
                            refine ⟨by rw [(fa_0_0 ho0).2.1]; exact vp_of (a := v2.toInt) rfl (by omega) (by omega), ?_⟩
                            refine bif_t (fa_0_0 ho0).1 ?_
                            refine ⟨by rw [(fa_0_0 ho0).2.1]; exact vp_of (a := v2.toInt) rfl (by omega) (by omega), ?_⟩
                            have hB62 : Bd (uI (uI I48 (v0 + 1) (Int32.toNatClampNeg v1) ((I48 (v0 + 1) (Int32.toNatClampNeg v1)) - 1)) (v0 + 1) (Int32.toNatClampNeg v2) (((uI I48 (v0 + 1) (Int32.toNatClampNeg v1) ((I48 (v0 + 1) (Int32.toNatClampNeg v1)) - 1)) (v0 + 1) (Int32.toNatClampNeg v2)) + 1)) := Bd.a0 hB61 (fa_0_0 ho0).1 (fa_0_0 ho0).2.2
                            refine bif_t ho0 ?_
                            refine bif_t (fa_0_0 ho0).1 ?_
                            refine ⟨by rw [(fa_0_0 ho0).2.1]; exact vp_of (a := v3.toInt) rfl (by omega) (by omega), ?_⟩
                            refine bif_t (fa_0_0 ho0).1 ?_
                            refine ⟨by rw [(fa_0_0 ho0).2.1]; exact vp_of (a := v3.toInt) rfl (by omega) (by omega), ?_⟩
                            have hB63 : Bd (uI (uI (uI I48 (v0 + 1) (Int32.toNatClampNeg v1) ((I48 (v0 + 1) (Int32.toNatClampNeg v1)) - 1)) (v0 + 1) (Int32.toNatClampNeg v2) (((uI I48 (v0 + 1) (Int32.toNatClampNeg v1) ((I48 (v0 + 1) (Int32.toNatClampNeg v1)) - 1)) (v0 + 1) (Int32.toNatClampNeg v2)) + 1)) (v0 + 1) (Int32.toNatClampNeg v3) (((uI (uI I48 (v0 + 1) (Int32.toNatClampNeg v1) ((I48 (v0 + 1) (Int32.toNatClampNeg v1)) - 1)) (v0 + 1) (Int32.toNatClampNeg v2) (((uI I48 (v0 + 1) (Int32.toNatClampNeg v1) ((I48 (v0 + 1) (Int32.toNatClampNeg v1)) - 1)) (v0 + 1) (Int32.toNatClampNeg v2)) + 1)) (v0 + 1) (Int32.toNatClampNeg v3)) + 1)) := Bd.a0 hB62 (fa_0_0 ho0).1 (fa_0_0 ho0).2.2
                            refine bif_t ho0 ?_
                            refine bif_t ho0 ?_
                            have hB64 : Bd (uI (uI (uI (uI I48 (v0 + 1) (Int32.toNatClampNeg v1) ((I48 (v0 + 1) (Int32.toNatClampNeg v1)) - 1)) (v0 + 1) (Int32.toNatClampNeg v2) (((uI I48 (v0 + 1) (Int32.toNatClampNeg v1) ((I48 (v0 + 1) (Int32.toNatClampNeg v1)) - 1)) (v0 + 1) (Int32.toNatClampNeg v2)) + 1)) (v0 + 1) (Int32.toNatClampNeg v3) (((uI (uI I48 (v0 + 1) (Int32.toNatClampNeg v1) ((I48 (v0 + 1) (Int32.toNatClampNeg v1)) - 1)) (v0 + 1) (Int32.toNatClampNeg v2) (((uI I48 (v0 + 1) (Int32.toNatClampNeg v1) ((I48 (v0 + 1) (Int32.toNatClampNeg v1)) - 1)) (v0 + 1) (Int32.toNatClampNeg v2)) + 1)) (v0 + 1) (Int32.toNatClampNeg v3)) + 1)) v0 3 (((uI (uI (uI I48 (v0 + 1) (Int32.toNatClampNeg v1) ((I48 (v0 + 1) (Int32.toNatClampNeg v1)) - 1)) (v0 + 1) (Int32.toNatClampNeg v2) (((uI I48 (v0 + 1) (Int32.toNatClampNeg v1) ((I48 (v0 + 1) (Int32.toNatClampNeg v1)) - 1)) (v0 + 1) (Int32.toNatClampNeg v2)) + 1)) (v0 + 1) (Int32.toNatClampNeg v3) (((uI (uI I48 (v0 + 1) (Int32.toNatClampNeg v1) ((I48 (v0 + 1) (Int32.toNatClampNeg v1)) - 1)) (v0 + 1) (Int32.toNatClampNeg v2) (((uI I48 (v0 + 1) (Int32.toNatClampNeg v1) ((I48 (v0 + 1) (Int32.toNatClampNeg v1)) - 1)) (v0 + 1) (Int32.toNatClampNeg v2)) + 1)) (v0 + 1) (Int32.toNatClampNeg v3)) + 1)) v0 3) + 1)) := Bd.o0 hB63 ho0 (by decide) bd9_0_3
                            exact hQ _ _ _ _ hB64 trivial
                          · skip
                            have d65 : ¬ ((((v2 * v3) : Int32).toInt) : Int) = (((v1 * (v2 + v3)) : Int32).toInt) := ci_ne rfl rfl c59
                            exact hQ _ _ _ _ hB50 trivial
                      · skip
                        have d66 : ((99) : Int) < (x47.toInt) := ci_nle rfl rfl c54
                        exact hQ _ _ _ _ hB50 trivial
                  · exact absurd c36 (by decide)
set_option maxHeartbeats 2000000 in
theorem sp_X0_splitUp {d : Nat} {Q : Qt} {v0 : Nat} {v1 : Int32} {v2 : Int32} {I : Im} {J : Jm} {R : Rm} (hB0 : Bd I) (hR0 : RI R) (ho0 : isO 112 v0 0 = true) (hQ : ∀ (x : Int32) (y : Int64) (I2 : Im) (J2 : Jm), Bd I2 → (True) → Q x y I2 J2 R) : AM (d + 2) 17 112 [.ref v0, .int v1, .int v2] I J R Q := by
  have i_v1 := i32 v1
  have i_v2 := i32 v2
  refine am_X0_splitUp (fun P hc => ?_)
  have L : ∀ n : Nat, (∀ (v3 : Int32) (M : Im) (JM : Jm), Bd M → (1 ≤ v1.toInt ∧ v1.toInt ≤ 30) → 0 < (n : Int) → P 49 112 [(0, .ref v0), (1, .int v1), (2, .int v2), (3, .int v3)] [] M JM R) := by
    intro n
    induction n with
    | zero =>
      exact fun v3 M J _ hi hm => absurd hm (by omega)
    | succ n ih =>
      intro v3 M JM hB hi hm
      have i_v1 := i32 v1
      have i_v2 := i32 v2
      have i_v3 := i32 v3
      refine sg_X0_splitUp_49 hc _ _ _ _ _ _ _ ?_
      refine bif_t ho0 ?_
      refine bif_t (fa_0_0 ho0).1 ?_
      refine ⟨by rw [(fa_0_0 ho0).2.1]; exact vp_of (a := v1.toInt) rfl (by omega) (by omega), ?_⟩
      refine ⟨fun c1 => ?_, fun c1 => ?_⟩
      · skip
        have d2 : (((M (v0 + 1) (Int32.toNatClampNeg v1)).toInt) : Int) < (1) := ci_lt rfl rfl c1
        exact hQ _ _ _ _ hB trivial
      · skip
        have d3 : ((1) : Int) ≤ ((M (v0 + 1) (Int32.toNatClampNeg v1)).toInt) := ci_nlt rfl rfl c1
        refine w_X11_isSlice ?_
        refine ⟨fun c4 => ?_, fun c4 => ?_⟩
        · skip
          have d5 : ((v3.toInt) : Int) < (1) := ci_lt rfl rfl c4
          refine ⟨Or.inl rfl, ?_⟩
          intro o6
          refine ⟨fun c7 => ?_, fun c7 => ?_⟩
          · exact absurd c7 (by decide)
          · skip
            exact hQ _ _ _ _ hB trivial
        · skip
          have d8 : ((1) : Int) ≤ (v3.toInt) := ci_nlt rfl rfl c4
          refine ⟨fun c9 => ?_, fun c9 => ?_⟩
          · skip
            have d10 : ((30) : Int) < (v3.toInt) := ci_lt rfl rfl c9
            refine ⟨Or.inl rfl, ?_⟩
            intro o11
            refine ⟨fun c12 => ?_, fun c12 => ?_⟩
            · exact absurd c12 (by decide)
            · skip
              exact hQ _ _ _ _ hB trivial
          · skip
            have d13 : ((v3.toInt) : Int) ≤ (30) := ci_nlt rfl rfl c9
            refine ⟨Or.inr rfl, ?_⟩
            intro o14
            refine ⟨fun c15 => ?_, fun c15 => ?_⟩
            · skip
              refine bif_t ho0 ?_
              refine bif_t (fa_0_0 ho0).1 ?_
              refine ⟨by rw [(fa_0_0 ho0).2.1]; exact vp_of (a := v1.toInt) rfl (by omega) (by omega), ?_⟩
              refine bif_t (fa_0_0 ho0).1 ?_
              refine ⟨by rw [(fa_0_0 ho0).2.1]; exact vp_of (a := v1.toInt) rfl (by omega) (by omega), ?_⟩
              have hB16 : Bd (uI M (v0 + 1) (Int32.toNatClampNeg v1) ((M (v0 + 1) (Int32.toNatClampNeg v1)) - 1)) := Bd.a0 hB (fa_0_0 ho0).1 (fa_0_0 ho0).2.2
              refine bif_t ho0 ?_
              refine bif_t (fa_0_0 ho0).1 ?_
              refine ⟨by rw [(fa_0_0 ho0).2.1]; exact vp_of (a := v3.toInt) rfl (by omega) (by omega), ?_⟩
              refine bif_t (fa_0_0 ho0).1 ?_
              refine ⟨by rw [(fa_0_0 ho0).2.1]; exact vp_of (a := v3.toInt) rfl (by omega) (by omega), ?_⟩
              have hB17 : Bd (uI (uI M (v0 + 1) (Int32.toNatClampNeg v1) ((M (v0 + 1) (Int32.toNatClampNeg v1)) - 1)) (v0 + 1) (Int32.toNatClampNeg v3) (((uI M (v0 + 1) (Int32.toNatClampNeg v1) ((M (v0 + 1) (Int32.toNatClampNeg v1)) - 1)) (v0 + 1) (Int32.toNatClampNeg v3)) + v2)) := Bd.a0 hB16 (fa_0_0 ho0).1 (fa_0_0 ho0).2.2
              refine bif_t ho0 ?_
              refine bif_t ho0 ?_
              have hB18 : Bd (uI (uI (uI M (v0 + 1) (Int32.toNatClampNeg v1) ((M (v0 + 1) (Int32.toNatClampNeg v1)) - 1)) (v0 + 1) (Int32.toNatClampNeg v3) (((uI M (v0 + 1) (Int32.toNatClampNeg v1) ((M (v0 + 1) (Int32.toNatClampNeg v1)) - 1)) (v0 + 1) (Int32.toNatClampNeg v3)) + v2)) v0 3 (((uI (uI M (v0 + 1) (Int32.toNatClampNeg v1) ((M (v0 + 1) (Int32.toNatClampNeg v1)) - 1)) (v0 + 1) (Int32.toNatClampNeg v3) (((uI M (v0 + 1) (Int32.toNatClampNeg v1) ((M (v0 + 1) (Int32.toNatClampNeg v1)) - 1)) (v0 + 1) (Int32.toNatClampNeg v3)) + v2)) v0 3) + 1)) := Bd.o0 hB17 ho0 (by decide) bd9_0_3
              exact hQ _ _ _ _ hB18 trivial
            · exact absurd c15 (by decide)
  refine sg_X0_splitUp_0 hc _ _ _ _ _ _ ?_
  refine w_X11_isSlice ?_
  refine ⟨fun c19 => ?_, fun c19 => ?_⟩
  · skip
    have d20 : ((v1.toInt) : Int) < (1) := ci_lt rfl rfl c19
    refine ⟨Or.inl rfl, ?_⟩
    intro o21
    refine ⟨fun c22 => ?_, fun c22 => ?_⟩
    · exact absurd c22 (by decide)
    · skip
      exact hQ _ _ _ _ hB0 trivial
  · skip
    have d23 : ((1) : Int) ≤ (v1.toInt) := ci_nlt rfl rfl c19
    refine ⟨fun c24 => ?_, fun c24 => ?_⟩
    · skip
      have d25 : ((30) : Int) < (v1.toInt) := ci_lt rfl rfl c24
      refine ⟨Or.inl rfl, ?_⟩
      intro o26
      refine ⟨fun c27 => ?_, fun c27 => ?_⟩
      · exact absurd c27 (by decide)
      · skip
        exact hQ _ _ _ _ hB0 trivial
    · skip
      have d28 : ((v1.toInt) : Int) ≤ (30) := ci_nlt rfl rfl c24
      refine ⟨Or.inr rfl, ?_⟩
      intro o29
      refine ⟨fun c30 => ?_, fun c30 => ?_⟩
      · skip
        refine ⟨fun c31 => ?_, fun c31 => ?_⟩
        · skip
          have d32 : ((v2.toInt) : Int) < (2) := ci_lt rfl rfl c31
          exact hQ _ _ _ _ hB0 trivial
        · skip
          have d33 : ((2) : Int) ≤ (v2.toInt) := ci_nlt rfl rfl c31
          refine ⟨fun c34 => ?_, fun c34 => ?_⟩
          · skip
            have d35 : ((v2.toInt) : Int) ≤ (30) := ci_le rfl rfl c34
            refine w_X11_isSlice ?_
            refine ⟨fun c36 => ?_, fun c36 => ?_⟩
            · skip
              have d37 : ((((v1 * v2) : Int32).toInt) : Int) < (1) := ci_lt rfl rfl c36
              refine ⟨Or.inl rfl, ?_⟩
              intro o38
              refine ⟨fun c39 => ?_, fun c39 => ?_⟩
              · skip
                exact (L 1000000) _ _ _ hB0 (by omega) (by omega)
              · exact absurd c39 (by decide)
            · skip
              have d40 : ((1) : Int) ≤ (((v1 * v2) : Int32).toInt) := ci_nlt rfl rfl c36
              refine ⟨fun c41 => ?_, fun c41 => ?_⟩
              · skip
                have d42 : ((30) : Int) < (((v1 * v2) : Int32).toInt) := ci_lt rfl rfl c41
                refine ⟨Or.inl rfl, ?_⟩
                intro o43
                refine ⟨fun c44 => ?_, fun c44 => ?_⟩
                · skip
                  exact (L 1000000) _ _ _ hB0 (by omega) (by omega)
                · exact absurd c44 (by decide)
              · skip
                have d45 : ((((v1 * v2) : Int32).toInt) : Int) ≤ (30) := ci_nlt rfl rfl c41
                refine ⟨Or.inr rfl, ?_⟩
                intro o46
                refine ⟨fun c47 => ?_, fun c47 => ?_⟩
                · exact absurd c47 (by decide)
                · skip
                  refine bif_t ho0 ?_
                  refine bif_t (fa_0_0 ho0).1 ?_
                  refine ⟨by rw [(fa_0_0 ho0).2.1]; exact vp_of (a := ((v1 * v2) : Int32).toInt) rfl (by omega) (by omega), ?_⟩
                  refine ⟨fun c48 => ?_, fun c48 => ?_⟩
                  · skip
                    have d49 : (((((I (v0 + 1) (Int32.toNatClampNeg (v1 * v2))) + v2) : Int32).toInt) : Int) ≤ (99) := ci_le rfl rfl c48
                    exact (L 1000000) _ _ _ hB0 (by omega) (by omega)
                  · skip
                    have d50 : ((99) : Int) < ((((I (v0 + 1) (Int32.toNatClampNeg (v1 * v2))) + v2) : Int32).toInt) := ci_nle rfl rfl c48
                    exact hQ _ _ _ _ hB0 trivial
          · skip
            have d51 : ((30) : Int) < (v2.toInt) := ci_nle rfl rfl c34
            exact hQ _ _ _ _ hB0 trivial
      · exact absurd c30 (by decide)
set_option maxHeartbeats 2000000 in
theorem sp_X0_handOver {d : Nat} {Q : Qt} {v0 : Nat} {v1 : Int32} {v2 : Int32} {I : Im} {J : Jm} {R : Rm} (hB0 : Bd I) (hR0 : RI R) (ho0 : isO 112 v0 0 = true) (hQ : ∀ (x : Int32) (y : Int64) (I2 : Im) (J2 : Jm), Bd I2 → ((x.toInt = 0 → (0 ≤ v1.toInt ∧ v1.toInt ≤ 5))) → Q x y I2 J2 R) : AM (d + 2) 18 112 [.ref v0, .int v1, .int v2] I J R Q := by
  have i_v1 := i32 v1
  have i_v2 := i32 v2
  refine w_X0_handOver ?_
  refine bif_t ho0 ?_
  refine w_X0_isMan ?_
  refine ⟨fun c1 => ?_, fun c1 => ?_⟩
  · skip
    have d2 : ((v1.toInt) : Int) < (0) := ci_lt rfl rfl c1
    refine ⟨Or.inl rfl, ?_⟩
    intro o3
    refine ⟨fun c4 => ?_, fun c4 => ?_⟩
    · skip
      exact hQ _ _ _ _ hB0 (by have q0 : (2 : Int32).toInt = 2 := rfl; omega)
    · exact absurd c4 (by decide)
  · skip
    have d5 : ((0) : Int) ≤ (v1.toInt) := ci_nlt rfl rfl c1
    refine bif_t ho0 ?_
    refine ⟨fun c6 => ?_, fun c6 => ?_⟩
    · skip
      have b7 := Bd.o hB0 ho0 bd9_0_4
      have d8 : (((I v0 4).toInt) : Int) ≤ (v1.toInt) := ci_le rfl rfl c6
      refine ⟨Or.inl rfl, ?_⟩
      intro o9
      refine ⟨fun c10 => ?_, fun c10 => ?_⟩
      · skip
        exact hQ _ _ _ _ hB0 (by have q0 : (2 : Int32).toInt = 2 := rfl; omega)
      · exact absurd c10 (by decide)
    · skip
      have b11 := Bd.o hB0 ho0 bd9_0_4
      have d12 : ((v1.toInt) : Int) < ((I v0 4).toInt) := ci_nle rfl rfl c6
      refine ⟨Or.inr rfl, ?_⟩
      intro o13
      refine ⟨fun c14 => ?_, fun c14 => ?_⟩
      · exact absurd c14 (by decide)
      · skip
        refine w_X11_isSlice ?_
        refine ⟨fun c15 => ?_, fun c15 => ?_⟩
        · skip
          have d16 : ((v2.toInt) : Int) < (1) := ci_lt rfl rfl c15
          refine ⟨Or.inl rfl, ?_⟩
          intro o17
          refine ⟨fun c18 => ?_, fun c18 => ?_⟩
          · exact absurd c18 (by decide)
          · skip
            exact hQ _ _ _ _ hB0 (by have q0 : (2 : Int32).toInt = 2 := rfl; omega)
        · skip
          have d19 : ((1) : Int) ≤ (v2.toInt) := ci_nlt rfl rfl c15
          refine ⟨fun c20 => ?_, fun c20 => ?_⟩
          · skip
            have d21 : ((30) : Int) < (v2.toInt) := ci_lt rfl rfl c20
            refine ⟨Or.inl rfl, ?_⟩
            intro o22
            refine ⟨fun c23 => ?_, fun c23 => ?_⟩
            · exact absurd c23 (by decide)
            · skip
              exact hQ _ _ _ _ hB0 (by have q0 : (2 : Int32).toInt = 2 := rfl; omega)
          · skip
            have d24 : ((v2.toInt) : Int) ≤ (30) := ci_nlt rfl rfl c20
            refine ⟨Or.inr rfl, ?_⟩
            intro o25
            refine ⟨fun c26 => ?_, fun c26 => ?_⟩
            · skip
              refine bif_t ho0 ?_
              refine bif_t (fa_0_0 ho0).1 ?_
              refine ⟨by rw [(fa_0_0 ho0).2.1]; exact vp_of (a := v2.toInt) rfl (by omega) (by omega), ?_⟩
              refine ⟨fun c27 => ?_, fun c27 => ?_⟩
              · skip
                have d28 : (((I (v0 + 1) (Int32.toNatClampNeg v2)).toInt) : Int) < (1) := ci_lt rfl rfl c27
                exact hQ _ _ _ _ hB0 (by have q0 : (9 : Int32).toInt = 9 := rfl; omega)
              · skip
                have d29 : ((1) : Int) ≤ ((I (v0 + 1) (Int32.toNatClampNeg v2)).toInt) := ci_nlt rfl rfl c27
                refine bif_t ho0 ?_
                refine bif_t (fa_0_8 ho0).1 ?_
                refine ⟨by rw [(fa_0_8 ho0).2.1]; exact vp_of (a := v1.toInt) rfl (by omega) (by omega), ?_⟩
                refine w_X11_isIn ?_
                refine ⟨fun c30 => ?_, fun c30 => ?_⟩
                · skip
                  have d31 : (((((I (v0 + 5) (Int32.toNatClampNeg v1)) &&& (1 <<< ((v2 - 1) &&& 31))) : Int32).toInt) : Int) = (0) := ci_eq rfl rfl c30
                  refine ⟨Or.inl rfl, ?_⟩
                  intro o32
                  refine ⟨fun c33 => ?_, fun c33 => ?_⟩
                  · skip
                    refine bif_t ho0 ?_
                    refine bif_t (fa_0_0 ho0).1 ?_
                    refine ⟨by rw [(fa_0_0 ho0).2.1]; exact vp_of (a := v2.toInt) rfl (by omega) (by omega), ?_⟩
                    refine bif_t (fa_0_0 ho0).1 ?_
                    refine ⟨by rw [(fa_0_0 ho0).2.1]; exact vp_of (a := v2.toInt) rfl (by omega) (by omega), ?_⟩
                    have hB34 : Bd (uI I (v0 + 1) (Int32.toNatClampNeg v2) ((I (v0 + 1) (Int32.toNatClampNeg v2)) - 1)) := Bd.a0 hB0 (fa_0_0 ho0).1 (fa_0_0 ho0).2.2
                    refine bif_t ho0 ?_
                    refine bif_t (fa_0_8 ho0).1 ?_
                    refine ⟨by rw [(fa_0_8 ho0).2.1]; exact vp_of (a := v1.toInt) rfl (by omega) (by omega), ?_⟩
                    refine w_X11_bit ?_
                    refine bif_t (fa_0_8 ho0).1 ?_
                    refine ⟨by rw [(fa_0_8 ho0).2.1]; exact vp_of (a := v1.toInt) rfl (by omega) (by omega), ?_⟩
                    have hB35 : Bd (uI (uI I (v0 + 1) (Int32.toNatClampNeg v2) ((I (v0 + 1) (Int32.toNatClampNeg v2)) - 1)) (v0 + 5) (Int32.toNatClampNeg v1) (((uI I (v0 + 1) (Int32.toNatClampNeg v2) ((I (v0 + 1) (Int32.toNatClampNeg v2)) - 1)) (v0 + 5) (Int32.toNatClampNeg v1)) ||| (1 <<< ((v2 - 1) &&& 31)))) := Bd.a0 hB34 (fa_0_8 ho0).1 (fa_0_8 ho0).2.2
                    exact hQ _ _ _ _ hB35 (by have q0 : (0 : Int32).toInt = 0 := rfl; omega)
                  · exact absurd c33 (by decide)
                · skip
                  have d36 : ¬ (((((I (v0 + 5) (Int32.toNatClampNeg v1)) &&& (1 <<< ((v2 - 1) &&& 31))) : Int32).toInt) : Int) = (0) := ci_ne rfl rfl c30
                  refine ⟨Or.inr rfl, ?_⟩
                  intro o37
                  refine ⟨fun c38 => ?_, fun c38 => ?_⟩
                  · exact absurd c38 (by decide)
                  · skip
                    exact hQ _ _ _ _ hB0 (by have q0 : (9 : Int32).toInt = 9 := rfl; omega)
            · exact absurd c26 (by decide)
set_option maxHeartbeats 2000000 in
theorem sp_X0_handBack {d : Nat} {Q : Qt} {v0 : Nat} {v1 : Int32} {v2 : Int32} {I : Im} {J : Jm} {R : Rm} (hB0 : Bd I) (hR0 : RI R) (ho0 : isO 112 v0 0 = true) (hQ : ∀ (x : Int32) (y : Int64) (I2 : Im) (J2 : Jm), Bd I2 → ((x.toInt = 0 → (0 ≤ v1.toInt ∧ v1.toInt ≤ 5))) → Q x y I2 J2 R) : AM (d + 2) 19 112 [.ref v0, .int v1, .int v2] I J R Q := by
  have i_v1 := i32 v1
  have i_v2 := i32 v2
  refine w_X0_handBack ?_
  refine bif_t ho0 ?_
  refine w_X0_isMan ?_
  refine ⟨fun c1 => ?_, fun c1 => ?_⟩
  · skip
    have d2 : ((v1.toInt) : Int) < (0) := ci_lt rfl rfl c1
    refine ⟨Or.inl rfl, ?_⟩
    intro o3
    refine ⟨fun c4 => ?_, fun c4 => ?_⟩
    · skip
      exact hQ _ _ _ _ hB0 (by have q0 : (2 : Int32).toInt = 2 := rfl; omega)
    · exact absurd c4 (by decide)
  · skip
    have d5 : ((0) : Int) ≤ (v1.toInt) := ci_nlt rfl rfl c1
    refine bif_t ho0 ?_
    refine ⟨fun c6 => ?_, fun c6 => ?_⟩
    · skip
      have b7 := Bd.o hB0 ho0 bd9_0_4
      have d8 : (((I v0 4).toInt) : Int) ≤ (v1.toInt) := ci_le rfl rfl c6
      refine ⟨Or.inl rfl, ?_⟩
      intro o9
      refine ⟨fun c10 => ?_, fun c10 => ?_⟩
      · skip
        exact hQ _ _ _ _ hB0 (by have q0 : (2 : Int32).toInt = 2 := rfl; omega)
      · exact absurd c10 (by decide)
    · skip
      have b11 := Bd.o hB0 ho0 bd9_0_4
      have d12 : ((v1.toInt) : Int) < ((I v0 4).toInt) := ci_nle rfl rfl c6
      refine ⟨Or.inr rfl, ?_⟩
      intro o13
      refine ⟨fun c14 => ?_, fun c14 => ?_⟩
      · exact absurd c14 (by decide)
      · skip
        refine w_X11_isSlice ?_
        refine ⟨fun c15 => ?_, fun c15 => ?_⟩
        · skip
          have d16 : ((v2.toInt) : Int) < (1) := ci_lt rfl rfl c15
          refine ⟨Or.inl rfl, ?_⟩
          intro o17
          refine ⟨fun c18 => ?_, fun c18 => ?_⟩
          · exact absurd c18 (by decide)
          · skip
            exact hQ _ _ _ _ hB0 (by have q0 : (2 : Int32).toInt = 2 := rfl; omega)
        · skip
          have d19 : ((1) : Int) ≤ (v2.toInt) := ci_nlt rfl rfl c15
          refine ⟨fun c20 => ?_, fun c20 => ?_⟩
          · skip
            have d21 : ((30) : Int) < (v2.toInt) := ci_lt rfl rfl c20
            refine ⟨Or.inl rfl, ?_⟩
            intro o22
            refine ⟨fun c23 => ?_, fun c23 => ?_⟩
            · exact absurd c23 (by decide)
            · skip
              exact hQ _ _ _ _ hB0 (by have q0 : (2 : Int32).toInt = 2 := rfl; omega)
          · skip
            have d24 : ((v2.toInt) : Int) ≤ (30) := ci_nlt rfl rfl c20
            refine ⟨Or.inr rfl, ?_⟩
            intro o25
            refine ⟨fun c26 => ?_, fun c26 => ?_⟩
            · skip
              refine bif_t ho0 ?_
              refine bif_t (fa_0_0 ho0).1 ?_
              refine ⟨by rw [(fa_0_0 ho0).2.1]; exact vp_of (a := v2.toInt) rfl (by omega) (by omega), ?_⟩
              refine ⟨fun c27 => ?_, fun c27 => ?_⟩
              · skip
                have d28 : (((I (v0 + 1) (Int32.toNatClampNeg v2)).toInt) : Int) < (99) := ci_lt rfl rfl c27
                refine bif_t ho0 ?_
                refine bif_t (fa_0_8 ho0).1 ?_
                refine ⟨by rw [(fa_0_8 ho0).2.1]; exact vp_of (a := v1.toInt) rfl (by omega) (by omega), ?_⟩
                refine w_X11_isIn ?_
                refine ⟨fun c29 => ?_, fun c29 => ?_⟩
                · skip
                  have d30 : (((((I (v0 + 5) (Int32.toNatClampNeg v1)) &&& (1 <<< ((v2 - 1) &&& 31))) : Int32).toInt) : Int) = (0) := ci_eq rfl rfl c29
                  refine ⟨Or.inl rfl, ?_⟩
                  intro o31
                  refine ⟨fun c32 => ?_, fun c32 => ?_⟩
                  · exact absurd c32 (by decide)
                  · skip
                    exact hQ _ _ _ _ hB0 (by have q0 : (9 : Int32).toInt = 9 := rfl; omega)
                · skip
                  have d33 : ¬ (((((I (v0 + 5) (Int32.toNatClampNeg v1)) &&& (1 <<< ((v2 - 1) &&& 31))) : Int32).toInt) : Int) = (0) := ci_ne rfl rfl c29
                  refine ⟨Or.inr rfl, ?_⟩
                  intro o34
                  refine ⟨fun c35 => ?_, fun c35 => ?_⟩
                  · skip
                    refine bif_t ho0 ?_
                    refine bif_t (fa_0_0 ho0).1 ?_
                    refine ⟨by rw [(fa_0_0 ho0).2.1]; exact vp_of (a := v2.toInt) rfl (by omega) (by omega), ?_⟩
                    refine bif_t (fa_0_0 ho0).1 ?_
                    refine ⟨by rw [(fa_0_0 ho0).2.1]; exact vp_of (a := v2.toInt) rfl (by omega) (by omega), ?_⟩
                    have hB36 : Bd (uI I (v0 + 1) (Int32.toNatClampNeg v2) ((I (v0 + 1) (Int32.toNatClampNeg v2)) + 1)) := Bd.a0 hB0 (fa_0_0 ho0).1 (fa_0_0 ho0).2.2
                    refine bif_t ho0 ?_
                    refine bif_t (fa_0_8 ho0).1 ?_
                    refine ⟨by rw [(fa_0_8 ho0).2.1]; exact vp_of (a := v1.toInt) rfl (by omega) (by omega), ?_⟩
                    refine w_X11_bit ?_
                    refine bif_t (fa_0_8 ho0).1 ?_
                    refine ⟨by rw [(fa_0_8 ho0).2.1]; exact vp_of (a := v1.toInt) rfl (by omega) (by omega), ?_⟩
                    have hB37 : Bd (uI (uI I (v0 + 1) (Int32.toNatClampNeg v2) ((I (v0 + 1) (Int32.toNatClampNeg v2)) + 1)) (v0 + 5) (Int32.toNatClampNeg v1) (((uI I (v0 + 1) (Int32.toNatClampNeg v2) ((I (v0 + 1) (Int32.toNatClampNeg v2)) + 1)) (v0 + 5) (Int32.toNatClampNeg v1)) &&& ((1 <<< ((v2 - 1) &&& 31)) ^^^ (-1)))) := Bd.a0 hB36 (fa_0_8 ho0).1 (fa_0_8 ho0).2.2
                    exact hQ _ _ _ _ hB37 (by have q0 : (0 : Int32).toInt = 0 := rfl; omega)
                  · exact absurd c35 (by decide)
              · skip
                have d38 : ((99) : Int) ≤ ((I (v0 + 1) (Int32.toNatClampNeg v2)).toInt) := ci_nlt rfl rfl c27
                exact hQ _ _ _ _ hB0 (by have q0 : (7 : Int32).toInt = 7 := rfl; omega)
            · exact absurd c26 (by decide)
set_option maxHeartbeats 2000000 in
theorem sp_X2_forget {d : Nat} {Q : Qt} {v0 : Nat} {I : Im} {J : Jm} {R : Rm} (hB0 : Bd I) (hR0 : RI R) (ho0 : isO 112 v0 2 = true) (hQ : ∀ (x : Int32) (y : Int64) (I2 : Im) (J2 : Jm), Bd I2 → (I2 7 1 = I 7 1) → Q x y I2 J2 R) : AM (d + 1) 28 112 [.ref v0] I J R Q := by
  refine w_X2_forget ?_
  refine bif_t ho0 ?_
  refine ⟨Or.inl rfl, ?_⟩
  have hB1 : Bd (uI I v0 0 0) := Bd.o1 hB0 ho0 (by decide) bd9_2_0 rfl (bl_ti (Or.inl rfl))
  refine bif_t ho0 ?_
  have hB2 : Bd (uI (uI I v0 0 0) v0 1 0) := Bd.o0 hB1 ho0 (by decide) bd9_2_1
  refine bif_t ho0 ?_
  have hB3 : Bd (uI (uI (uI I v0 0 0) v0 1 0) v0 2 0) := Bd.o1 hB2 ho0 (by decide) bd9_2_2 (show (0 : Int32).toInt = 0 from rfl) (by omega)
  exact hQ _ _ _ _ hB3 (Eq.trans (Eq.trans (rd_ne (cne (clO io9_112_7_3) (clO ho0) rfl)) (rd_ne (cne (clO io9_112_7_3) (clO ho0) rfl))) (rd_ne (cne (clO io9_112_7_3) (clO ho0) rfl)))
set_option maxHeartbeats 2000000 in
theorem sp_X2_copyFrom {d : Nat} {Q : Qt} {v0 : Nat} {v1 : Nat} {I : Im} {J : Jm} {R : Rm} (hB0 : Bd I) (hR0 : RI R) (ho0 : isO 112 v0 2 = true) (ho1 : isO 112 v1 2 = true) (hQ : ∀ (x : Int32) (y : Int64) (I2 : Im) (J2 : Jm), Bd I2 → (I2 1 13 = I 1 13) → Q x y I2 J2 R) : AM (d + 1) 29 112 [.ref v0, .ref v1] I J R Q := by
  refine w_X2_copyFrom ?_
  refine bif_t ho1 ?_
  refine bif_t ho0 ?_
  refine ⟨(bl_of (Bd.o hB0 ho1 bd9_2_0)), ?_⟩
  have hB1 : Bd (uI I v0 0 (I v1 0)) := Bd.o1 hB0 ho0 (by decide) bd9_2_0 rfl (bl_ti ((bl_of (Bd.o hB0 ho1 bd9_2_0))))
  refine bif_t ho1 ?_
  refine bif_t ho0 ?_
  have hB2 : Bd (uI (uI I v0 0 (I v1 0)) v0 1 ((uI I v0 0 (I v1 0)) v1 1)) := Bd.o0 hB1 ho0 (by decide) bd9_2_1
  refine bif_t ho1 ?_
  refine bif_t ho0 ?_
  have b4 := Bd.o hB2 ho1 bd9_2_2
  have hB3 : Bd (uI (uI (uI I v0 0 (I v1 0)) v0 1 ((uI I v0 0 (I v1 0)) v1 1)) v0 2 ((uI (uI I v0 0 (I v1 0)) v0 1 ((uI I v0 0 (I v1 0)) v1 1)) v1 2)) := Bd.o1 hB2 ho0 (by decide) bd9_2_2 (show (((uI (uI I v0 0 (I v1 0)) v0 1 ((uI I v0 0 (I v1 0)) v1 1)) v1 2) : Int32).toInt = ((uI (uI I v0 0 (I v1 0)) v0 1 ((uI I v0 0 (I v1 0)) v1 1)) v1 2).toInt from rfl) (by omega)
  refine bif_t ho1 ?_
  refine bif_t ho0 ?_
  refine bif_t2 (fa_2_3 ho1).1 (fa_2_3 ho0).1 ?_
  refine ⟨⟨(fun z => by have z2 : (0 : Int) < 0 := ci_lt rfl rfl z; omega), (fun z => by have z2 : (0 : Int) < 0 := ci_lt rfl rfl z; omega), (fun z => by have z2 : (60 : Int) < 0 := ci_lt rfl rfl z; omega), (by (try rw [(fa_2_3 ho1).2.1]); have z1 := tn_of (show (60 : Int32).toInt = 60 from rfl) (by omega); have z2 := tn_of (show (0 : Int32).toInt = 0 from rfl) (by omega); omega), (by (try rw [(fa_2_3 ho0).2.1]); have z1 := tn_of (show (60 : Int32).toInt = 60 from rfl) (by omega); have z2 := tn_of (show (0 : Int32).toInt = 0 from rfl) (by omega); omega)⟩, ?_⟩
  have hB5 : Bd (cI (uI (uI (uI I v0 0 (I v1 0)) v0 1 ((uI I v0 0 (I v1 0)) v1 1)) v0 2 ((uI (uI I v0 0 (I v1 0)) v0 1 ((uI I v0 0 (I v1 0)) v1 1)) v1 2)) (v1 + 1) (v0 + 1) (Int32.toNatClampNeg 0) (Int32.toNatClampNeg 0) (Int32.toNatClampNeg 60)) := Bd.cp hB3 (fa_2_3 ho0).1 (fa_2_3 ho0).2.2
  refine bif_t ho1 ?_
  refine bif_t ho0 ?_
  refine bif_t2 (fa_2_4 ho1).1 (fa_2_4 ho0).1 ?_
  refine ⟨⟨(fun z => by have z2 : (0 : Int) < 0 := ci_lt rfl rfl z; omega), (fun z => by have z2 : (0 : Int) < 0 := ci_lt rfl rfl z; omega), (fun z => by have z2 : (60 : Int) < 0 := ci_lt rfl rfl z; omega), (by (try rw [(fa_2_4 ho1).2.1]); have z1 := tn_of (show (60 : Int32).toInt = 60 from rfl) (by omega); have z2 := tn_of (show (0 : Int32).toInt = 0 from rfl) (by omega); omega), (by (try rw [(fa_2_4 ho0).2.1]); have z1 := tn_of (show (60 : Int32).toInt = 60 from rfl) (by omega); have z2 := tn_of (show (0 : Int32).toInt = 0 from rfl) (by omega); omega)⟩, ?_⟩
  have hB6 : Bd (cI (cI (uI (uI (uI I v0 0 (I v1 0)) v0 1 ((uI I v0 0 (I v1 0)) v1 1)) v0 2 ((uI (uI I v0 0 (I v1 0)) v0 1 ((uI I v0 0 (I v1 0)) v1 1)) v1 2)) (v1 + 1) (v0 + 1) (Int32.toNatClampNeg 0) (Int32.toNatClampNeg 0) (Int32.toNatClampNeg 60)) (v1 + 2) (v0 + 2) (Int32.toNatClampNeg 0) (Int32.toNatClampNeg 0) (Int32.toNatClampNeg 60)) := Bd.cp hB5 (fa_2_4 ho0).1 (fa_2_4 ho0).2.2
  refine bif_t ho1 ?_
  refine bif_t ho0 ?_
  refine bif_t2 (fa_2_5 ho1).1 (fa_2_5 ho0).1 ?_
  refine ⟨⟨(fun z => by have z2 : (0 : Int) < 0 := ci_lt rfl rfl z; omega), (fun z => by have z2 : (0 : Int) < 0 := ci_lt rfl rfl z; omega), (fun z => by have z2 : (60 : Int) < 0 := ci_lt rfl rfl z; omega), (by (try rw [(fa_2_5 ho1).2.1]); have z1 := tn_of (show (60 : Int32).toInt = 60 from rfl) (by omega); have z2 := tn_of (show (0 : Int32).toInt = 0 from rfl) (by omega); omega), (by (try rw [(fa_2_5 ho0).2.1]); have z1 := tn_of (show (60 : Int32).toInt = 60 from rfl) (by omega); have z2 := tn_of (show (0 : Int32).toInt = 0 from rfl) (by omega); omega)⟩, ?_⟩
  have hB7 : Bd (cI (cI (cI (uI (uI (uI I v0 0 (I v1 0)) v0 1 ((uI I v0 0 (I v1 0)) v1 1)) v0 2 ((uI (uI I v0 0 (I v1 0)) v0 1 ((uI I v0 0 (I v1 0)) v1 1)) v1 2)) (v1 + 1) (v0 + 1) (Int32.toNatClampNeg 0) (Int32.toNatClampNeg 0) (Int32.toNatClampNeg 60)) (v1 + 2) (v0 + 2) (Int32.toNatClampNeg 0) (Int32.toNatClampNeg 0) (Int32.toNatClampNeg 60)) (v1 + 3) (v0 + 3) (Int32.toNatClampNeg 0) (Int32.toNatClampNeg 0) (Int32.toNatClampNeg 60)) := Bd.cp hB6 (fa_2_5 ho0).1 (fa_2_5 ho0).2.2
  refine bif_t ho1 ?_
  refine bif_t ho0 ?_
  refine bif_t2 (fa_2_6 ho1).1 (fa_2_6 ho0).1 ?_
  refine ⟨⟨(fun z => by have z2 : (0 : Int) < 0 := ci_lt rfl rfl z; omega), (fun z => by have z2 : (0 : Int) < 0 := ci_lt rfl rfl z; omega), (fun z => by have z2 : (60 : Int) < 0 := ci_lt rfl rfl z; omega), (by (try rw [(fa_2_6 ho1).2.1]); have z1 := tn_of (show (60 : Int32).toInt = 60 from rfl) (by omega); have z2 := tn_of (show (0 : Int32).toInt = 0 from rfl) (by omega); omega), (by (try rw [(fa_2_6 ho0).2.1]); have z1 := tn_of (show (60 : Int32).toInt = 60 from rfl) (by omega); have z2 := tn_of (show (0 : Int32).toInt = 0 from rfl) (by omega); omega)⟩, ?_⟩
  have hB8 : Bd (cI (cI (cI (cI (uI (uI (uI I v0 0 (I v1 0)) v0 1 ((uI I v0 0 (I v1 0)) v1 1)) v0 2 ((uI (uI I v0 0 (I v1 0)) v0 1 ((uI I v0 0 (I v1 0)) v1 1)) v1 2)) (v1 + 1) (v0 + 1) (Int32.toNatClampNeg 0) (Int32.toNatClampNeg 0) (Int32.toNatClampNeg 60)) (v1 + 2) (v0 + 2) (Int32.toNatClampNeg 0) (Int32.toNatClampNeg 0) (Int32.toNatClampNeg 60)) (v1 + 3) (v0 + 3) (Int32.toNatClampNeg 0) (Int32.toNatClampNeg 0) (Int32.toNatClampNeg 60)) (v1 + 4) (v0 + 4) (Int32.toNatClampNeg 0) (Int32.toNatClampNeg 0) (Int32.toNatClampNeg 60)) := Bd.cp hB7 (fa_2_6 ho0).1 (fa_2_6 ho0).2.2
  refine bif_t ho1 ?_
  refine bif_t ho0 ?_
  refine bif_t2 (fa_2_7 ho1).1 (fa_2_7 ho0).1 ?_
  refine ⟨⟨(fun z => by have z2 : (0 : Int) < 0 := ci_lt rfl rfl z; omega), (fun z => by have z2 : (0 : Int) < 0 := ci_lt rfl rfl z; omega), (fun z => by have z2 : (60 : Int) < 0 := ci_lt rfl rfl z; omega), (by (try rw [(fa_2_7 ho1).2.1]); have z1 := tn_of (show (60 : Int32).toInt = 60 from rfl) (by omega); have z2 := tn_of (show (0 : Int32).toInt = 0 from rfl) (by omega); omega), (by (try rw [(fa_2_7 ho0).2.1]); have z1 := tn_of (show (60 : Int32).toInt = 60 from rfl) (by omega); have z2 := tn_of (show (0 : Int32).toInt = 0 from rfl) (by omega); omega)⟩, ?_⟩
  have hB9 : Bd (cI (cI (cI (cI (cI (uI (uI (uI I v0 0 (I v1 0)) v0 1 ((uI I v0 0 (I v1 0)) v1 1)) v0 2 ((uI (uI I v0 0 (I v1 0)) v0 1 ((uI I v0 0 (I v1 0)) v1 1)) v1 2)) (v1 + 1) (v0 + 1) (Int32.toNatClampNeg 0) (Int32.toNatClampNeg 0) (Int32.toNatClampNeg 60)) (v1 + 2) (v0 + 2) (Int32.toNatClampNeg 0) (Int32.toNatClampNeg 0) (Int32.toNatClampNeg 60)) (v1 + 3) (v0 + 3) (Int32.toNatClampNeg 0) (Int32.toNatClampNeg 0) (Int32.toNatClampNeg 60)) (v1 + 4) (v0 + 4) (Int32.toNatClampNeg 0) (Int32.toNatClampNeg 0) (Int32.toNatClampNeg 60)) (v1 + 5) (v0 + 5) (Int32.toNatClampNeg 0) (Int32.toNatClampNeg 0) (Int32.toNatClampNeg 60)) := Bd.cp hB8 (fa_2_7 ho0).1 (fa_2_7 ho0).2.2
  exact hQ _ _ _ _ hB9 (Eq.trans (Eq.trans (Eq.trans (Eq.trans (Eq.trans (Eq.trans (Eq.trans (rd_c (cne (clO io9_112_1_11) (clA (fa_2_7 ho0).1) rfl)) (rd_c (cne (clO io9_112_1_11) (clA (fa_2_6 ho0).1) rfl))) (rd_c (cne (clO io9_112_1_11) (clA (fa_2_5 ho0).1) rfl))) (rd_c (cne (clO io9_112_1_11) (clA (fa_2_4 ho0).1) rfl))) (rd_c (cne (clO io9_112_1_11) (clA (fa_2_3 ho0).1) rfl))) (rd_ne (cne (clO io9_112_1_11) (clO ho0) rfl))) (rd_ne (cne (clO io9_112_1_11) (clO ho0) rfl))) (rd_ne (cne (clO io9_112_1_11) (clO ho0) rfl)))
set_option maxHeartbeats 2000000 in
theorem sp_X2_add {d : Nat} {Q : Qt} {v0 : Nat} {v1 : Int32} {v2 : Int32} {v3 : Int32} {v4 : Int32} {I : Im} {J : Jm} {R : Rm} (hB0 : Bd I) (hR0 : RI R) (ho0 : isO 112 v0 2 = true) (hQ : ∀ (x : Int32) (y : Int64) (I2 : Im) (J2 : Jm), Bd I2 → (I2 7 1 = I 7 1) → Q x y I2 J2 R) : AM (d + 1) 30 112 [.ref v0, .int v1, .int v2, .int v3, .int v4] I J R Q := by
  have i_v1 := i32 v1
  have i_v2 := i32 v2
  have i_v3 := i32 v3
  have i_v4 := i32 v4
  refine w_X2_add ?_
  refine bif_t ho0 ?_
  refine ⟨fun c1 => ?_, fun c1 => ?_⟩
  · skip
    have b2 := Bd.o hB0 ho0 bd9_2_2
    have d3 : (((I v0 2).toInt) : Int) < (60) := ci_lt rfl rfl c1
    refine bif_t ho0 ?_
    refine bif_t ho0 ?_
    refine bif_t (fa_2_3 ho0).1 ?_
    refine ⟨by rw [(fa_2_3 ho0).2.1]; exact vp_of (a := (I v0 2).toInt) rfl (by omega) (by omega), ?_⟩
    have hB4 : Bd (uI I (v0 + 1) (Int32.toNatClampNeg (I v0 2)) v1) := Bd.a0 hB0 (fa_2_3 ho0).1 (fa_2_3 ho0).2.2
    refine bif_t ho0 ?_
    refine bif_t ho0 ?_
    refine bif_t (fa_2_4 ho0).1 ?_
    have e5 : (((uI I (v0 + 1) (Int32.toNatClampNeg (I v0 2)) v1) v0 2) : Int32).toInt = (I v0 2).toInt := Eq.trans (congrArg Int32.toInt (rd_ne (by first | decide | omega))) rfl
    refine ⟨by rw [(fa_2_4 ho0).2.1]; exact vp_of (a := (I v0 2).toInt) e5 (by omega) (by omega), ?_⟩
    have hB6 : Bd (uI (uI I (v0 + 1) (Int32.toNatClampNeg (I v0 2)) v1) (v0 + 2) (Int32.toNatClampNeg ((uI I (v0 + 1) (Int32.toNatClampNeg (I v0 2)) v1) v0 2)) v2) := Bd.a0 hB4 (fa_2_4 ho0).1 (fa_2_4 ho0).2.2
    refine bif_t ho0 ?_
    refine bif_t ho0 ?_
    refine bif_t (fa_2_5 ho0).1 ?_
    have e7 : (((uI (uI I (v0 + 1) (Int32.toNatClampNeg (I v0 2)) v1) (v0 + 2) (Int32.toNatClampNeg ((uI I (v0 + 1) (Int32.toNatClampNeg (I v0 2)) v1) v0 2)) v2) v0 2) : Int32).toInt = (I v0 2).toInt := Eq.trans (congrArg Int32.toInt (Eq.trans (rd_ne (by first | decide | omega)) (rd_ne (by first | decide | omega)))) rfl
    refine ⟨by rw [(fa_2_5 ho0).2.1]; exact vp_of (a := (I v0 2).toInt) e7 (by omega) (by omega), ?_⟩
    have hB8 : Bd (uI (uI (uI I (v0 + 1) (Int32.toNatClampNeg (I v0 2)) v1) (v0 + 2) (Int32.toNatClampNeg ((uI I (v0 + 1) (Int32.toNatClampNeg (I v0 2)) v1) v0 2)) v2) (v0 + 3) (Int32.toNatClampNeg ((uI (uI I (v0 + 1) (Int32.toNatClampNeg (I v0 2)) v1) (v0 + 2) (Int32.toNatClampNeg ((uI I (v0 + 1) (Int32.toNatClampNeg (I v0 2)) v1) v0 2)) v2) v0 2)) v3) := Bd.a0 hB6 (fa_2_5 ho0).1 (fa_2_5 ho0).2.2
    refine bif_t ho0 ?_
    refine bif_t ho0 ?_
    refine bif_t (fa_2_6 ho0).1 ?_
    have e9 : (((uI (uI (uI I (v0 + 1) (Int32.toNatClampNeg (I v0 2)) v1) (v0 + 2) (Int32.toNatClampNeg ((uI I (v0 + 1) (Int32.toNatClampNeg (I v0 2)) v1) v0 2)) v2) (v0 + 3) (Int32.toNatClampNeg ((uI (uI I (v0 + 1) (Int32.toNatClampNeg (I v0 2)) v1) (v0 + 2) (Int32.toNatClampNeg ((uI I (v0 + 1) (Int32.toNatClampNeg (I v0 2)) v1) v0 2)) v2) v0 2)) v3) v0 2) : Int32).toInt = (I v0 2).toInt := Eq.trans (congrArg Int32.toInt (Eq.trans (Eq.trans (rd_ne (by first | decide | omega)) (rd_ne (by first | decide | omega))) (rd_ne (by first | decide | omega)))) rfl
    refine ⟨by rw [(fa_2_6 ho0).2.1]; exact vp_of (a := (I v0 2).toInt) e9 (by omega) (by omega), ?_⟩
    have hB10 : Bd (uI (uI (uI (uI I (v0 + 1) (Int32.toNatClampNeg (I v0 2)) v1) (v0 + 2) (Int32.toNatClampNeg ((uI I (v0 + 1) (Int32.toNatClampNeg (I v0 2)) v1) v0 2)) v2) (v0 + 3) (Int32.toNatClampNeg ((uI (uI I (v0 + 1) (Int32.toNatClampNeg (I v0 2)) v1) (v0 + 2) (Int32.toNatClampNeg ((uI I (v0 + 1) (Int32.toNatClampNeg (I v0 2)) v1) v0 2)) v2) v0 2)) v3) (v0 + 4) (Int32.toNatClampNeg ((uI (uI (uI I (v0 + 1) (Int32.toNatClampNeg (I v0 2)) v1) (v0 + 2) (Int32.toNatClampNeg ((uI I (v0 + 1) (Int32.toNatClampNeg (I v0 2)) v1) v0 2)) v2) (v0 + 3) (Int32.toNatClampNeg ((uI (uI I (v0 + 1) (Int32.toNatClampNeg (I v0 2)) v1) (v0 + 2) (Int32.toNatClampNeg ((uI I (v0 + 1) (Int32.toNatClampNeg (I v0 2)) v1) v0 2)) v2) v0 2)) v3) v0 2)) v4) := Bd.a0 hB8 (fa_2_6 ho0).1 (fa_2_6 ho0).2.2
    refine bif_t ho0 ?_
    refine bif_t ho0 ?_
    refine bif_t ho0 ?_
    refine bif_t (fa_2_7 ho0).1 ?_
    have e11 : (((uI (uI (uI (uI I (v0 + 1) (Int32.toNatClampNeg (I v0 2)) v1) (v0 + 2) (Int32.toNatClampNeg ((uI I (v0 + 1) (Int32.toNatClampNeg (I v0 2)) v1) v0 2)) v2) (v0 + 3) (Int32.toNatClampNeg ((uI (uI I (v0 + 1) (Int32.toNatClampNeg (I v0 2)) v1) (v0 + 2) (Int32.toNatClampNeg ((uI I (v0 + 1) (Int32.toNatClampNeg (I v0 2)) v1) v0 2)) v2) v0 2)) v3) (v0 + 4) (Int32.toNatClampNeg ((uI (uI (uI I (v0 + 1) (Int32.toNatClampNeg (I v0 2)) v1) (v0 + 2) (Int32.toNatClampNeg ((uI I (v0 + 1) (Int32.toNatClampNeg (I v0 2)) v1) v0 2)) v2) (v0 + 3) (Int32.toNatClampNeg ((uI (uI I (v0 + 1) (Int32.toNatClampNeg (I v0 2)) v1) (v0 + 2) (Int32.toNatClampNeg ((uI I (v0 + 1) (Int32.toNatClampNeg (I v0 2)) v1) v0 2)) v2) v0 2)) v3) v0 2)) v4) v0 2) : Int32).toInt = (I v0 2).toInt := Eq.trans (congrArg Int32.toInt (Eq.trans (Eq.trans (Eq.trans (rd_ne (by first | decide | omega)) (rd_ne (by first | decide | omega))) (rd_ne (by first | decide | omega))) (rd_ne (by first | decide | omega)))) rfl
    refine ⟨by rw [(fa_2_7 ho0).2.1]; exact vp_of (a := (I v0 2).toInt) e11 (by omega) (by omega), ?_⟩
    have hB12 : Bd (uI (uI (uI (uI (uI I (v0 + 1) (Int32.toNatClampNeg (I v0 2)) v1) (v0 + 2) (Int32.toNatClampNeg ((uI I (v0 + 1) (Int32.toNatClampNeg (I v0 2)) v1) v0 2)) v2) (v0 + 3) (Int32.toNatClampNeg ((uI (uI I (v0 + 1) (Int32.toNatClampNeg (I v0 2)) v1) (v0 + 2) (Int32.toNatClampNeg ((uI I (v0 + 1) (Int32.toNatClampNeg (I v0 2)) v1) v0 2)) v2) v0 2)) v3) (v0 + 4) (Int32.toNatClampNeg ((uI (uI (uI I (v0 + 1) (Int32.toNatClampNeg (I v0 2)) v1) (v0 + 2) (Int32.toNatClampNeg ((uI I (v0 + 1) (Int32.toNatClampNeg (I v0 2)) v1) v0 2)) v2) (v0 + 3) (Int32.toNatClampNeg ((uI (uI I (v0 + 1) (Int32.toNatClampNeg (I v0 2)) v1) (v0 + 2) (Int32.toNatClampNeg ((uI I (v0 + 1) (Int32.toNatClampNeg (I v0 2)) v1) v0 2)) v2) v0 2)) v3) v0 2)) v4) (v0 + 5) (Int32.toNatClampNeg ((uI (uI (uI (uI I (v0 + 1) (Int32.toNatClampNeg (I v0 2)) v1) (v0 + 2) (Int32.toNatClampNeg ((uI I (v0 + 1) (Int32.toNatClampNeg (I v0 2)) v1) v0 2)) v2) (v0 + 3) (Int32.toNatClampNeg ((uI (uI I (v0 + 1) (Int32.toNatClampNeg (I v0 2)) v1) (v0 + 2) (Int32.toNatClampNeg ((uI I (v0 + 1) (Int32.toNatClampNeg (I v0 2)) v1) v0 2)) v2) v0 2)) v3) (v0 + 4) (Int32.toNatClampNeg ((uI (uI (uI I (v0 + 1) (Int32.toNatClampNeg (I v0 2)) v1) (v0 + 2) (Int32.toNatClampNeg ((uI I (v0 + 1) (Int32.toNatClampNeg (I v0 2)) v1) v0 2)) v2) (v0 + 3) (Int32.toNatClampNeg ((uI (uI I (v0 + 1) (Int32.toNatClampNeg (I v0 2)) v1) (v0 + 2) (Int32.toNatClampNeg ((uI I (v0 + 1) (Int32.toNatClampNeg (I v0 2)) v1) v0 2)) v2) v0 2)) v3) v0 2)) v4) v0 2)) ((uI (uI (uI (uI I (v0 + 1) (Int32.toNatClampNeg (I v0 2)) v1) (v0 + 2) (Int32.toNatClampNeg ((uI I (v0 + 1) (Int32.toNatClampNeg (I v0 2)) v1) v0 2)) v2) (v0 + 3) (Int32.toNatClampNeg ((uI (uI I (v0 + 1) (Int32.toNatClampNeg (I v0 2)) v1) (v0 + 2) (Int32.toNatClampNeg ((uI I (v0 + 1) (Int32.toNatClampNeg (I v0 2)) v1) v0 2)) v2) v0 2)) v3) (v0 + 4) (Int32.toNatClampNeg ((uI (uI (uI I (v0 + 1) (Int32.toNatClampNeg (I v0 2)) v1) (v0 + 2) (Int32.toNatClampNeg ((uI I (v0 + 1) (Int32.toNatClampNeg (I v0 2)) v1) v0 2)) v2) (v0 + 3) (Int32.toNatClampNeg ((uI (uI I (v0 + 1) (Int32.toNatClampNeg (I v0 2)) v1) (v0 + 2) (Int32.toNatClampNeg ((uI I (v0 + 1) (Int32.toNatClampNeg (I v0 2)) v1) v0 2)) v2) v0 2)) v3) v0 2)) v4) v0 2)) := Bd.a0 hB10 (fa_2_7 ho0).1 (fa_2_7 ho0).2.2
    refine bif_t ho0 ?_
    refine bif_t ho0 ?_
    have e14 : (((uI (uI (uI (uI (uI I (v0 + 1) (Int32.toNatClampNeg (I v0 2)) v1) (v0 + 2) (Int32.toNatClampNeg ((uI I (v0 + 1) (Int32.toNatClampNeg (I v0 2)) v1) v0 2)) v2) (v0 + 3) (Int32.toNatClampNeg ((uI (uI I (v0 + 1) (Int32.toNatClampNeg (I v0 2)) v1) (v0 + 2) (Int32.toNatClampNeg ((uI I (v0 + 1) (Int32.toNatClampNeg (I v0 2)) v1) v0 2)) v2) v0 2)) v3) (v0 + 4) (Int32.toNatClampNeg ((uI (uI (uI I (v0 + 1) (Int32.toNatClampNeg (I v0 2)) v1) (v0 + 2) (Int32.toNatClampNeg ((uI I (v0 + 1) (Int32.toNatClampNeg (I v0 2)) v1) v0 2)) v2) (v0 + 3) (Int32.toNatClampNeg ((uI (uI I (v0 + 1) (Int32.toNatClampNeg (I v0 2)) v1) (v0 + 2) (Int32.toNatClampNeg ((uI I (v0 + 1) (Int32.toNatClampNeg (I v0 2)) v1) v0 2)) v2) v0 2)) v3) v0 2)) v4) (v0 + 5) (Int32.toNatClampNeg ((uI (uI (uI (uI I (v0 + 1) (Int32.toNatClampNeg (I v0 2)) v1) (v0 + 2) (Int32.toNatClampNeg ((uI I (v0 + 1) (Int32.toNatClampNeg (I v0 2)) v1) v0 2)) v2) (v0 + 3) (Int32.toNatClampNeg ((uI (uI I (v0 + 1) (Int32.toNatClampNeg (I v0 2)) v1) (v0 + 2) (Int32.toNatClampNeg ((uI I (v0 + 1) (Int32.toNatClampNeg (I v0 2)) v1) v0 2)) v2) v0 2)) v3) (v0 + 4) (Int32.toNatClampNeg ((uI (uI (uI I (v0 + 1) (Int32.toNatClampNeg (I v0 2)) v1) (v0 + 2) (Int32.toNatClampNeg ((uI I (v0 + 1) (Int32.toNatClampNeg (I v0 2)) v1) v0 2)) v2) (v0 + 3) (Int32.toNatClampNeg ((uI (uI I (v0 + 1) (Int32.toNatClampNeg (I v0 2)) v1) (v0 + 2) (Int32.toNatClampNeg ((uI I (v0 + 1) (Int32.toNatClampNeg (I v0 2)) v1) v0 2)) v2) v0 2)) v3) v0 2)) v4) v0 2)) ((uI (uI (uI (uI I (v0 + 1) (Int32.toNatClampNeg (I v0 2)) v1) (v0 + 2) (Int32.toNatClampNeg ((uI I (v0 + 1) (Int32.toNatClampNeg (I v0 2)) v1) v0 2)) v2) (v0 + 3) (Int32.toNatClampNeg ((uI (uI I (v0 + 1) (Int32.toNatClampNeg (I v0 2)) v1) (v0 + 2) (Int32.toNatClampNeg ((uI I (v0 + 1) (Int32.toNatClampNeg (I v0 2)) v1) v0 2)) v2) v0 2)) v3) (v0 + 4) (Int32.toNatClampNeg ((uI (uI (uI I (v0 + 1) (Int32.toNatClampNeg (I v0 2)) v1) (v0 + 2) (Int32.toNatClampNeg ((uI I (v0 + 1) (Int32.toNatClampNeg (I v0 2)) v1) v0 2)) v2) (v0 + 3) (Int32.toNatClampNeg ((uI (uI I (v0 + 1) (Int32.toNatClampNeg (I v0 2)) v1) (v0 + 2) (Int32.toNatClampNeg ((uI I (v0 + 1) (Int32.toNatClampNeg (I v0 2)) v1) v0 2)) v2) v0 2)) v3) v0 2)) v4) v0 2)) v0 2) : Int32).toInt = (I v0 2).toInt := Eq.trans (congrArg Int32.toInt (Eq.trans (Eq.trans (Eq.trans (Eq.trans (rd_ne (by first | decide | omega)) (rd_ne (by first | decide | omega))) (rd_ne (by first | decide | omega))) (rd_ne (by first | decide | omega))) (rd_ne (by first | decide | omega)))) rfl
    have e15 : ((((uI (uI (uI (uI (uI I (v0 + 1) (Int32.toNatClampNeg (I v0 2)) v1) (v0 + 2) (Int32.toNatClampNeg ((uI I (v0 + 1) (Int32.toNatClampNeg (I v0 2)) v1) v0 2)) v2) (v0 + 3) (Int32.toNatClampNeg ((uI (uI I (v0 + 1) (Int32.toNatClampNeg (I v0 2)) v1) (v0 + 2) (Int32.toNatClampNeg ((uI I (v0 + 1) (Int32.toNatClampNeg (I v0 2)) v1) v0 2)) v2) v0 2)) v3) (v0 + 4) (Int32.toNatClampNeg ((uI (uI (uI I (v0 + 1) (Int32.toNatClampNeg (I v0 2)) v1) (v0 + 2) (Int32.toNatClampNeg ((uI I (v0 + 1) (Int32.toNatClampNeg (I v0 2)) v1) v0 2)) v2) (v0 + 3) (Int32.toNatClampNeg ((uI (uI I (v0 + 1) (Int32.toNatClampNeg (I v0 2)) v1) (v0 + 2) (Int32.toNatClampNeg ((uI I (v0 + 1) (Int32.toNatClampNeg (I v0 2)) v1) v0 2)) v2) v0 2)) v3) v0 2)) v4) (v0 + 5) (Int32.toNatClampNeg ((uI (uI (uI (uI I (v0 + 1) (Int32.toNatClampNeg (I v0 2)) v1) (v0 + 2) (Int32.toNatClampNeg ((uI I (v0 + 1) (Int32.toNatClampNeg (I v0 2)) v1) v0 2)) v2) (v0 + 3) (Int32.toNatClampNeg ((uI (uI I (v0 + 1) (Int32.toNatClampNeg (I v0 2)) v1) (v0 + 2) (Int32.toNatClampNeg ((uI I (v0 + 1) (Int32.toNatClampNeg (I v0 2)) v1) v0 2)) v2) v0 2)) v3) (v0 + 4) (Int32.toNatClampNeg ((uI (uI (uI I (v0 + 1) (Int32.toNatClampNeg (I v0 2)) v1) (v0 + 2) (Int32.toNatClampNeg ((uI I (v0 + 1) (Int32.toNatClampNeg (I v0 2)) v1) v0 2)) v2) (v0 + 3) (Int32.toNatClampNeg ((uI (uI I (v0 + 1) (Int32.toNatClampNeg (I v0 2)) v1) (v0 + 2) (Int32.toNatClampNeg ((uI I (v0 + 1) (Int32.toNatClampNeg (I v0 2)) v1) v0 2)) v2) v0 2)) v3) v0 2)) v4) v0 2)) ((uI (uI (uI (uI I (v0 + 1) (Int32.toNatClampNeg (I v0 2)) v1) (v0 + 2) (Int32.toNatClampNeg ((uI I (v0 + 1) (Int32.toNatClampNeg (I v0 2)) v1) v0 2)) v2) (v0 + 3) (Int32.toNatClampNeg ((uI (uI I (v0 + 1) (Int32.toNatClampNeg (I v0 2)) v1) (v0 + 2) (Int32.toNatClampNeg ((uI I (v0 + 1) (Int32.toNatClampNeg (I v0 2)) v1) v0 2)) v2) v0 2)) v3) (v0 + 4) (Int32.toNatClampNeg ((uI (uI (uI I (v0 + 1) (Int32.toNatClampNeg (I v0 2)) v1) (v0 + 2) (Int32.toNatClampNeg ((uI I (v0 + 1) (Int32.toNatClampNeg (I v0 2)) v1) v0 2)) v2) (v0 + 3) (Int32.toNatClampNeg ((uI (uI I (v0 + 1) (Int32.toNatClampNeg (I v0 2)) v1) (v0 + 2) (Int32.toNatClampNeg ((uI I (v0 + 1) (Int32.toNatClampNeg (I v0 2)) v1) v0 2)) v2) v0 2)) v3) v0 2)) v4) v0 2)) v0 2) + 1) : Int32).toInt = ((I v0 2).toInt) + (1) := ti_add e14 rfl (by omega)
    have hB13 : Bd (uI (uI (uI (uI (uI (uI I (v0 + 1) (Int32.toNatClampNeg (I v0 2)) v1) (v0 + 2) (Int32.toNatClampNeg ((uI I (v0 + 1) (Int32.toNatClampNeg (I v0 2)) v1) v0 2)) v2) (v0 + 3) (Int32.toNatClampNeg ((uI (uI I (v0 + 1) (Int32.toNatClampNeg (I v0 2)) v1) (v0 + 2) (Int32.toNatClampNeg ((uI I (v0 + 1) (Int32.toNatClampNeg (I v0 2)) v1) v0 2)) v2) v0 2)) v3) (v0 + 4) (Int32.toNatClampNeg ((uI (uI (uI I (v0 + 1) (Int32.toNatClampNeg (I v0 2)) v1) (v0 + 2) (Int32.toNatClampNeg ((uI I (v0 + 1) (Int32.toNatClampNeg (I v0 2)) v1) v0 2)) v2) (v0 + 3) (Int32.toNatClampNeg ((uI (uI I (v0 + 1) (Int32.toNatClampNeg (I v0 2)) v1) (v0 + 2) (Int32.toNatClampNeg ((uI I (v0 + 1) (Int32.toNatClampNeg (I v0 2)) v1) v0 2)) v2) v0 2)) v3) v0 2)) v4) (v0 + 5) (Int32.toNatClampNeg ((uI (uI (uI (uI I (v0 + 1) (Int32.toNatClampNeg (I v0 2)) v1) (v0 + 2) (Int32.toNatClampNeg ((uI I (v0 + 1) (Int32.toNatClampNeg (I v0 2)) v1) v0 2)) v2) (v0 + 3) (Int32.toNatClampNeg ((uI (uI I (v0 + 1) (Int32.toNatClampNeg (I v0 2)) v1) (v0 + 2) (Int32.toNatClampNeg ((uI I (v0 + 1) (Int32.toNatClampNeg (I v0 2)) v1) v0 2)) v2) v0 2)) v3) (v0 + 4) (Int32.toNatClampNeg ((uI (uI (uI I (v0 + 1) (Int32.toNatClampNeg (I v0 2)) v1) (v0 + 2) (Int32.toNatClampNeg ((uI I (v0 + 1) (Int32.toNatClampNeg (I v0 2)) v1) v0 2)) v2) (v0 + 3) (Int32.toNatClampNeg ((uI (uI I (v0 + 1) (Int32.toNatClampNeg (I v0 2)) v1) (v0 + 2) (Int32.toNatClampNeg ((uI I (v0 + 1) (Int32.toNatClampNeg (I v0 2)) v1) v0 2)) v2) v0 2)) v3) v0 2)) v4) v0 2)) ((uI (uI (uI (uI I (v0 + 1) (Int32.toNatClampNeg (I v0 2)) v1) (v0 + 2) (Int32.toNatClampNeg ((uI I (v0 + 1) (Int32.toNatClampNeg (I v0 2)) v1) v0 2)) v2) (v0 + 3) (Int32.toNatClampNeg ((uI (uI I (v0 + 1) (Int32.toNatClampNeg (I v0 2)) v1) (v0 + 2) (Int32.toNatClampNeg ((uI I (v0 + 1) (Int32.toNatClampNeg (I v0 2)) v1) v0 2)) v2) v0 2)) v3) (v0 + 4) (Int32.toNatClampNeg ((uI (uI (uI I (v0 + 1) (Int32.toNatClampNeg (I v0 2)) v1) (v0 + 2) (Int32.toNatClampNeg ((uI I (v0 + 1) (Int32.toNatClampNeg (I v0 2)) v1) v0 2)) v2) (v0 + 3) (Int32.toNatClampNeg ((uI (uI I (v0 + 1) (Int32.toNatClampNeg (I v0 2)) v1) (v0 + 2) (Int32.toNatClampNeg ((uI I (v0 + 1) (Int32.toNatClampNeg (I v0 2)) v1) v0 2)) v2) v0 2)) v3) v0 2)) v4) v0 2)) v0 2 (((uI (uI (uI (uI (uI I (v0 + 1) (Int32.toNatClampNeg (I v0 2)) v1) (v0 + 2) (Int32.toNatClampNeg ((uI I (v0 + 1) (Int32.toNatClampNeg (I v0 2)) v1) v0 2)) v2) (v0 + 3) (Int32.toNatClampNeg ((uI (uI I (v0 + 1) (Int32.toNatClampNeg (I v0 2)) v1) (v0 + 2) (Int32.toNatClampNeg ((uI I (v0 + 1) (Int32.toNatClampNeg (I v0 2)) v1) v0 2)) v2) v0 2)) v3) (v0 + 4) (Int32.toNatClampNeg ((uI (uI (uI I (v0 + 1) (Int32.toNatClampNeg (I v0 2)) v1) (v0 + 2) (Int32.toNatClampNeg ((uI I (v0 + 1) (Int32.toNatClampNeg (I v0 2)) v1) v0 2)) v2) (v0 + 3) (Int32.toNatClampNeg ((uI (uI I (v0 + 1) (Int32.toNatClampNeg (I v0 2)) v1) (v0 + 2) (Int32.toNatClampNeg ((uI I (v0 + 1) (Int32.toNatClampNeg (I v0 2)) v1) v0 2)) v2) v0 2)) v3) v0 2)) v4) (v0 + 5) (Int32.toNatClampNeg ((uI (uI (uI (uI I (v0 + 1) (Int32.toNatClampNeg (I v0 2)) v1) (v0 + 2) (Int32.toNatClampNeg ((uI I (v0 + 1) (Int32.toNatClampNeg (I v0 2)) v1) v0 2)) v2) (v0 + 3) (Int32.toNatClampNeg ((uI (uI I (v0 + 1) (Int32.toNatClampNeg (I v0 2)) v1) (v0 + 2) (Int32.toNatClampNeg ((uI I (v0 + 1) (Int32.toNatClampNeg (I v0 2)) v1) v0 2)) v2) v0 2)) v3) (v0 + 4) (Int32.toNatClampNeg ((uI (uI (uI I (v0 + 1) (Int32.toNatClampNeg (I v0 2)) v1) (v0 + 2) (Int32.toNatClampNeg ((uI I (v0 + 1) (Int32.toNatClampNeg (I v0 2)) v1) v0 2)) v2) (v0 + 3) (Int32.toNatClampNeg ((uI (uI I (v0 + 1) (Int32.toNatClampNeg (I v0 2)) v1) (v0 + 2) (Int32.toNatClampNeg ((uI I (v0 + 1) (Int32.toNatClampNeg (I v0 2)) v1) v0 2)) v2) v0 2)) v3) v0 2)) v4) v0 2)) ((uI (uI (uI (uI I (v0 + 1) (Int32.toNatClampNeg (I v0 2)) v1) (v0 + 2) (Int32.toNatClampNeg ((uI I (v0 + 1) (Int32.toNatClampNeg (I v0 2)) v1) v0 2)) v2) (v0 + 3) (Int32.toNatClampNeg ((uI (uI I (v0 + 1) (Int32.toNatClampNeg (I v0 2)) v1) (v0 + 2) (Int32.toNatClampNeg ((uI I (v0 + 1) (Int32.toNatClampNeg (I v0 2)) v1) v0 2)) v2) v0 2)) v3) (v0 + 4) (Int32.toNatClampNeg ((uI (uI (uI I (v0 + 1) (Int32.toNatClampNeg (I v0 2)) v1) (v0 + 2) (Int32.toNatClampNeg ((uI I (v0 + 1) (Int32.toNatClampNeg (I v0 2)) v1) v0 2)) v2) (v0 + 3) (Int32.toNatClampNeg ((uI (uI I (v0 + 1) (Int32.toNatClampNeg (I v0 2)) v1) (v0 + 2) (Int32.toNatClampNeg ((uI I (v0 + 1) (Int32.toNatClampNeg (I v0 2)) v1) v0 2)) v2) v0 2)) v3) v0 2)) v4) v0 2)) v0 2) + 1)) := Bd.o1 hB12 ho0 (by decide) bd9_2_2 (show ((((uI (uI (uI (uI (uI I (v0 + 1) (Int32.toNatClampNeg (I v0 2)) v1) (v0 + 2) (Int32.toNatClampNeg ((uI I (v0 + 1) (Int32.toNatClampNeg (I v0 2)) v1) v0 2)) v2) (v0 + 3) (Int32.toNatClampNeg ((uI (uI I (v0 + 1) (Int32.toNatClampNeg (I v0 2)) v1) (v0 + 2) (Int32.toNatClampNeg ((uI I (v0 + 1) (Int32.toNatClampNeg (I v0 2)) v1) v0 2)) v2) v0 2)) v3) (v0 + 4) (Int32.toNatClampNeg ((uI (uI (uI I (v0 + 1) (Int32.toNatClampNeg (I v0 2)) v1) (v0 + 2) (Int32.toNatClampNeg ((uI I (v0 + 1) (Int32.toNatClampNeg (I v0 2)) v1) v0 2)) v2) (v0 + 3) (Int32.toNatClampNeg ((uI (uI I (v0 + 1) (Int32.toNatClampNeg (I v0 2)) v1) (v0 + 2) (Int32.toNatClampNeg ((uI I (v0 + 1) (Int32.toNatClampNeg (I v0 2)) v1) v0 2)) v2) v0 2)) v3) v0 2)) v4) (v0 + 5) (Int32.toNatClampNeg ((uI (uI (uI (uI I (v0 + 1) (Int32.toNatClampNeg (I v0 2)) v1) (v0 + 2) (Int32.toNatClampNeg ((uI I (v0 + 1) (Int32.toNatClampNeg (I v0 2)) v1) v0 2)) v2) (v0 + 3) (Int32.toNatClampNeg ((uI (uI I (v0 + 1) (Int32.toNatClampNeg (I v0 2)) v1) (v0 + 2) (Int32.toNatClampNeg ((uI I (v0 + 1) (Int32.toNatClampNeg (I v0 2)) v1) v0 2)) v2) v0 2)) v3) (v0 + 4) (Int32.toNatClampNeg ((uI (uI (uI I (v0 + 1) (Int32.toNatClampNeg (I v0 2)) v1) (v0 + 2) (Int32.toNatClampNeg ((uI I (v0 + 1) (Int32.toNatClampNeg (I v0 2)) v1) v0 2)) v2) (v0 + 3) (Int32.toNatClampNeg ((uI (uI I (v0 + 1) (Int32.toNatClampNeg (I v0 2)) v1) (v0 + 2) (Int32.toNatClampNeg ((uI I (v0 + 1) (Int32.toNatClampNeg (I v0 2)) v1) v0 2)) v2) v0 2)) v3) v0 2)) v4) v0 2)) ((uI (uI (uI (uI I (v0 + 1) (Int32.toNatClampNeg (I v0 2)) v1) (v0 + 2) (Int32.toNatClampNeg ((uI I (v0 + 1) (Int32.toNatClampNeg (I v0 2)) v1) v0 2)) v2) (v0 + 3) (Int32.toNatClampNeg ((uI (uI I (v0 + 1) (Int32.toNatClampNeg (I v0 2)) v1) (v0 + 2) (Int32.toNatClampNeg ((uI I (v0 + 1) (Int32.toNatClampNeg (I v0 2)) v1) v0 2)) v2) v0 2)) v3) (v0 + 4) (Int32.toNatClampNeg ((uI (uI (uI I (v0 + 1) (Int32.toNatClampNeg (I v0 2)) v1) (v0 + 2) (Int32.toNatClampNeg ((uI I (v0 + 1) (Int32.toNatClampNeg (I v0 2)) v1) v0 2)) v2) (v0 + 3) (Int32.toNatClampNeg ((uI (uI I (v0 + 1) (Int32.toNatClampNeg (I v0 2)) v1) (v0 + 2) (Int32.toNatClampNeg ((uI I (v0 + 1) (Int32.toNatClampNeg (I v0 2)) v1) v0 2)) v2) v0 2)) v3) v0 2)) v4) v0 2)) v0 2) + 1) : Int32).toInt = ((I v0 2).toInt + 1) from e15) (by omega)
    refine ⟨Or.inr rfl, ?_⟩
    exact hQ _ _ _ _ hB13 (Eq.trans (Eq.trans (Eq.trans (Eq.trans (Eq.trans (rd_ne (cne (clO io9_112_7_3) (clO ho0) rfl)) (rd_ne (cne (clO io9_112_7_3) (clA (fa_2_7 ho0).1) rfl))) (rd_ne (cne (clO io9_112_7_3) (clA (fa_2_6 ho0).1) rfl))) (rd_ne (cne (clO io9_112_7_3) (clA (fa_2_5 ho0).1) rfl))) (rd_ne (cne (clO io9_112_7_3) (clA (fa_2_4 ho0).1) rfl))) (rd_ne (cne (clO io9_112_7_3) (clA (fa_2_3 ho0).1) rfl)))
  · skip
    have b16 := Bd.o hB0 ho0 bd9_2_2
    have d17 : ((60) : Int) ≤ ((I v0 2).toInt) := ci_nlt rfl rfl c1
    refine ⟨Or.inl rfl, ?_⟩
    exact hQ _ _ _ _ hB0 rfl
set_option maxHeartbeats 2000000 in
theorem sp_X2_pair {d : Nat} {Q : Qt} {v0 : Nat} {v1 : Int32} {v2 : Int32} {I : Im} {J : Jm} {R : Rm} (hB0 : Bd I) (hR0 : RI R) (ho0 : isO 112 v0 2 = true) (hQ : ∀ (x : Int32) (y : Int64) (I2 : Im) (J2 : Jm), Bd I2 → (I2 7 1 = I 7 1) → Q x y I2 J2 R) : AM (d + 1) 31 112 [.ref v0, .int v1, .int v2] I J R Q := by
  have i_v1 := i32 v1
  have i_v2 := i32 v2
  refine w_X2_pair ?_
  refine ⟨fun c1 => ?_, fun c1 => ?_⟩
  · skip
    have d2 : ((v1.toInt) : Int) < (0) := ci_lt rfl rfl c1
    exact hQ _ _ _ _ hB0 rfl
  · skip
    have d3 : ((0) : Int) ≤ (v1.toInt) := ci_nlt rfl rfl c1
    refine bif_t ho0 ?_
    refine ⟨fun c4 => ?_, fun c4 => ?_⟩
    · skip
      have b5 := Bd.o hB0 ho0 bd9_2_2
      have d6 : (((I v0 2).toInt) : Int) ≤ (v1.toInt) := ci_le rfl rfl c4
      exact hQ _ _ _ _ hB0 rfl
    · skip
      have b7 := Bd.o hB0 ho0 bd9_2_2
      have d8 : ((v1.toInt) : Int) < ((I v0 2).toInt) := ci_nle rfl rfl c4
      refine ⟨fun c9 => ?_, fun c9 => ?_⟩
      · skip
        have d10 : ((v2.toInt) : Int) < (0) := ci_lt rfl rfl c9
        exact hQ _ _ _ _ hB0 rfl
      · skip
        have d11 : ((0) : Int) ≤ (v2.toInt) := ci_nlt rfl rfl c9
        refine bif_t ho0 ?_
        refine ⟨fun c12 => ?_, fun c12 => ?_⟩
        · skip
          have d13 : (((I v0 2).toInt) : Int) ≤ (v2.toInt) := ci_le rfl rfl c12
          exact hQ _ _ _ _ hB0 rfl
        · skip
          have d14 : ((v2.toInt) : Int) < ((I v0 2).toInt) := ci_nle rfl rfl c12
          refine bif_t ho0 ?_
          refine bif_t (fa_2_7 ho0).1 ?_
          refine ⟨by rw [(fa_2_7 ho0).2.1]; exact vp_of (a := v1.toInt) rfl (by omega) (by omega), ?_⟩
          have hB15 : Bd (uI I (v0 + 5) (Int32.toNatClampNeg v1) v2) := Bd.a0 hB0 (fa_2_7 ho0).1 (fa_2_7 ho0).2.2
          refine bif_t ho0 ?_
          refine bif_t (fa_2_7 ho0).1 ?_
          refine ⟨by rw [(fa_2_7 ho0).2.1]; exact vp_of (a := v2.toInt) rfl (by omega) (by omega), ?_⟩
          have hB16 : Bd (uI (uI I (v0 + 5) (Int32.toNatClampNeg v1) v2) (v0 + 5) (Int32.toNatClampNeg v2) v1) := Bd.a0 hB15 (fa_2_7 ho0).1 (fa_2_7 ho0).2.2
          exact hQ _ _ _ _ hB16 (Eq.trans (rd_ne (cne (clO io9_112_7_3) (clA (fa_2_7 ho0).1) rfl)) (rd_ne (cne (clO io9_112_7_3) (clA (fa_2_7 ho0).1) rfl)))
set_option maxHeartbeats 2000000 in
theorem sp_X1_takeSlices {d : Nat} {Q : Qt} {I : Im} {J : Jm} {R : Rm} (hB0 : Bd I) (hR0 : RI R) (hQ : ∀ (x : Int32) (y : Int64) (I2 : Im) (J2 : Jm), Bd I2 → (True) → Q x y I2 J2 R) : AM (d + 4) 26 112 [.ref 3] I J R Q := by
  refine am_X1_takeSlices (fun P hc => ?_)
  have L : ∀ n : Nat, (∀ (v1 : Int32) (v2 : Int32) (M : Im) (JM : Jm), Bd M → (0 ≤ v2.toInt ∧ v2.toInt ≤ 31) → 40 - v2.toInt < (n : Int) → P 4 112 [(0, .ref 3), (1, .int v1), (2, .int v2)] [] M JM R) := by
    intro n
    induction n with
    | zero =>
      exact fun v1 v2 M J _ hi hm => absurd hm (by omega)
    | succ n ih =>
      intro v1 v2 M JM hB hi hm
      have i_v1 := i32 v1
      have i_v2 := i32 v2
      refine sg_X1_takeSlices_4 hc _ _ _ _ _ ?_
      refine ⟨fun c1 => ?_, fun c1 => ?_⟩
      · skip
        have d2 : ((30) : Int) < (v2.toInt) := ci_lt rfl rfl c1
        exact hQ _ _ _ _ hB trivial
      · skip
        have d3 : ((v2.toInt) : Int) ≤ (30) := ci_nlt rfl rfl c1
        refine ⟨fun c4 => ?_, fun c4 => ?_⟩
        · skip
          have d5 : ¬ (((M 3 12).toInt) : Int) = (0) := ci_ne rfl rfl c4
          exact hQ _ _ _ _ hB trivial
        · skip
          have d6 : (((M 3 12).toInt) : Int) = (0) := ci_eq rfl rfl c4
          refine ⟨fun c7 => ?_, fun c7 => ?_⟩
          · skip
            have d8 : ¬ (((M 3 8).toInt) : Int) = (2) := ci_ne rfl rfl c7
            exact hQ _ _ _ _ hB trivial
          · skip
            have d9 : (((M 3 8).toInt) : Int) = (2) := ci_eq rfl rfl c7
            refine sp_X6_takeNumber hB hR0 (fun x10 y15 I11 J12 hB13 p14 => ?_)
            have i16 := i32 x10
            refine w_X11_isSlice ?_
            refine ⟨fun c17 => ?_, fun c17 => ?_⟩
            · skip
              have d18 : ((x10.toInt) : Int) < (1) := ci_lt rfl rfl c17
              refine ⟨Or.inl rfl, ?_⟩
              intro o19
              refine ⟨fun c20 => ?_, fun c20 => ?_⟩
              · skip
                refine w_X11_isSlice ?_
                refine ⟨fun c21 => ?_, fun c21 => ?_⟩
                · skip
                  have d22 : ((x10.toInt) : Int) < (1) := ci_lt rfl rfl c21
                  refine ⟨Or.inl rfl, ?_⟩
                  intro o23
                  refine ⟨fun c24 => ?_, fun c24 => ?_⟩
                  · skip
                    have e25 : ((v2 + 1) : Int32).toInt = (v2.toInt) + (1) := ti_add rfl rfl (by omega)
                    exact ih _ _ _ _ hB13 (by have q0 : ((v2 + 1) : Int32).toInt = (v2.toInt + 1) := e25; omega) (by have q0 : ((v2 + 1) : Int32).toInt = (v2.toInt + 1) := e25; omega)
                  · exact absurd c24 (by decide)
                · skip
                  have d26 : ((1) : Int) ≤ (x10.toInt) := ci_nlt rfl rfl c21
                  refine ⟨fun c27 => ?_, fun c27 => ?_⟩
                  · skip
                    have d28 : ((30) : Int) < (x10.toInt) := ci_lt rfl rfl c27
                    refine ⟨Or.inl rfl, ?_⟩
                    intro o29
                    refine ⟨fun c30 => ?_, fun c30 => ?_⟩
                    · skip
                      have e31 : ((v2 + 1) : Int32).toInt = (v2.toInt) + (1) := ti_add rfl rfl (by omega)
                      exact ih _ _ _ _ hB13 (by have q0 : ((v2 + 1) : Int32).toInt = (v2.toInt + 1) := e31; omega) (by have q0 : ((v2 + 1) : Int32).toInt = (v2.toInt + 1) := e31; omega)
                    · exact absurd c30 (by decide)
                  · skip
                    have d32 : ((x10.toInt) : Int) ≤ (30) := ci_nlt rfl rfl c27
                    refine ⟨Or.inr rfl, ?_⟩
                    intro o33
                    refine ⟨fun c34 => ?_, fun c34 => ?_⟩
                    · exact absurd c34 (by decide)
                    · skip
                      refine w_X11_bit ?_
                      have e35 : ((v2 + 1) : Int32).toInt = (v2.toInt) + (1) := ti_add rfl rfl (by omega)
                      exact ih _ _ _ _ hB13 (by have q0 : ((v2 + 1) : Int32).toInt = (v2.toInt + 1) := e35; omega) (by have q0 : ((v2 + 1) : Int32).toInt = (v2.toInt + 1) := e35; omega)
              · exact absurd c20 (by decide)
            · skip
              have d36 : ((1) : Int) ≤ (x10.toInt) := ci_nlt rfl rfl c17
              refine ⟨fun c37 => ?_, fun c37 => ?_⟩
              · skip
                have d38 : ((30) : Int) < (x10.toInt) := ci_lt rfl rfl c37
                refine ⟨Or.inl rfl, ?_⟩
                intro o39
                refine ⟨fun c40 => ?_, fun c40 => ?_⟩
                · skip
                  refine w_X11_isSlice ?_
                  refine ⟨fun c41 => ?_, fun c41 => ?_⟩
                  · skip
                    have d42 : ((x10.toInt) : Int) < (1) := ci_lt rfl rfl c41
                    refine ⟨Or.inl rfl, ?_⟩
                    intro o43
                    refine ⟨fun c44 => ?_, fun c44 => ?_⟩
                    · skip
                      have e45 : ((v2 + 1) : Int32).toInt = (v2.toInt) + (1) := ti_add rfl rfl (by omega)
                      exact ih _ _ _ _ hB13 (by have q0 : ((v2 + 1) : Int32).toInt = (v2.toInt + 1) := e45; omega) (by have q0 : ((v2 + 1) : Int32).toInt = (v2.toInt + 1) := e45; omega)
                    · exact absurd c44 (by decide)
                  · skip
                    have d46 : ((1) : Int) ≤ (x10.toInt) := ci_nlt rfl rfl c41
                    refine ⟨fun c47 => ?_, fun c47 => ?_⟩
                    · skip
                      have d48 : ((30) : Int) < (x10.toInt) := ci_lt rfl rfl c47
                      refine ⟨Or.inl rfl, ?_⟩
                      intro o49
                      refine ⟨fun c50 => ?_, fun c50 => ?_⟩
                      · skip
                        have e51 : ((v2 + 1) : Int32).toInt = (v2.toInt) + (1) := ti_add rfl rfl (by omega)
                        exact ih _ _ _ _ hB13 (by have q0 : ((v2 + 1) : Int32).toInt = (v2.toInt + 1) := e51; omega) (by have q0 : ((v2 + 1) : Int32).toInt = (v2.toInt + 1) := e51; omega)
                      · exact absurd c50 (by decide)
                    · skip
                      have d52 : ((x10.toInt) : Int) ≤ (30) := ci_nlt rfl rfl c47
                      refine ⟨Or.inr rfl, ?_⟩
                      intro o53
                      refine ⟨fun c54 => ?_, fun c54 => ?_⟩
                      · exact absurd c54 (by decide)
                      · skip
                        refine w_X11_bit ?_
                        have e55 : ((v2 + 1) : Int32).toInt = (v2.toInt) + (1) := ti_add rfl rfl (by omega)
                        exact ih _ _ _ _ hB13 (by have q0 : ((v2 + 1) : Int32).toInt = (v2.toInt + 1) := e55; omega) (by have q0 : ((v2 + 1) : Int32).toInt = (v2.toInt + 1) := e55; omega)
                · exact absurd c40 (by decide)
              · skip
                have d56 : ((x10.toInt) : Int) ≤ (30) := ci_nlt rfl rfl c37
                refine ⟨Or.inr rfl, ?_⟩
                intro o57
                refine ⟨fun c58 => ?_, fun c58 => ?_⟩
                · exact absurd c58 (by decide)
                · skip
                  refine w_X11_isIn ?_
                  refine ⟨fun c59 => ?_, fun c59 => ?_⟩
                  · skip
                    have d60 : ((((v1 &&& (1 <<< ((x10 - 1) &&& 31))) : Int32).toInt) : Int) = (0) := ci_eq rfl rfl c59
                    refine ⟨Or.inl rfl, ?_⟩
                    intro o61
                    refine ⟨fun c62 => ?_, fun c62 => ?_⟩
                    · skip
                      refine w_X11_isSlice ?_
                      refine ⟨fun c63 => ?_, fun c63 => ?_⟩
                      · skip
                        have d64 : ((x10.toInt) : Int) < (1) := ci_lt rfl rfl c63
                        refine ⟨Or.inl rfl, ?_⟩
                        intro o65
                        refine ⟨fun c66 => ?_, fun c66 => ?_⟩
                        · skip
                          have e67 : ((v2 + 1) : Int32).toInt = (v2.toInt) + (1) := ti_add rfl rfl (by omega)
                          exact ih _ _ _ _ hB13 (by have q0 : ((v2 + 1) : Int32).toInt = (v2.toInt + 1) := e67; omega) (by have q0 : ((v2 + 1) : Int32).toInt = (v2.toInt + 1) := e67; omega)
                        · exact absurd c66 (by decide)
                      · skip
                        have d68 : ((1) : Int) ≤ (x10.toInt) := ci_nlt rfl rfl c63
                        refine ⟨fun c69 => ?_, fun c69 => ?_⟩
                        · skip
                          have d70 : ((30) : Int) < (x10.toInt) := ci_lt rfl rfl c69
                          refine ⟨Or.inl rfl, ?_⟩
                          intro o71
                          refine ⟨fun c72 => ?_, fun c72 => ?_⟩
                          · skip
                            have e73 : ((v2 + 1) : Int32).toInt = (v2.toInt) + (1) := ti_add rfl rfl (by omega)
                            exact ih _ _ _ _ hB13 (by have q0 : ((v2 + 1) : Int32).toInt = (v2.toInt + 1) := e73; omega) (by have q0 : ((v2 + 1) : Int32).toInt = (v2.toInt + 1) := e73; omega)
                          · exact absurd c72 (by decide)
                        · skip
                          have d74 : ((x10.toInt) : Int) ≤ (30) := ci_nlt rfl rfl c69
                          refine ⟨Or.inr rfl, ?_⟩
                          intro o75
                          refine ⟨fun c76 => ?_, fun c76 => ?_⟩
                          · exact absurd c76 (by decide)
                          · skip
                            refine w_X11_bit ?_
                            have e77 : ((v2 + 1) : Int32).toInt = (v2.toInt) + (1) := ti_add rfl rfl (by omega)
                            exact ih _ _ _ _ hB13 (by have q0 : ((v2 + 1) : Int32).toInt = (v2.toInt + 1) := e77; omega) (by have q0 : ((v2 + 1) : Int32).toInt = (v2.toInt + 1) := e77; omega)
                    · exact absurd c62 (by decide)
                  · skip
                    have d78 : ¬ ((((v1 &&& (1 <<< ((x10 - 1) &&& 31))) : Int32).toInt) : Int) = (0) := ci_ne rfl rfl c59
                    refine ⟨Or.inr rfl, ?_⟩
                    intro o79
                    refine ⟨fun c80 => ?_, fun c80 => ?_⟩
                    · exact absurd c80 (by decide)
                    · skip
                      refine w_X6_wrongTaken ?_
                      refine w_X6_wrong ?_
                      have hB81 : Bd (uI I11 3 12 5) := Bd.o0 hB13 io9_112_3_6 (by decide) bd9_6_12
                      have hB82 : Bd (uI (uI I11 3 12 5) 3 13 (I11 3 7)) := Bd.o0 hB81 io9_112_3_6 (by decide) bd9_6_13
                      refine ⟨Or.inl rfl, ?_⟩
                      intro o83
                      refine ⟨Or.inl rfl, ?_⟩
                      intro o84
                      have e85 : ((v2 + 1) : Int32).toInt = (v2.toInt) + (1) := ti_add rfl rfl (by omega)
                      exact ih _ _ _ _ hB82 (by have q0 : ((v2 + 1) : Int32).toInt = (v2.toInt + 1) := e85; omega) (by have q0 : ((v2 + 1) : Int32).toInt = (v2.toInt + 1) := e85; omega)
  refine sg_X1_takeSlices_0 hc _ _ _ ?_
  exact (L 1000000) _ _ _ _ hB0 (by have q0 : (0 : Int32).toInt = 0 := rfl; omega) (by have q0 : (0 : Int32).toInt = 0 := rfl; omega)
set_option maxHeartbeats 2000000 in
theorem sp_X1_readOdds {d : Nat} {Q : Qt} {v1 : Nat} {I : Im} {J : Jm} {R : Rm} (hB0 : Bd I) (hR0 : RI R) (ho1 : isO 112 v1 0 = true) (hQ : ∀ (x : Int32) (y : Int64) (I2 : Im) (J2 : Jm), Bd I2 → (True) → Q x y I2 J2 R) : AM (d + 5) 22 112 [.ref 6, .ref v1, .ref 3] I J R Q := by
  refine w_X1_readOdds ?_
  refine sp_X6_takeAny hB0 hR0 (fun x1 y6 I2 J3 hB4 p5 => ?_)
  intro o7
  have i8 := i32 x1
  refine ⟨fun c9 => ?_, fun c9 => ?_⟩
  · skip
    have b10 := Bd.o hB4 io9_112_6_1 bd9_1_0
    have d11 : (((I2 6 0).toInt) : Int) = (0) := ci_eq rfl rfl c9
    refine ⟨Or.inr rfl, ?_⟩
    have hB12 : Bd (uI I2 6 0 1) := Bd.o1 hB4 io9_112_6_1 (by decide) bd9_1_0 rfl (bl_ti (Or.inr rfl))
    refine sp_X6_takeNumber hB12 hR0 (fun x13 y18 I14 J15 hB16 p17 => ?_)
    have i19 := i32 x13
    refine bif_t ho1 ?_
    have hB20 : Bd (uI I14 v1 1 x13) := Bd.o0 hB16 ho1 (by decide) bd9_0_1
    refine bif_t ho1 ?_
    refine ⟨fun c21 => ?_, fun c21 => ?_⟩
    · skip
      have e22 : (((uI I14 v1 1 x13) v1 1) : Int32).toInt = x13.toInt := Eq.trans (congrArg Int32.toInt rd_eq) rfl
      have d23 : ((x13.toInt) : Int) = ((-1)) := ci_eq e22 rfl c21
      refine ⟨Or.inl rfl, ?_⟩
      exact hQ _ _ _ _ hB20 trivial
    · skip
      have e24 : (((uI I14 v1 1 x13) v1 1) : Int32).toInt = x13.toInt := Eq.trans (congrArg Int32.toInt rd_eq) rfl
      have d25 : ¬ ((x13.toInt) : Int) = ((-1)) := ci_ne e24 rfl c21
      refine sp_X6_takeSemicolon hB20 hR0 (fun x26 y31 I27 J28 hB29 p30 => ?_)
      intro o32
      have i33 := i32 x26
      refine ⟨fun c34 => ?_, fun c34 => ?_⟩
      · skip
        have d35 : ((x26.toInt) : Int) = (0) := ci_eq rfl rfl c34
        refine ⟨Or.inl rfl, ?_⟩
        exact hQ _ _ _ _ hB29 trivial
      · skip
        have d36 : ¬ ((x26.toInt) : Int) = (0) := ci_ne rfl rfl c34
        refine ⟨Or.inr rfl, ?_⟩
        exact hQ _ _ _ _ hB29 trivial
  · skip
    have b37 := Bd.o hB4 io9_112_6_1 bd9_1_0
    have d38 : ¬ (((I2 6 0).toInt) : Int) = (0) := ci_ne rfl rfl c9
    refine w_X6_wrongTaken ?_
    refine w_X6_wrong ?_
    have hB39 : Bd (uI I2 3 12 5) := Bd.o0 hB4 io9_112_3_6 (by decide) bd9_6_12
    have hB40 : Bd (uI (uI I2 3 12 5) 3 13 (I2 3 7)) := Bd.o0 hB39 io9_112_3_6 (by decide) bd9_6_13
    refine ⟨Or.inl rfl, ?_⟩
    intro o41
    refine ⟨Or.inl rfl, ?_⟩
    intro o42
    refine ⟨Or.inl rfl, ?_⟩
    exact hQ _ _ _ _ hB40 trivial
set_option maxHeartbeats 2000000 in
theorem sp_X1_readStore {d : Nat} {Q : Qt} {v1 : Nat} {I : Im} {J : Jm} {R : Rm} (hB0 : Bd I) (hR0 : RI R) (ho1 : isO 112 v1 0 = true) (hQ : ∀ (x : Int32) (y : Int64) (I2 : Im) (J2 : Jm), Bd I2 → (True) → Q x y I2 J2 R) : AM (d + 5) 23 112 [.ref 6, .ref v1, .ref 3] I J R Q := by
  refine am_X1_readStore (fun P hc => ?_)
  have L : ∀ n : Nat, (∀ (v3 : Int32) (v4 : Int32) (M : Im) (JM : Jm), Bd M → (1 ≤ v3.toInt ∧ v3.toInt ≤ 30) → 1 < (n : Int) → P 77 112 [(1, .ref v1), (2, .ref 3), (3, .int v3), (4, .int v4)] [] M JM R) := by
    intro n
    induction n with
    | zero =>
      exact fun v3 v4 M J _ hi hm => absurd hm (by omega)
    | succ n ih =>
      intro v3 v4 M JM hB hi hm
      have i_v3 := i32 v3
      have i_v4 := i32 v4
      refine sg_X1_readStore_77 hc _ _ _ _ _ _ ?_
      refine bif_t ho1 ?_
      refine bif_t (fa_0_0 ho1).1 ?_
      refine ⟨by rw [(fa_0_0 ho1).2.1]; exact vp_of (a := v3.toInt) rfl (by omega) (by omega), ?_⟩
      have hB1 : Bd (uI M (v1 + 1) (Int32.toNatClampNeg v3) v4) := Bd.a0 hB (fa_0_0 ho1).1 (fa_0_0 ho1).2.2
      refine ⟨fun c2 => ?_, fun c2 => ?_⟩
      · skip
        have d3 : ((v4.toInt) : Int) = ((-1)) := ci_eq rfl rfl c2
        refine ⟨Or.inl rfl, ?_⟩
        exact hQ _ _ _ _ hB1 trivial
      · skip
        have d4 : ¬ ((v4.toInt) : Int) = ((-1)) := ci_ne rfl rfl c2
        refine sp_X6_takeSemicolon hB1 hR0 (fun x5 y10 I6 J7 hB8 p9 => ?_)
        intro o11
        have i12 := i32 x5
        refine ⟨fun c13 => ?_, fun c13 => ?_⟩
        · skip
          have d14 : ((x5.toInt) : Int) = (0) := ci_eq rfl rfl c13
          refine ⟨Or.inl rfl, ?_⟩
          exact hQ _ _ _ _ hB8 trivial
        · skip
          have d15 : ¬ ((x5.toInt) : Int) = (0) := ci_ne rfl rfl c13
          refine ⟨Or.inr rfl, ?_⟩
          exact hQ _ _ _ _ hB8 trivial
  refine sg_X1_readStore_0 hc _ _ _ _ ?_
  refine sp_X6_takeAny hB0 hR0 (fun x16 y21 I17 J18 hB19 p20 => ?_)
  intro o22
  have i23 := i32 x16
  refine sp_X6_takeNumber hB19 hR0 (fun x24 y29 I25 J26 hB27 p28 => ?_)
  have i30 := i32 x24
  refine w_X11_isSlice ?_
  refine ⟨fun c31 => ?_, fun c31 => ?_⟩
  · skip
    have d32 : ((x24.toInt) : Int) < (1) := ci_lt rfl rfl c31
    refine ⟨Or.inl rfl, ?_⟩
    intro o33
    refine ⟨fun c34 => ?_, fun c34 => ?_⟩
    · exact absurd c34 (by decide)
    · skip
      refine ⟨Or.inl rfl, ?_⟩
      exact hQ _ _ _ _ hB27 trivial
  · skip
    have d35 : ((1) : Int) ≤ (x24.toInt) := ci_nlt rfl rfl c31
    refine ⟨fun c36 => ?_, fun c36 => ?_⟩
    · skip
      have d37 : ((30) : Int) < (x24.toInt) := ci_lt rfl rfl c36
      refine ⟨Or.inl rfl, ?_⟩
      intro o38
      refine ⟨fun c39 => ?_, fun c39 => ?_⟩
      · exact absurd c39 (by decide)
      · skip
        refine ⟨Or.inl rfl, ?_⟩
        exact hQ _ _ _ _ hB27 trivial
    · skip
      have d40 : ((x24.toInt) : Int) ≤ (30) := ci_nlt rfl rfl c36
      refine ⟨Or.inr rfl, ?_⟩
      intro o41
      refine ⟨fun c42 => ?_, fun c42 => ?_⟩
      · skip
        refine w_X11_isIn ?_
        refine ⟨fun c43 => ?_, fun c43 => ?_⟩
        · skip
          have d44 : (((((I25 6 2) &&& (1 <<< ((x24 - 1) &&& 31))) : Int32).toInt) : Int) = (0) := ci_eq rfl rfl c43
          refine ⟨Or.inl rfl, ?_⟩
          intro o45
          refine ⟨fun c46 => ?_, fun c46 => ?_⟩
          · skip
            refine w_X11_bit ?_
            have hB47 : Bd (uI I25 6 2 ((I25 6 2) ||| (1 <<< ((x24 - 1) &&& 31)))) := Bd.o0 hB27 io9_112_6_1 (by decide) bd9_1_2
            refine ⟨fun c48 => ?_, fun c48 => ?_⟩
            · skip
              have e49 : (((uI I25 6 2 ((I25 6 2) ||| (1 <<< ((x24 - 1) &&& 31)))) 3 9) : Int32).toInt = (I25 3 9).toInt := Eq.trans (congrArg Int32.toInt (rd_ne (by first | decide | omega))) rfl
              have d50 : ¬ (((I25 3 9).toInt) : Int) = (3) := ci_ne e49 rfl c48
              exact (L 1000000) _ _ _ _ hB47 (by have q0 : (x24 : Int32).toInt = x24.toInt := rfl; omega) (by omega)
            · skip
              have e51 : (((uI I25 6 2 ((I25 6 2) ||| (1 <<< ((x24 - 1) &&& 31)))) 3 9) : Int32).toInt = (I25 3 9).toInt := Eq.trans (congrArg Int32.toInt (rd_ne (by first | decide | omega))) rfl
              have d52 : (((I25 3 9).toInt) : Int) = (3) := ci_eq e51 rfl c48
              refine sp_X6_takeAny hB47 hR0 (fun x53 y58 I54 J55 hB56 p57 => ?_)
              intro o59
              have i60 := i32 x53
              refine sp_X6_takeNumber hB56 hR0 (fun x61 y66 I62 J63 hB64 p65 => ?_)
              have i67 := i32 x61
              exact (L 1000000) _ _ _ _ hB64 (by have q0 : (x24 : Int32).toInt = x24.toInt := rfl; omega) (by omega)
          · exact absurd c46 (by decide)
        · skip
          have d68 : ¬ (((((I25 6 2) &&& (1 <<< ((x24 - 1) &&& 31))) : Int32).toInt) : Int) = (0) := ci_ne rfl rfl c43
          refine ⟨Or.inr rfl, ?_⟩
          intro o69
          refine ⟨fun c70 => ?_, fun c70 => ?_⟩
          · exact absurd c70 (by decide)
          · skip
            refine w_X6_wrongTaken ?_
            refine w_X6_wrong ?_
            have hB71 : Bd (uI I25 3 12 5) := Bd.o0 hB27 io9_112_3_6 (by decide) bd9_6_12
            have hB72 : Bd (uI (uI I25 3 12 5) 3 13 (I25 3 7)) := Bd.o0 hB71 io9_112_3_6 (by decide) bd9_6_13
            refine ⟨Or.inl rfl, ?_⟩
            intro o73
            refine ⟨Or.inl rfl, ?_⟩
            intro o74
            refine ⟨Or.inl rfl, ?_⟩
            exact hQ _ _ _ _ hB72 trivial
      · exact absurd c42 (by decide)
set_option maxHeartbeats 2000000 in
theorem sp_X1_readMan {d : Nat} {Q : Qt} {v0 : Nat} {I : Im} {J : Jm} {R : Rm} (hB0 : Bd I) (hR0 : RI R) (ho0 : isO 112 v0 0 = true) (hQ : ∀ (x : Int32) (y : Int64) (I2 : Im) (J2 : Jm), Bd I2 → (True) → Q x y I2 J2 R) : AM (d + 5) 24 112 [.ref v0, .ref 3] I J R Q := by
  refine w_X1_readMan ?_
  refine sp_X6_takeAny hB0 hR0 (fun x1 y6 I2 J3 hB4 p5 => ?_)
  intro o7
  have i8 := i32 x1
  refine bif_t ho0 ?_
  refine ⟨fun c9 => ?_, fun c9 => ?_⟩
  · skip
    have b10 := Bd.o hB4 ho0 bd9_0_4
    have d11 : (((I2 v0 4).toInt) : Int) < (6) := ci_lt rfl rfl c9
    refine sp_X6_takeName hB4 hR0 (fun x12 y17 I13 J14 hB15 p16 => ?_)
    refine ⟨fun c18 => ?_, fun c18 => ?_⟩
    · skip
      rw [lg_cmp_eq] at c18
      have d19 : ¬ (((y17 : Int64).toInt) : Int) = (0) := cl_ne rfl rfl c18
      refine bif_t ho0 ?_
      refine sp_X0_manNamed hB15 hR0 ho0 (fun x20 y25 I21 J22 hB23 p24 => ?_)
      have i26 := i32 x20
      refine ⟨fun c27 => ?_, fun c27 => ?_⟩
      · skip
        have d28 : ((x20.toInt) : Int) = ((-1)) := ci_eq rfl rfl c27
        refine sp_X6_takeWord hB23 hR0 (fun x29 y34 I30 J31 hB32 p33 => ?_)
        intro o35
        have i36 := i32 x29
        refine ⟨fun c37 => ?_, fun c37 => ?_⟩
        · skip
          have d38 : ((x29.toInt) : Int) = (0) := ci_eq rfl rfl c37
          refine ⟨fun c39 => ?_, fun c39 => ?_⟩
          · skip
            refine ⟨Or.inl rfl, ?_⟩
            exact hQ _ _ _ _ hB32 trivial
          · exact absurd c39 (by decide)
        · skip
          have d40 : ¬ ((x29.toInt) : Int) = (0) := ci_ne rfl rfl c37
          refine sp_X6_takeNumber hB32 hR0 (fun x41 y46 I42 J43 hB44 p45 => ?_)
          have i47 := i32 x41
          refine ⟨fun c48 => ?_, fun c48 => ?_⟩
          · skip
            have d49 : ((x41.toInt) : Int) = ((-1)) := ci_eq rfl rfl c48
            refine ⟨Or.inl rfl, ?_⟩
            exact hQ _ _ _ _ hB44 trivial
          · skip
            have d50 : ¬ ((x41.toInt) : Int) = ((-1)) := ci_ne rfl rfl c48
            refine sp_X6_takeWord hB44 hR0 (fun x51 y56 I52 J53 hB54 p55 => ?_)
            intro o57
            have i58 := i32 x51
            refine ⟨fun c59 => ?_, fun c59 => ?_⟩
            · skip
              have d60 : ¬ ((x51.toInt) : Int) = (0) := ci_ne rfl rfl c59
              refine sp_X6_takeNumber hB54 hR0 (fun x61 y66 I62 J63 hB64 p65 => ?_)
              have i67 := i32 x61
              refine ⟨fun c68 => ?_, fun c68 => ?_⟩
              · skip
                have d69 : ¬ ((x61.toInt) : Int) = ((-1)) := ci_ne rfl rfl c68
                refine bif_t ho0 ?_
                refine sp_X0_addMan hB64 hR0 ho0 (fun x70 y75 I71 J72 hB73 p74 => ?_)
                have i76 := i32 x70
                refine ⟨fun c77 => ?_, fun c77 => ?_⟩
                · skip
                  have d78 : ¬ (((I71 3 9).toInt) : Int) = (7) := ci_ne rfl rfl c77
                  refine ⟨fun c79 => ?_, fun c79 => ?_⟩
                  · skip
                    have d80 : ¬ (((I71 3 12).toInt) : Int) = (0) := ci_ne rfl rfl c79
                    refine ⟨Or.inl rfl, ?_⟩
                    exact hQ _ _ _ _ hB73 trivial
                  · skip
                    have d81 : (((I71 3 12).toInt) : Int) = (0) := ci_eq rfl rfl c79
                    refine sp_X6_takeSemicolon hB73 hR0 (fun x82 y87 I83 J84 hB85 p86 => ?_)
                    intro o88
                    have i89 := i32 x82
                    refine ⟨fun c90 => ?_, fun c90 => ?_⟩
                    · skip
                      have d91 : ((x82.toInt) : Int) = (0) := ci_eq rfl rfl c90
                      refine ⟨Or.inl rfl, ?_⟩
                      exact hQ _ _ _ _ hB85 trivial
                    · skip
                      have d92 : ¬ ((x82.toInt) : Int) = (0) := ci_ne rfl rfl c90
                      refine ⟨Or.inr rfl, ?_⟩
                      exact hQ _ _ _ _ hB85 trivial
                · skip
                  have d93 : (((I71 3 9).toInt) : Int) = (7) := ci_eq rfl rfl c77
                  refine bif_t ho0 ?_
                  refine w_X0_isMan ?_
                  refine ⟨fun c94 => ?_, fun c94 => ?_⟩
                  · skip
                    have d95 : ((x70.toInt) : Int) < (0) := ci_lt rfl rfl c94
                    refine ⟨Or.inl rfl, ?_⟩
                    intro o96
                    refine ⟨fun c97 => ?_, fun c97 => ?_⟩
                    · skip
                      refine ⟨fun c98 => ?_, fun c98 => ?_⟩
                      · skip
                        have d99 : ¬ (((I71 3 12).toInt) : Int) = (0) := ci_ne rfl rfl c98
                        refine ⟨Or.inl rfl, ?_⟩
                        exact hQ _ _ _ _ hB73 trivial
                      · skip
                        have d100 : (((I71 3 12).toInt) : Int) = (0) := ci_eq rfl rfl c98
                        refine sp_X6_takeSemicolon hB73 hR0 (fun x101 y106 I102 J103 hB104 p105 => ?_)
                        intro o107
                        have i108 := i32 x101
                        refine ⟨fun c109 => ?_, fun c109 => ?_⟩
                        · skip
                          have d110 : ((x101.toInt) : Int) = (0) := ci_eq rfl rfl c109
                          refine ⟨Or.inl rfl, ?_⟩
                          exact hQ _ _ _ _ hB104 trivial
                        · skip
                          have d111 : ¬ ((x101.toInt) : Int) = (0) := ci_ne rfl rfl c109
                          refine ⟨Or.inr rfl, ?_⟩
                          exact hQ _ _ _ _ hB104 trivial
                    · exact absurd c97 (by decide)
                  · skip
                    have d112 : ((0) : Int) ≤ (x70.toInt) := ci_nlt rfl rfl c94
                    refine bif_t ho0 ?_
                    refine ⟨fun c113 => ?_, fun c113 => ?_⟩
                    · skip
                      have b114 := Bd.o hB73 ho0 bd9_0_4
                      have d115 : (((I71 v0 4).toInt) : Int) ≤ (x70.toInt) := ci_le rfl rfl c113
                      refine ⟨Or.inl rfl, ?_⟩
                      intro o116
                      refine ⟨fun c117 => ?_, fun c117 => ?_⟩
                      · skip
                        refine ⟨fun c118 => ?_, fun c118 => ?_⟩
                        · skip
                          have d119 : ¬ (((I71 3 12).toInt) : Int) = (0) := ci_ne rfl rfl c118
                          refine ⟨Or.inl rfl, ?_⟩
                          exact hQ _ _ _ _ hB73 trivial
                        · skip
                          have d120 : (((I71 3 12).toInt) : Int) = (0) := ci_eq rfl rfl c118
                          refine sp_X6_takeSemicolon hB73 hR0 (fun x121 y126 I122 J123 hB124 p125 => ?_)
                          intro o127
                          have i128 := i32 x121
                          refine ⟨fun c129 => ?_, fun c129 => ?_⟩
                          · skip
                            have d130 : ((x121.toInt) : Int) = (0) := ci_eq rfl rfl c129
                            refine ⟨Or.inl rfl, ?_⟩
                            exact hQ _ _ _ _ hB124 trivial
                          · skip
                            have d131 : ¬ ((x121.toInt) : Int) = (0) := ci_ne rfl rfl c129
                            refine ⟨Or.inr rfl, ?_⟩
                            exact hQ _ _ _ _ hB124 trivial
                      · exact absurd c117 (by decide)
                    · skip
                      have b132 := Bd.o hB73 ho0 bd9_0_4
                      have d133 : ((x70.toInt) : Int) < ((I71 v0 4).toInt) := ci_nle rfl rfl c113
                      refine ⟨Or.inr rfl, ?_⟩
                      intro o134
                      refine ⟨fun c135 => ?_, fun c135 => ?_⟩
                      · exact absurd c135 (by decide)
                      · skip
                        refine sp_X6_takeAny hB73 hR0 (fun x136 y141 I137 J138 hB139 p140 => ?_)
                        intro o142
                        have i143 := i32 x136
                        refine bif_t ho0 ?_
                        refine sp_X1_takeSlices hB139 hR0 (fun x144 y149 I145 J146 hB147 p148 => ?_)
                        have i150 := i32 x144
                        refine bif_t (fa_0_8 ho0).1 ?_
                        refine ⟨by rw [(fa_0_8 ho0).2.1]; exact vp_of (a := x70.toInt) rfl (by omega) (by omega), ?_⟩
                        have hB151 : Bd (uI I145 (v0 + 5) (Int32.toNatClampNeg x70) x144) := Bd.a0 hB147 (fa_0_8 ho0).1 (fa_0_8 ho0).2.2
                        refine ⟨fun c152 => ?_, fun c152 => ?_⟩
                        · skip
                          have e153 : (((uI I145 (v0 + 5) (Int32.toNatClampNeg x70) x144) 3 12) : Int32).toInt = (I145 3 12).toInt := Eq.trans (congrArg Int32.toInt (rd_ne (cne (clO io9_112_3_6) (clA (fa_0_8 ho0).1) rfl))) rfl
                          have d154 : ¬ (((I145 3 12).toInt) : Int) = (0) := ci_ne e153 rfl c152
                          refine ⟨Or.inl rfl, ?_⟩
                          exact hQ _ _ _ _ hB151 trivial
                        · skip
                          have e155 : (((uI I145 (v0 + 5) (Int32.toNatClampNeg x70) x144) 3 12) : Int32).toInt = (I145 3 12).toInt := Eq.trans (congrArg Int32.toInt (rd_ne (cne (clO io9_112_3_6) (clA (fa_0_8 ho0).1) rfl))) rfl
                          have d156 : (((I145 3 12).toInt) : Int) = (0) := ci_eq e155 rfl c152
                          refine sp_X6_takeSemicolon hB151 hR0 (fun x157 y162 I158 J159 hB160 p161 => ?_)
                          intro o163
                          have i164 := i32 x157
                          refine ⟨fun c165 => ?_, fun c165 => ?_⟩
                          · skip
                            have d166 : ((x157.toInt) : Int) = (0) := ci_eq rfl rfl c165
                            refine ⟨Or.inl rfl, ?_⟩
                            exact hQ _ _ _ _ hB160 trivial
                          · skip
                            have d167 : ¬ ((x157.toInt) : Int) = (0) := ci_ne rfl rfl c165
                            refine ⟨Or.inr rfl, ?_⟩
                            exact hQ _ _ _ _ hB160 trivial
              · skip
                have d168 : ((x61.toInt) : Int) = ((-1)) := ci_eq rfl rfl c68
                refine ⟨Or.inl rfl, ?_⟩
                exact hQ _ _ _ _ hB64 trivial
            · skip
              have d169 : ((x51.toInt) : Int) = (0) := ci_eq rfl rfl c59
              refine ⟨Or.inl rfl, ?_⟩
              exact hQ _ _ _ _ hB54 trivial
      · skip
        have d170 : ¬ ((x20.toInt) : Int) = ((-1)) := ci_ne rfl rfl c27
        refine w_X6_wrongTaken ?_
        refine w_X6_wrong ?_
        have hB171 : Bd (uI I21 3 12 3) := Bd.o0 hB23 io9_112_3_6 (by decide) bd9_6_12
        have hB172 : Bd (uI (uI I21 3 12 3) 3 13 (I21 3 7)) := Bd.o0 hB171 io9_112_3_6 (by decide) bd9_6_13
        refine ⟨Or.inl rfl, ?_⟩
        intro o173
        refine ⟨Or.inl rfl, ?_⟩
        intro o174
        refine ⟨Or.inl rfl, ?_⟩
        exact hQ _ _ _ _ hB172 trivial
    · skip
      rw [lg_cmp_eq] at c18
      have d175 : (((y17 : Int64).toInt) : Int) = (0) := cl_eq rfl rfl c18
      refine ⟨Or.inl rfl, ?_⟩
      exact hQ _ _ _ _ hB15 trivial
  · skip
    have b176 := Bd.o hB4 ho0 bd9_0_4
    have d177 : ((6) : Int) ≤ ((I2 v0 4).toInt) := ci_nlt rfl rfl c9
    refine w_X6_wrongTaken ?_
    refine w_X6_wrong ?_
    have hB178 : Bd (uI I2 3 12 6) := Bd.o0 hB4 io9_112_3_6 (by decide) bd9_6_12
    have hB179 : Bd (uI (uI I2 3 12 6) 3 13 (I2 3 7)) := Bd.o0 hB178 io9_112_3_6 (by decide) bd9_6_13
    refine ⟨Or.inl rfl, ?_⟩
    intro o180
    refine ⟨Or.inl rfl, ?_⟩
    intro o181
    refine ⟨Or.inl rfl, ?_⟩
    exact hQ _ _ _ _ hB179 trivial
set_option maxHeartbeats 2000000 in
theorem sp_X1_readKnown {d : Nat} {Q : Qt} {v1 : Nat} {I : Im} {J : Jm} {R : Rm} (hB0 : Bd I) (hR0 : RI R) (ho1 : isO 112 v1 0 = true) (hQ : ∀ (x : Int32) (y : Int64) (I2 : Im) (J2 : Jm), Bd I2 → (True) → Q x y I2 J2 R) : AM (d + 5) 25 112 [.ref 6, .ref v1, .ref 3] I J R Q := by
  refine w_X1_readKnown ?_
  refine sp_X6_takeAny hB0 hR0 (fun x1 y6 I2 J3 hB4 p5 => ?_)
  intro o7
  have i8 := i32 x1
  refine ⟨fun c9 => ?_, fun c9 => ?_⟩
  · skip
    have b10 := Bd.o hB4 io9_112_6_1 bd9_1_1
    have d11 : (((I2 6 1).toInt) : Int) = (0) := ci_eq rfl rfl c9
    refine ⟨Or.inr rfl, ?_⟩
    have hB12 : Bd (uI I2 6 1 1) := Bd.o1 hB4 io9_112_6_1 (by decide) bd9_1_1 rfl (bl_ti (Or.inr rfl))
    refine sp_X1_takeSlices hB12 hR0 (fun x13 y18 I14 J15 hB16 p17 => ?_)
    have i19 := i32 x13
    refine bif_t ho1 ?_
    have hB20 : Bd (uI I14 v1 2 x13) := Bd.o0 hB16 ho1 (by decide) bd9_0_2
    refine ⟨fun c21 => ?_, fun c21 => ?_⟩
    · skip
      have e22 : (((uI I14 v1 2 x13) 3 12) : Int32).toInt = (I14 3 12).toInt := Eq.trans (congrArg Int32.toInt (rd_ne (cne (clO io9_112_3_6) (clO ho1) rfl))) rfl
      have d23 : ¬ (((I14 3 12).toInt) : Int) = (0) := ci_ne e22 rfl c21
      refine ⟨Or.inl rfl, ?_⟩
      exact hQ _ _ _ _ hB20 trivial
    · skip
      have e24 : (((uI I14 v1 2 x13) 3 12) : Int32).toInt = (I14 3 12).toInt := Eq.trans (congrArg Int32.toInt (rd_ne (cne (clO io9_112_3_6) (clO ho1) rfl))) rfl
      have d25 : (((I14 3 12).toInt) : Int) = (0) := ci_eq e24 rfl c21
      refine sp_X6_takeSemicolon hB20 hR0 (fun x26 y31 I27 J28 hB29 p30 => ?_)
      intro o32
      have i33 := i32 x26
      refine ⟨fun c34 => ?_, fun c34 => ?_⟩
      · skip
        have d35 : ((x26.toInt) : Int) = (0) := ci_eq rfl rfl c34
        refine ⟨Or.inl rfl, ?_⟩
        exact hQ _ _ _ _ hB29 trivial
      · skip
        have d36 : ¬ ((x26.toInt) : Int) = (0) := ci_ne rfl rfl c34
        refine ⟨Or.inr rfl, ?_⟩
        exact hQ _ _ _ _ hB29 trivial
  · skip
    have b37 := Bd.o hB4 io9_112_6_1 bd9_1_1
    have d38 : ¬ (((I2 6 1).toInt) : Int) = (0) := ci_ne rfl rfl c9
    refine w_X6_wrongTaken ?_
    refine w_X6_wrong ?_
    have hB39 : Bd (uI I2 3 12 5) := Bd.o0 hB4 io9_112_3_6 (by decide) bd9_6_12
    have hB40 : Bd (uI (uI I2 3 12 5) 3 13 (I2 3 7)) := Bd.o0 hB39 io9_112_3_6 (by decide) bd9_6_13
    refine ⟨Or.inl rfl, ?_⟩
    intro o41
    refine ⟨Or.inl rfl, ?_⟩
    intro o42
    refine ⟨Or.inl rfl, ?_⟩
    exact hQ _ _ _ _ hB40 trivial
set_option maxHeartbeats 2000000 in
theorem sp_X1_readInto {d : Nat} {Q : Qt} {v1 : Nat} {I : Im} {J : Jm} {R : Rm} (hB0 : Bd I) (hR0 : RI R) (ho1 : isO 112 v1 0 = true) (hQ : ∀ (x : Int32) (y : Int64) (I2 : Im) (J2 : Jm), Bd I2 → (True) → Q x y I2 J2 R) : AM (d + 6) 21 112 [.ref 6, .ref v1, .ref 3] I J R Q := by
  refine am_X1_readInto (fun P hc => ?_)
  have L : ∀ n : Nat, (∀ (v3 : Int32) (v4 : Int32) (M : Im) (JM : Jm), Bd M → (v3 = 0 ∨ v3 = 1) → (0 ≤ v4.toInt ∧ v4.toInt ≤ 900) → 1000 - v4.toInt < (n : Int) → P 24 112 [(0, .ref 6), (1, .ref v1), (2, .ref 3), (3, .int v3), (4, .int v4)] [] M JM R) := by
    intro n
    induction n with
    | zero =>
      exact fun v3 v4 M J _ _ hi hm => absurd hm (by omega)
    | succ n ih =>
      intro v3 v4 M JM hB hb_v3 hi hm
      have i_v3 := i32 v3
      have i_v4 := i32 v4
      refine sg_X1_readInto_24 hc _ _ _ _ _ _ ?_
      refine ⟨fun c1 => ?_, fun c1 => ?_⟩
      · skip
        have d2 : ((900) : Int) ≤ (v4.toInt) := ci_le rfl rfl c1
        refine ⟨hb_v3, ?_⟩
        exact hQ _ _ _ _ hB trivial
      · skip
        have d3 : ((v4.toInt) : Int) < (900) := ci_nle rfl rfl c1
        refine ⟨fun c4 => ?_, fun c4 => ?_⟩
        · skip
          have d5 : ((v3.toInt) : Int) = (0) := ci_eq rfl rfl c4
          refine ⟨hb_v3, ?_⟩
          exact hQ _ _ _ _ hB trivial
        · skip
          have d6 : ¬ ((v3.toInt) : Int) = (0) := ci_ne rfl rfl c4
          refine ⟨fun c7 => ?_, fun c7 => ?_⟩
          · skip
            have d8 : (((M 3 8).toInt) : Int) = (0) := ci_eq rfl rfl c7
            refine ⟨hb_v3, ?_⟩
            exact hQ _ _ _ _ hB trivial
          · skip
            have d9 : ¬ (((M 3 8).toInt) : Int) = (0) := ci_ne rfl rfl c7
            refine ⟨fun c10 => ?_, fun c10 => ?_⟩
            · skip
              have d11 : (((M 3 9).toInt) : Int) = (1) := ci_eq rfl rfl c10
              refine sp_X1_readOdds hB hR0 ho1 (fun x12 y17 I13 J14 hB15 p16 => ?_)
              intro o18
              have i19 := i32 x12
              have e20 : ((v4 + 1) : Int32).toInt = (v4.toInt) + (1) := ti_add rfl rfl (by omega)
              exact ih _ _ _ _ hB15 (o18) (by have q0 : ((v4 + 1) : Int32).toInt = (v4.toInt + 1) := e20; omega) (by have q0 : ((v4 + 1) : Int32).toInt = (v4.toInt + 1) := e20; omega)
            · skip
              have d21 : ¬ (((M 3 9).toInt) : Int) = (1) := ci_ne rfl rfl c10
              refine ⟨fun c22 => ?_, fun c22 => ?_⟩
              · skip
                have d23 : (((M 3 9).toInt) : Int) = (2) := ci_eq rfl rfl c22
                refine sp_X1_readStore hB hR0 ho1 (fun x24 y29 I25 J26 hB27 p28 => ?_)
                intro o30
                have i31 := i32 x24
                have e32 : ((v4 + 1) : Int32).toInt = (v4.toInt) + (1) := ti_add rfl rfl (by omega)
                exact ih _ _ _ _ hB27 (o30) (by have q0 : ((v4 + 1) : Int32).toInt = (v4.toInt + 1) := e32; omega) (by have q0 : ((v4 + 1) : Int32).toInt = (v4.toInt + 1) := e32; omega)
              · skip
                have d33 : ¬ (((M 3 9).toInt) : Int) = (2) := ci_ne rfl rfl c22
                refine ⟨fun c34 => ?_, fun c34 => ?_⟩
                · skip
                  have d35 : (((M 3 9).toInt) : Int) = (3) := ci_eq rfl rfl c34
                  refine w_X6_misplaced ?_
                  refine ⟨fun c36 => ?_, fun c36 => ?_⟩
                  · skip
                    have d37 : ¬ (((M 3 8).toInt) : Int) = (4) := ci_ne rfl rfl c36
                    refine w_X6_wrong ?_
                    have hB38 : Bd (uI M 3 12 2) := Bd.o0 hB io9_112_3_6 (by decide) bd9_6_12
                    have hB39 : Bd (uI (uI M 3 12 2) 3 13 (M 3 6)) := Bd.o0 hB38 io9_112_3_6 (by decide) bd9_6_13
                    refine ⟨Or.inl rfl, ?_⟩
                    intro o40
                    refine ⟨Or.inl rfl, ?_⟩
                    intro o41
                    have e42 : ((v4 + 1) : Int32).toInt = (v4.toInt) + (1) := ti_add rfl rfl (by omega)
                    exact ih _ _ _ _ hB39 (Or.inl rfl) (by have q0 : ((v4 + 1) : Int32).toInt = (v4.toInt + 1) := e42; omega) (by have q0 : ((v4 + 1) : Int32).toInt = (v4.toInt + 1) := e42; omega)
                  · skip
                    have d43 : (((M 3 8).toInt) : Int) = (4) := ci_eq rfl rfl c36
                    refine w_X6_wrong ?_
                    have hB44 : Bd (uI M 3 12 1) := Bd.o0 hB io9_112_3_6 (by decide) bd9_6_12
                    have hB45 : Bd (uI (uI M 3 12 1) 3 13 (M 3 6)) := Bd.o0 hB44 io9_112_3_6 (by decide) bd9_6_13
                    refine ⟨Or.inl rfl, ?_⟩
                    intro o46
                    refine ⟨Or.inl rfl, ?_⟩
                    intro o47
                    have e48 : ((v4 + 1) : Int32).toInt = (v4.toInt) + (1) := ti_add rfl rfl (by omega)
                    exact ih _ _ _ _ hB45 (Or.inl rfl) (by have q0 : ((v4 + 1) : Int32).toInt = (v4.toInt + 1) := e48; omega) (by have q0 : ((v4 + 1) : Int32).toInt = (v4.toInt + 1) := e48; omega)
                · skip
                  have d49 : ¬ (((M 3 9).toInt) : Int) = (3) := ci_ne rfl rfl c34
                  refine ⟨fun c50 => ?_, fun c50 => ?_⟩
                  · skip
                    have d51 : (((M 3 9).toInt) : Int) = (4) := ci_eq rfl rfl c50
                    refine sp_X1_readMan hB hR0 ho1 (fun x52 y57 I53 J54 hB55 p56 => ?_)
                    intro o58
                    have i59 := i32 x52
                    have e60 : ((v4 + 1) : Int32).toInt = (v4.toInt) + (1) := ti_add rfl rfl (by omega)
                    exact ih _ _ _ _ hB55 (o58) (by have q0 : ((v4 + 1) : Int32).toInt = (v4.toInt + 1) := e60; omega) (by have q0 : ((v4 + 1) : Int32).toInt = (v4.toInt + 1) := e60; omega)
                  · skip
                    have d61 : ¬ (((M 3 9).toInt) : Int) = (4) := ci_ne rfl rfl c50
                    refine ⟨fun c62 => ?_, fun c62 => ?_⟩
                    · skip
                      have d63 : (((M 3 9).toInt) : Int) = (5) := ci_eq rfl rfl c62
                      refine w_X6_misplaced ?_
                      refine ⟨fun c64 => ?_, fun c64 => ?_⟩
                      · skip
                        have d65 : ¬ (((M 3 8).toInt) : Int) = (4) := ci_ne rfl rfl c64
                        refine w_X6_wrong ?_
                        have hB66 : Bd (uI M 3 12 2) := Bd.o0 hB io9_112_3_6 (by decide) bd9_6_12
                        have hB67 : Bd (uI (uI M 3 12 2) 3 13 (M 3 6)) := Bd.o0 hB66 io9_112_3_6 (by decide) bd9_6_13
                        refine ⟨Or.inl rfl, ?_⟩
                        intro o68
                        refine ⟨Or.inl rfl, ?_⟩
                        intro o69
                        have e70 : ((v4 + 1) : Int32).toInt = (v4.toInt) + (1) := ti_add rfl rfl (by omega)
                        exact ih _ _ _ _ hB67 (Or.inl rfl) (by have q0 : ((v4 + 1) : Int32).toInt = (v4.toInt + 1) := e70; omega) (by have q0 : ((v4 + 1) : Int32).toInt = (v4.toInt + 1) := e70; omega)
                      · skip
                        have d71 : (((M 3 8).toInt) : Int) = (4) := ci_eq rfl rfl c64
                        refine w_X6_wrong ?_
                        have hB72 : Bd (uI M 3 12 1) := Bd.o0 hB io9_112_3_6 (by decide) bd9_6_12
                        have hB73 : Bd (uI (uI M 3 12 1) 3 13 (M 3 6)) := Bd.o0 hB72 io9_112_3_6 (by decide) bd9_6_13
                        refine ⟨Or.inl rfl, ?_⟩
                        intro o74
                        refine ⟨Or.inl rfl, ?_⟩
                        intro o75
                        have e76 : ((v4 + 1) : Int32).toInt = (v4.toInt) + (1) := ti_add rfl rfl (by omega)
                        exact ih _ _ _ _ hB73 (Or.inl rfl) (by have q0 : ((v4 + 1) : Int32).toInt = (v4.toInt + 1) := e76; omega) (by have q0 : ((v4 + 1) : Int32).toInt = (v4.toInt + 1) := e76; omega)
                    · skip
                      have d77 : ¬ (((M 3 9).toInt) : Int) = (5) := ci_ne rfl rfl c62
                      refine ⟨fun c78 => ?_, fun c78 => ?_⟩
                      · skip
                        have d79 : (((M 3 9).toInt) : Int) = (6) := ci_eq rfl rfl c78
                        refine w_X6_misplaced ?_
                        refine ⟨fun c80 => ?_, fun c80 => ?_⟩
                        · skip
                          have d81 : ¬ (((M 3 8).toInt) : Int) = (4) := ci_ne rfl rfl c80
                          refine w_X6_wrong ?_
                          have hB82 : Bd (uI M 3 12 2) := Bd.o0 hB io9_112_3_6 (by decide) bd9_6_12
                          have hB83 : Bd (uI (uI M 3 12 2) 3 13 (M 3 6)) := Bd.o0 hB82 io9_112_3_6 (by decide) bd9_6_13
                          refine ⟨Or.inl rfl, ?_⟩
                          intro o84
                          refine ⟨Or.inl rfl, ?_⟩
                          intro o85
                          have e86 : ((v4 + 1) : Int32).toInt = (v4.toInt) + (1) := ti_add rfl rfl (by omega)
                          exact ih _ _ _ _ hB83 (Or.inl rfl) (by have q0 : ((v4 + 1) : Int32).toInt = (v4.toInt + 1) := e86; omega) (by have q0 : ((v4 + 1) : Int32).toInt = (v4.toInt + 1) := e86; omega)
                        · skip
                          have d87 : (((M 3 8).toInt) : Int) = (4) := ci_eq rfl rfl c80
                          refine w_X6_wrong ?_
                          have hB88 : Bd (uI M 3 12 1) := Bd.o0 hB io9_112_3_6 (by decide) bd9_6_12
                          have hB89 : Bd (uI (uI M 3 12 1) 3 13 (M 3 6)) := Bd.o0 hB88 io9_112_3_6 (by decide) bd9_6_13
                          refine ⟨Or.inl rfl, ?_⟩
                          intro o90
                          refine ⟨Or.inl rfl, ?_⟩
                          intro o91
                          have e92 : ((v4 + 1) : Int32).toInt = (v4.toInt) + (1) := ti_add rfl rfl (by omega)
                          exact ih _ _ _ _ hB89 (Or.inl rfl) (by have q0 : ((v4 + 1) : Int32).toInt = (v4.toInt + 1) := e92; omega) (by have q0 : ((v4 + 1) : Int32).toInt = (v4.toInt + 1) := e92; omega)
                      · skip
                        have d93 : ¬ (((M 3 9).toInt) : Int) = (6) := ci_ne rfl rfl c78
                        refine ⟨fun c94 => ?_, fun c94 => ?_⟩
                        · skip
                          have d95 : (((M 3 9).toInt) : Int) = (7) := ci_eq rfl rfl c94
                          refine w_X6_misplaced ?_
                          refine ⟨fun c96 => ?_, fun c96 => ?_⟩
                          · skip
                            have d97 : ¬ (((M 3 8).toInt) : Int) = (4) := ci_ne rfl rfl c96
                            refine w_X6_wrong ?_
                            have hB98 : Bd (uI M 3 12 2) := Bd.o0 hB io9_112_3_6 (by decide) bd9_6_12
                            have hB99 : Bd (uI (uI M 3 12 2) 3 13 (M 3 6)) := Bd.o0 hB98 io9_112_3_6 (by decide) bd9_6_13
                            refine ⟨Or.inl rfl, ?_⟩
                            intro o100
                            refine ⟨Or.inl rfl, ?_⟩
                            intro o101
                            have e102 : ((v4 + 1) : Int32).toInt = (v4.toInt) + (1) := ti_add rfl rfl (by omega)
                            exact ih _ _ _ _ hB99 (Or.inl rfl) (by have q0 : ((v4 + 1) : Int32).toInt = (v4.toInt + 1) := e102; omega) (by have q0 : ((v4 + 1) : Int32).toInt = (v4.toInt + 1) := e102; omega)
                          · skip
                            have d103 : (((M 3 8).toInt) : Int) = (4) := ci_eq rfl rfl c96
                            refine w_X6_wrong ?_
                            have hB104 : Bd (uI M 3 12 1) := Bd.o0 hB io9_112_3_6 (by decide) bd9_6_12
                            have hB105 : Bd (uI (uI M 3 12 1) 3 13 (M 3 6)) := Bd.o0 hB104 io9_112_3_6 (by decide) bd9_6_13
                            refine ⟨Or.inl rfl, ?_⟩
                            intro o106
                            refine ⟨Or.inl rfl, ?_⟩
                            intro o107
                            have e108 : ((v4 + 1) : Int32).toInt = (v4.toInt) + (1) := ti_add rfl rfl (by omega)
                            exact ih _ _ _ _ hB105 (Or.inl rfl) (by have q0 : ((v4 + 1) : Int32).toInt = (v4.toInt + 1) := e108; omega) (by have q0 : ((v4 + 1) : Int32).toInt = (v4.toInt + 1) := e108; omega)
                        · skip
                          have d109 : ¬ (((M 3 9).toInt) : Int) = (7) := ci_ne rfl rfl c94
                          refine ⟨fun c110 => ?_, fun c110 => ?_⟩
                          · skip
                            have d111 : (((M 3 9).toInt) : Int) = (8) := ci_eq rfl rfl c110
                            refine sp_X1_readKnown hB hR0 ho1 (fun x112 y117 I113 J114 hB115 p116 => ?_)
                            intro o118
                            have i119 := i32 x112
                            have e120 : ((v4 + 1) : Int32).toInt = (v4.toInt) + (1) := ti_add rfl rfl (by omega)
                            exact ih _ _ _ _ hB115 (o118) (by have q0 : ((v4 + 1) : Int32).toInt = (v4.toInt + 1) := e120; omega) (by have q0 : ((v4 + 1) : Int32).toInt = (v4.toInt + 1) := e120; omega)
                          · skip
                            have d121 : ¬ (((M 3 9).toInt) : Int) = (8) := ci_ne rfl rfl c110
                            refine w_X6_misplaced ?_
                            refine ⟨fun c122 => ?_, fun c122 => ?_⟩
                            · skip
                              have d123 : ¬ (((M 3 8).toInt) : Int) = (4) := ci_ne rfl rfl c122
                              refine w_X6_wrong ?_
                              have hB124 : Bd (uI M 3 12 2) := Bd.o0 hB io9_112_3_6 (by decide) bd9_6_12
                              have hB125 : Bd (uI (uI M 3 12 2) 3 13 (M 3 6)) := Bd.o0 hB124 io9_112_3_6 (by decide) bd9_6_13
                              refine ⟨Or.inl rfl, ?_⟩
                              intro o126
                              refine ⟨Or.inl rfl, ?_⟩
                              intro o127
                              have e128 : ((v4 + 1) : Int32).toInt = (v4.toInt) + (1) := ti_add rfl rfl (by omega)
                              exact ih _ _ _ _ hB125 (Or.inl rfl) (by have q0 : ((v4 + 1) : Int32).toInt = (v4.toInt + 1) := e128; omega) (by have q0 : ((v4 + 1) : Int32).toInt = (v4.toInt + 1) := e128; omega)
                            · skip
                              have d129 : (((M 3 8).toInt) : Int) = (4) := ci_eq rfl rfl c122
                              refine w_X6_wrong ?_
                              have hB130 : Bd (uI M 3 12 1) := Bd.o0 hB io9_112_3_6 (by decide) bd9_6_12
                              have hB131 : Bd (uI (uI M 3 12 1) 3 13 (M 3 6)) := Bd.o0 hB130 io9_112_3_6 (by decide) bd9_6_13
                              refine ⟨Or.inl rfl, ?_⟩
                              intro o132
                              refine ⟨Or.inl rfl, ?_⟩
                              intro o133
                              have e134 : ((v4 + 1) : Int32).toInt = (v4.toInt) + (1) := ti_add rfl rfl (by omega)
                              exact ih _ _ _ _ hB131 (Or.inl rfl) (by have q0 : ((v4 + 1) : Int32).toInt = (v4.toInt + 1) := e134; omega) (by have q0 : ((v4 + 1) : Int32).toInt = (v4.toInt + 1) := e134; omega)
  refine sg_X1_readInto_0 hc _ _ _ _ ?_
  refine bif_t ho1 ?_
  refine sp_X0_forget hB0 hR0 ho1 (fun x135 y140 I136 J137 hB138 p139 => ?_)
  refine ⟨Or.inl rfl, ?_⟩
  have hB141 : Bd (uI I136 6 0 0) := Bd.o1 hB138 io9_112_6_1 (by decide) bd9_1_0 rfl (bl_ti (Or.inl rfl))
  refine ⟨Or.inl rfl, ?_⟩
  have hB142 : Bd (uI (uI I136 6 0 0) 6 1 0) := Bd.o1 hB141 io9_112_6_1 (by decide) bd9_1_1 rfl (bl_ti (Or.inl rfl))
  have hB143 : Bd (uI (uI (uI I136 6 0 0) 6 1 0) 6 2 0) := Bd.o0 hB142 io9_112_6_1 (by decide) bd9_1_2
  exact (L 1000000) _ _ _ _ hB143 (Or.inr rfl) (by have q0 : (0 : Int32).toInt = 0 := rfl; omega) (by have q0 : (0 : Int32).toInt = 0 := rfl; omega)
set_option maxHeartbeats 2000000 in
theorem sp_X3_takeMan {d : Nat} {Q : Qt} {v0 : Nat} {I : Im} {J : Jm} {R : Rm} (hB0 : Bd I) (hR0 : RI R) (ho0 : isO 112 v0 0 = true) (hQ : ∀ (x : Int32) (y : Int64) (I2 : Im) (J2 : Jm), Bd I2 → (I2 7 1 = I 7 1) → Q x y I2 J2 R) : AM (d + 4) 39 112 [.ref v0, .ref 3] I J R Q := by
  refine w_X3_takeMan ?_
  refine sp_X6_takeName hB0 hR0 (fun x1 y6 I2 J3 hB4 p5 => ?_)
  refine ⟨fun c7 => ?_, fun c7 => ?_⟩
  · skip
    rw [lg_cmp_eq] at c7
    have d8 : ¬ (((y6 : Int64).toInt) : Int) = (0) := cl_ne rfl rfl c7
    refine bif_t ho0 ?_
    refine sp_X0_manNamed hB4 hR0 ho0 (fun x9 y14 I10 J11 hB12 p13 => ?_)
    have i15 := i32 x9
    refine ⟨fun c16 => ?_, fun c16 => ?_⟩
    · skip
      have d17 : ¬ ((x9.toInt) : Int) = ((-1)) := ci_ne rfl rfl c16
      exact hQ _ _ _ _ hB12 (Eq.trans p13 p5)
    · skip
      have d18 : ((x9.toInt) : Int) = ((-1)) := ci_eq rfl rfl c16
      refine w_X6_wrongTaken ?_
      refine w_X6_wrong ?_
      have hB19 : Bd (uI I10 3 12 3) := Bd.o0 hB12 io9_112_3_6 (by decide) bd9_6_12
      have hB20 : Bd (uI (uI I10 3 12 3) 3 13 (I10 3 7)) := Bd.o0 hB19 io9_112_3_6 (by decide) bd9_6_13
      refine ⟨Or.inl rfl, ?_⟩
      intro o21
      refine ⟨Or.inl rfl, ?_⟩
      intro o22
      exact hQ _ _ _ _ hB20 (Eq.trans (Eq.trans (Eq.trans (rd_ne (by first | decide | omega)) (rd_ne (by first | decide | omega))) p13) p5)
  · skip
    rw [lg_cmp_eq] at c7
    have d23 : (((y6 : Int64).toInt) : Int) = (0) := cl_eq rfl rfl c7
    exact hQ _ _ _ _ hB4 p5
set_option maxHeartbeats 2000000 in
theorem sp_X3_readCut {d : Nat} {Q : Qt} {v0 : Nat} {I : Im} {J : Jm} {R : Rm} (hB0 : Bd I) (hR0 : RI R) (ho0 : isO 112 v0 2 = true) (hQ : ∀ (x : Int32) (y : Int64) (I2 : Im) (J2 : Jm), Bd I2 → (True) → Q x y I2 J2 R) : AM (d + 4) 37 112 [.ref v0, .ref 3] I J R Q := by
  refine w_X3_readCut ?_
  refine sp_X6_takeNumber hB0 hR0 (fun x1 y6 I2 J3 hB4 p5 => ?_)
  have i7 := i32 x1
  refine ⟨fun c8 => ?_, fun c8 => ?_⟩
  · skip
    have d9 : ¬ ((x1.toInt) : Int) = ((-1)) := ci_ne rfl rfl c8
    refine sp_X6_takeNumber hB4 hR0 (fun x10 y15 I11 J12 hB13 p14 => ?_)
    have i16 := i32 x10
    refine ⟨fun c17 => ?_, fun c17 => ?_⟩
    · skip
      have d18 : ¬ ((x10.toInt) : Int) = ((-1)) := ci_ne rfl rfl c17
      refine sp_X6_takeNumber hB13 hR0 (fun x19 y24 I20 J21 hB22 p23 => ?_)
      have i25 := i32 x19
      refine ⟨fun c26 => ?_, fun c26 => ?_⟩
      · skip
        have d27 : ((x19.toInt) : Int) = ((-1)) := ci_eq rfl rfl c26
        refine ⟨Or.inl rfl, ?_⟩
        exact hQ _ _ _ _ hB22 trivial
      · skip
        have d28 : ¬ ((x19.toInt) : Int) = ((-1)) := ci_ne rfl rfl c26
        refine bif_t ho0 ?_
        refine sp_X2_add hB22 hR0 ho0 (fun x29 y34 I30 J31 hB32 p33 => ?_)
        intro o35
        have i36 := i32 x29
        refine ⟨fun c37 => ?_, fun c37 => ?_⟩
        · skip
          have d38 : ((x29.toInt) : Int) = (0) := ci_eq rfl rfl c37
          refine ⟨Or.inl rfl, ?_⟩
          exact hQ _ _ _ _ hB32 trivial
        · skip
          have d39 : ¬ ((x29.toInt) : Int) = (0) := ci_ne rfl rfl c37
          refine ⟨Or.inr rfl, ?_⟩
          exact hQ _ _ _ _ hB32 trivial
    · skip
      have d40 : ((x10.toInt) : Int) = ((-1)) := ci_eq rfl rfl c17
      refine ⟨fun c41 => ?_, fun c41 => ?_⟩
      · skip
        refine ⟨Or.inl rfl, ?_⟩
        exact hQ _ _ _ _ hB13 trivial
      · exact absurd c41 (by decide)
  · skip
    have d42 : ((x1.toInt) : Int) = ((-1)) := ci_eq rfl rfl c8
    refine ⟨fun c43 => ?_, fun c43 => ?_⟩
    · exact absurd c43 (by decide)
    · skip
      refine ⟨fun c44 => ?_, fun c44 => ?_⟩
      · skip
        refine ⟨Or.inl rfl, ?_⟩
        exact hQ _ _ _ _ hB4 trivial
      · exact absurd c44 (by decide)
set_option maxHeartbeats 2000000 in
theorem sp_X3_readAct {d : Nat} {Q : Qt} {v0 : Nat} {v1 : Nat} {v2 : Int32} {I : Im} {J : Jm} {R : Rm} (hB0 : Bd I) (hR0 : RI R) (ho0 : isO 112 v0 2 = true) (ho1 : isO 112 v1 0 = true) (hQ : ∀ (x : Int32) (y : Int64) (I2 : Im) (J2 : Jm), Bd I2 → (True) → Q x y I2 J2 R) : AM (d + 5) 36 112 [.ref v0, .ref v1, .int v2, .ref 3] I J R Q := by
  have i_v2 := i32 v2
  refine w_X3_readAct ?_
  refine ⟨fun c1 => ?_, fun c1 => ?_⟩
  · skip
    have d2 : ((v2.toInt) : Int) = (9) := ci_eq rfl rfl c1
    refine sp_X3_readCut hB0 hR0 ho0 (fun x3 y8 I4 J5 hB6 p7 => ?_)
    intro o9
    have i10 := i32 x3
    refine ⟨o9, ?_⟩
    exact hQ _ _ _ _ hB6 trivial
  · skip
    have d11 : ¬ ((v2.toInt) : Int) = (9) := ci_ne rfl rfl c1
    refine ⟨fun c12 => ?_, fun c12 => ?_⟩
    · skip
      have d13 : ((v2.toInt) : Int) = (10) := ci_eq rfl rfl c12
      refine sp_X6_takeNumber hB0 hR0 (fun x14 y19 I15 J16 hB17 p18 => ?_)
      have i20 := i32 x14
      refine ⟨fun c21 => ?_, fun c21 => ?_⟩
      · skip
        have d22 : ¬ ((x14.toInt) : Int) = ((-1)) := ci_ne rfl rfl c21
        refine sp_X6_takeNumber hB17 hR0 (fun x23 y28 I24 J25 hB26 p27 => ?_)
        have i29 := i32 x23
        refine ⟨fun c30 => ?_, fun c30 => ?_⟩
        · skip
          have d31 : ((x23.toInt) : Int) = ((-1)) := ci_eq rfl rfl c30
          refine ⟨Or.inl rfl, ?_⟩
          exact hQ _ _ _ _ hB26 trivial
        · skip
          have d32 : ¬ ((x23.toInt) : Int) = ((-1)) := ci_ne rfl rfl c30
          refine bif_t ho0 ?_
          refine sp_X2_add hB26 hR0 ho0 (fun x33 y38 I34 J35 hB36 p37 => ?_)
          intro o39
          have i40 := i32 x33
          refine ⟨fun c41 => ?_, fun c41 => ?_⟩
          · skip
            have d42 : ((x33.toInt) : Int) = (0) := ci_eq rfl rfl c41
            refine ⟨Or.inl rfl, ?_⟩
            exact hQ _ _ _ _ hB36 trivial
          · skip
            have d43 : ¬ ((x33.toInt) : Int) = (0) := ci_ne rfl rfl c41
            refine ⟨Or.inr rfl, ?_⟩
            exact hQ _ _ _ _ hB36 trivial
      · skip
        have d44 : ((x14.toInt) : Int) = ((-1)) := ci_eq rfl rfl c21
        refine ⟨fun c45 => ?_, fun c45 => ?_⟩
        · skip
          refine ⟨Or.inl rfl, ?_⟩
          exact hQ _ _ _ _ hB17 trivial
        · exact absurd c45 (by decide)
    · skip
      have d46 : ¬ ((v2.toInt) : Int) = (10) := ci_ne rfl rfl c12
      refine ⟨fun c47 => ?_, fun c47 => ?_⟩
      · skip
        have d48 : ((v2.toInt) : Int) = (11) := ci_eq rfl rfl c47
        refine sp_X3_takeMan hB0 hR0 ho1 (fun x49 y54 I50 J51 hB52 p53 => ?_)
        have i55 := i32 x49
        refine ⟨fun c56 => ?_, fun c56 => ?_⟩
        · skip
          have d57 : ¬ ((x49.toInt) : Int) = ((-1)) := ci_ne rfl rfl c56
          refine sp_X6_takeNumber hB52 hR0 (fun x58 y63 I59 J60 hB61 p62 => ?_)
          have i64 := i32 x58
          refine ⟨fun c65 => ?_, fun c65 => ?_⟩
          · skip
            have d66 : ((x58.toInt) : Int) = ((-1)) := ci_eq rfl rfl c65
            refine ⟨Or.inl rfl, ?_⟩
            exact hQ _ _ _ _ hB61 trivial
          · skip
            have d67 : ¬ ((x58.toInt) : Int) = ((-1)) := ci_ne rfl rfl c65
            refine bif_t ho0 ?_
            refine sp_X2_add hB61 hR0 ho0 (fun x68 y73 I69 J70 hB71 p72 => ?_)
            intro o74
            have i75 := i32 x68
            refine ⟨fun c76 => ?_, fun c76 => ?_⟩
            · skip
              have d77 : ((x68.toInt) : Int) = (0) := ci_eq rfl rfl c76
              refine ⟨Or.inl rfl, ?_⟩
              exact hQ _ _ _ _ hB71 trivial
            · skip
              have d78 : ¬ ((x68.toInt) : Int) = (0) := ci_ne rfl rfl c76
              refine ⟨Or.inr rfl, ?_⟩
              exact hQ _ _ _ _ hB71 trivial
        · skip
          have d79 : ((x49.toInt) : Int) = ((-1)) := ci_eq rfl rfl c56
          refine ⟨fun c80 => ?_, fun c80 => ?_⟩
          · skip
            refine ⟨Or.inl rfl, ?_⟩
            exact hQ _ _ _ _ hB52 trivial
          · exact absurd c80 (by decide)
      · skip
        have d81 : ¬ ((v2.toInt) : Int) = (11) := ci_ne rfl rfl c47
        refine ⟨fun c82 => ?_, fun c82 => ?_⟩
        · skip
          have d83 : ((v2.toInt) : Int) = (12) := ci_eq rfl rfl c82
          refine sp_X3_takeMan hB0 hR0 ho1 (fun x84 y89 I85 J86 hB87 p88 => ?_)
          have i90 := i32 x84
          refine ⟨fun c91 => ?_, fun c91 => ?_⟩
          · skip
            have d92 : ¬ ((x84.toInt) : Int) = ((-1)) := ci_ne rfl rfl c91
            refine sp_X6_takeNumber hB87 hR0 (fun x93 y98 I94 J95 hB96 p97 => ?_)
            have i99 := i32 x93
            refine ⟨fun c100 => ?_, fun c100 => ?_⟩
            · skip
              have d101 : ((x93.toInt) : Int) = ((-1)) := ci_eq rfl rfl c100
              refine ⟨Or.inl rfl, ?_⟩
              exact hQ _ _ _ _ hB96 trivial
            · skip
              have d102 : ¬ ((x93.toInt) : Int) = ((-1)) := ci_ne rfl rfl c100
              refine bif_t ho0 ?_
              refine sp_X2_add hB96 hR0 ho0 (fun x103 y108 I104 J105 hB106 p107 => ?_)
              intro o109
              have i110 := i32 x103
              refine ⟨fun c111 => ?_, fun c111 => ?_⟩
              · skip
                have d112 : ((x103.toInt) : Int) = (0) := ci_eq rfl rfl c111
                refine ⟨Or.inl rfl, ?_⟩
                exact hQ _ _ _ _ hB106 trivial
              · skip
                have d113 : ¬ ((x103.toInt) : Int) = (0) := ci_ne rfl rfl c111
                refine ⟨Or.inr rfl, ?_⟩
                exact hQ _ _ _ _ hB106 trivial
          · skip
            have d114 : ((x84.toInt) : Int) = ((-1)) := ci_eq rfl rfl c91
            refine ⟨fun c115 => ?_, fun c115 => ?_⟩
            · skip
              refine ⟨Or.inl rfl, ?_⟩
              exact hQ _ _ _ _ hB87 trivial
            · exact absurd c115 (by decide)
        · skip
          have d116 : ¬ ((v2.toInt) : Int) = (12) := ci_ne rfl rfl c82
          refine ⟨fun c117 => ?_, fun c117 => ?_⟩
          · skip
            have d118 : ((v2.toInt) : Int) = (13) := ci_eq rfl rfl c117
            refine sp_X6_takeNumber hB0 hR0 (fun x119 y124 I120 J121 hB122 p123 => ?_)
            have i125 := i32 x119
            refine ⟨fun c126 => ?_, fun c126 => ?_⟩
            · skip
              have d127 : ((x119.toInt) : Int) = ((-1)) := ci_eq rfl rfl c126
              refine ⟨Or.inl rfl, ?_⟩
              exact hQ _ _ _ _ hB122 trivial
            · skip
              have d128 : ¬ ((x119.toInt) : Int) = ((-1)) := ci_ne rfl rfl c126
              refine bif_t ho0 ?_
              refine sp_X2_add hB122 hR0 ho0 (fun x129 y134 I130 J131 hB132 p133 => ?_)
              intro o135
              have i136 := i32 x129
              refine ⟨fun c137 => ?_, fun c137 => ?_⟩
              · skip
                have d138 : ((x129.toInt) : Int) = (0) := ci_eq rfl rfl c137
                refine ⟨Or.inl rfl, ?_⟩
                exact hQ _ _ _ _ hB132 trivial
              · skip
                have d139 : ¬ ((x129.toInt) : Int) = (0) := ci_ne rfl rfl c137
                refine ⟨Or.inr rfl, ?_⟩
                exact hQ _ _ _ _ hB132 trivial
          · skip
            have d140 : ¬ ((v2.toInt) : Int) = (13) := ci_ne rfl rfl c117
            refine ⟨fun c141 => ?_, fun c141 => ?_⟩
            · skip
              have d142 : ((v2.toInt) : Int) = (14) := ci_eq rfl rfl c141
              refine bif_t ho0 ?_
              refine sp_X2_add hB0 hR0 ho0 (fun x143 y148 I144 J145 hB146 p147 => ?_)
              intro o149
              have i150 := i32 x143
              refine ⟨o149, ?_⟩
              exact hQ _ _ _ _ hB146 trivial
            · skip
              have d151 : ¬ ((v2.toInt) : Int) = (14) := ci_ne rfl rfl c141
              refine ⟨fun c152 => ?_, fun c152 => ?_⟩
              · skip
                have d153 : ((v2.toInt) : Int) = (15) := ci_eq rfl rfl c152
                refine bif_t ho0 ?_
                refine sp_X2_add hB0 hR0 ho0 (fun x154 y159 I155 J156 hB157 p158 => ?_)
                intro o160
                have i161 := i32 x154
                refine ⟨o160, ?_⟩
                exact hQ _ _ _ _ hB157 trivial
              · skip
                have d162 : ¬ ((v2.toInt) : Int) = (15) := ci_ne rfl rfl c152
                refine ⟨fun c163 => ?_, fun c163 => ?_⟩
                · skip
                  have d164 : ((v2.toInt) : Int) = (16) := ci_eq rfl rfl c163
                  refine bif_t ho0 ?_
                  refine sp_X2_add hB0 hR0 ho0 (fun x165 y170 I166 J167 hB168 p169 => ?_)
                  intro o171
                  have i172 := i32 x165
                  refine ⟨o171, ?_⟩
                  exact hQ _ _ _ _ hB168 trivial
                · skip
                  have d173 : ¬ ((v2.toInt) : Int) = (16) := ci_ne rfl rfl c163
                  refine ⟨fun c174 => ?_, fun c174 => ?_⟩
                  · skip
                    have d175 : ((v2.toInt) : Int) = (17) := ci_eq rfl rfl c174
                    refine bif_t ho0 ?_
                    refine sp_X2_add hB0 hR0 ho0 (fun x176 y181 I177 J178 hB179 p180 => ?_)
                    intro o182
                    have i183 := i32 x176
                    refine ⟨o182, ?_⟩
                    exact hQ _ _ _ _ hB179 trivial
                  · skip
                    have d184 : ¬ ((v2.toInt) : Int) = (17) := ci_ne rfl rfl c174
                    refine ⟨fun c185 => ?_, fun c185 => ?_⟩
                    · skip
                      have d186 : ((v2.toInt) : Int) = (18) := ci_eq rfl rfl c185
                      refine bif_t ho0 ?_
                      refine sp_X2_add hB0 hR0 ho0 (fun x187 y192 I188 J189 hB190 p191 => ?_)
                      intro o193
                      have i194 := i32 x187
                      refine ⟨o193, ?_⟩
                      exact hQ _ _ _ _ hB190 trivial
                    · skip
                      have d195 : ¬ ((v2.toInt) : Int) = (18) := ci_ne rfl rfl c185
                      refine ⟨fun c196 => ?_, fun c196 => ?_⟩
                      · skip
                        have d197 : ((v2.toInt) : Int) = (19) := ci_eq rfl rfl c196
                        refine sp_X6_takeNumber hB0 hR0 (fun x198 y203 I199 J200 hB201 p202 => ?_)
                        have i204 := i32 x198
                        refine ⟨fun c205 => ?_, fun c205 => ?_⟩
                        · skip
                          have d206 : ((x198.toInt) : Int) = ((-1)) := ci_eq rfl rfl c205
                          refine ⟨Or.inl rfl, ?_⟩
                          exact hQ _ _ _ _ hB201 trivial
                        · skip
                          have d207 : ¬ ((x198.toInt) : Int) = ((-1)) := ci_ne rfl rfl c205
                          refine bif_t ho0 ?_
                          refine sp_X2_add hB201 hR0 ho0 (fun x208 y213 I209 J210 hB211 p212 => ?_)
                          intro o214
                          have i215 := i32 x208
                          refine ⟨fun c216 => ?_, fun c216 => ?_⟩
                          · skip
                            have d217 : ((x208.toInt) : Int) = (0) := ci_eq rfl rfl c216
                            refine ⟨Or.inl rfl, ?_⟩
                            exact hQ _ _ _ _ hB211 trivial
                          · skip
                            have d218 : ¬ ((x208.toInt) : Int) = (0) := ci_ne rfl rfl c216
                            refine ⟨Or.inr rfl, ?_⟩
                            exact hQ _ _ _ _ hB211 trivial
                      · skip
                        have d219 : ¬ ((v2.toInt) : Int) = (19) := ci_ne rfl rfl c196
                        refine bif_t ho0 ?_
                        refine sp_X2_add hB0 hR0 ho0 (fun x220 y225 I221 J222 hB223 p224 => ?_)
                        intro o226
                        have i227 := i32 x220
                        refine ⟨o226, ?_⟩
                        exact hQ _ _ _ _ hB223 trivial
set_option maxHeartbeats 2000000 in
theorem sp_X3_readTest {d : Nat} {Q : Qt} {v0 : Nat} {v1 : Nat} {I : Im} {J : Jm} {R : Rm} (hB0 : Bd I) (hR0 : RI R) (ho0 : isO 112 v0 2 = true) (ho1 : isO 112 v1 0 = true) (hQ : ∀ (x : Int32) (y : Int64) (I2 : Im) (J2 : Jm), Bd I2 → (True) → Q x y I2 J2 R) : AM (d + 5) 38 112 [.ref v0, .ref v1, .ref 3] I J R Q := by
  refine am_X3_readTest (fun P hc => ?_)
  have L : ∀ n : Nat, (∀ (v3 : Int32) (M : Im) (JM : Jm), Bd M → (True) → 1 < (n : Int) → P 28 112 [(0, .ref v0), (1, .ref v1), (2, .ref 3), (3, .int v3)] [] M JM R) := by
    intro n
    induction n with
    | zero =>
      exact fun v3 M J _ hi hm => absurd hm (by omega)
    | succ n ih =>
      intro v3 M JM hB hi hm
      have i_v3 := i32 v3
      refine sg_X3_readTest_28 hc _ _ _ _ _ _ ?_
      refine sp_X6_takeAny hB hR0 (fun x1 y6 I2 J3 hB4 p5 => ?_)
      intro o7
      have i8 := i32 x1
      refine ⟨fun c9 => ?_, fun c9 => ?_⟩
      · skip
        have d10 : ¬ ((v3.toInt) : Int) = (17) := ci_ne rfl rfl c9
        refine sp_X3_takeMan hB4 hR0 ho1 (fun x11 y16 I12 J13 hB14 p15 => ?_)
        have i17 := i32 x11
        refine ⟨fun c18 => ?_, fun c18 => ?_⟩
        · skip
          have d19 : ¬ ((x11.toInt) : Int) = ((-1)) := ci_ne rfl rfl c18
          refine ⟨fun c20 => ?_, fun c20 => ?_⟩
          · skip
            have d21 : ¬ ((v3.toInt) : Int) = (16) := ci_ne rfl rfl c20
            refine sp_X6_takeCompares hB14 hR0 (fun x22 y27 I23 J24 hB25 p26 => ?_)
            have i28 := i32 x22
            refine ⟨fun c29 => ?_, fun c29 => ?_⟩
            · skip
              have d30 : ¬ ((x22.toInt) : Int) = ((-1)) := ci_ne rfl rfl c29
              refine sp_X6_takeNumber hB25 hR0 (fun x31 y36 I32 J33 hB34 p35 => ?_)
              have i37 := i32 x31
              refine ⟨fun c38 => ?_, fun c38 => ?_⟩
              · skip
                have d39 : ((x31.toInt) : Int) = ((-1)) := ci_eq rfl rfl c38
                refine ⟨Or.inl rfl, ?_⟩
                exact hQ _ _ _ _ hB34 trivial
              · skip
                have d40 : ¬ ((x31.toInt) : Int) = ((-1)) := ci_ne rfl rfl c38
                refine bif_t ho0 ?_
                refine sp_X2_add hB34 hR0 ho0 (fun x41 y46 I42 J43 hB44 p45 => ?_)
                intro o47
                have i48 := i32 x41
                refine ⟨fun c49 => ?_, fun c49 => ?_⟩
                · skip
                  have d50 : ((x41.toInt) : Int) = (0) := ci_eq rfl rfl c49
                  refine ⟨Or.inl rfl, ?_⟩
                  exact hQ _ _ _ _ hB44 trivial
                · skip
                  have d51 : ¬ ((x41.toInt) : Int) = (0) := ci_ne rfl rfl c49
                  refine ⟨Or.inr rfl, ?_⟩
                  exact hQ _ _ _ _ hB44 trivial
            · skip
              have d52 : ((x22.toInt) : Int) = ((-1)) := ci_eq rfl rfl c29
              refine ⟨fun c53 => ?_, fun c53 => ?_⟩
              · skip
                refine ⟨Or.inl rfl, ?_⟩
                exact hQ _ _ _ _ hB25 trivial
              · exact absurd c53 (by decide)
          · skip
            have d54 : ((v3.toInt) : Int) = (16) := ci_eq rfl rfl c20
            refine bif_t ho0 ?_
            refine sp_X2_add hB14 hR0 ho0 (fun x55 y60 I56 J57 hB58 p59 => ?_)
            intro o61
            have i62 := i32 x55
            refine ⟨o61, ?_⟩
            exact hQ _ _ _ _ hB58 trivial
        · skip
          have d63 : ((x11.toInt) : Int) = ((-1)) := ci_eq rfl rfl c18
          refine ⟨Or.inl rfl, ?_⟩
          exact hQ _ _ _ _ hB14 trivial
      · skip
        have d64 : ((v3.toInt) : Int) = (17) := ci_eq rfl rfl c9
        refine sp_X6_takeNumber hB4 hR0 (fun x65 y70 I66 J67 hB68 p69 => ?_)
        have i71 := i32 x65
        refine ⟨fun c72 => ?_, fun c72 => ?_⟩
        · skip
          have d73 : ¬ ((x65.toInt) : Int) = ((-1)) := ci_ne rfl rfl c72
          refine ⟨fun c74 => ?_, fun c74 => ?_⟩
          · skip
            have d75 : ¬ ((v3.toInt) : Int) = (16) := ci_ne rfl rfl c74
            refine sp_X6_takeCompares hB68 hR0 (fun x76 y81 I77 J78 hB79 p80 => ?_)
            have i82 := i32 x76
            refine ⟨fun c83 => ?_, fun c83 => ?_⟩
            · skip
              have d84 : ¬ ((x76.toInt) : Int) = ((-1)) := ci_ne rfl rfl c83
              refine sp_X6_takeNumber hB79 hR0 (fun x85 y90 I86 J87 hB88 p89 => ?_)
              have i91 := i32 x85
              refine ⟨fun c92 => ?_, fun c92 => ?_⟩
              · skip
                have d93 : ((x85.toInt) : Int) = ((-1)) := ci_eq rfl rfl c92
                refine ⟨Or.inl rfl, ?_⟩
                exact hQ _ _ _ _ hB88 trivial
              · skip
                have d94 : ¬ ((x85.toInt) : Int) = ((-1)) := ci_ne rfl rfl c92
                refine bif_t ho0 ?_
                refine sp_X2_add hB88 hR0 ho0 (fun x95 y100 I96 J97 hB98 p99 => ?_)
                intro o101
                have i102 := i32 x95
                refine ⟨fun c103 => ?_, fun c103 => ?_⟩
                · skip
                  have d104 : ((x95.toInt) : Int) = (0) := ci_eq rfl rfl c103
                  refine ⟨Or.inl rfl, ?_⟩
                  exact hQ _ _ _ _ hB98 trivial
                · skip
                  have d105 : ¬ ((x95.toInt) : Int) = (0) := ci_ne rfl rfl c103
                  refine ⟨Or.inr rfl, ?_⟩
                  exact hQ _ _ _ _ hB98 trivial
            · skip
              have d106 : ((x76.toInt) : Int) = ((-1)) := ci_eq rfl rfl c83
              refine ⟨fun c107 => ?_, fun c107 => ?_⟩
              · skip
                refine ⟨Or.inl rfl, ?_⟩
                exact hQ _ _ _ _ hB79 trivial
              · exact absurd c107 (by decide)
          · skip
            have d108 : ((v3.toInt) : Int) = (16) := ci_eq rfl rfl c74
            refine bif_t ho0 ?_
            refine sp_X2_add hB68 hR0 ho0 (fun x109 y114 I110 J111 hB112 p113 => ?_)
            intro o115
            have i116 := i32 x109
            refine ⟨o115, ?_⟩
            exact hQ _ _ _ _ hB112 trivial
        · skip
          have d117 : ((x65.toInt) : Int) = ((-1)) := ci_eq rfl rfl c72
          refine ⟨Or.inl rfl, ?_⟩
          exact hQ _ _ _ _ hB68 trivial
  refine sg_X3_readTest_0 hc _ _ _ _ _ ?_
  refine ⟨fun c118 => ?_, fun c118 => ?_⟩
  · skip
    have d119 : (((I 3 9).toInt) : Int) = (16) := ci_eq rfl rfl c118
    exact (L 1000000) _ _ _ hB0 trivial (by omega)
  · skip
    have d120 : ¬ (((I 3 9).toInt) : Int) = (16) := ci_ne rfl rfl c118
    refine ⟨fun c121 => ?_, fun c121 => ?_⟩
    · skip
      have d122 : (((I 3 9).toInt) : Int) = (17) := ci_eq rfl rfl c121
      exact (L 1000000) _ _ _ hB0 trivial (by omega)
    · skip
      have d123 : ¬ (((I 3 9).toInt) : Int) = (17) := ci_ne rfl rfl c121
      refine ⟨fun c124 => ?_, fun c124 => ?_⟩
      · skip
        have d125 : (((I 3 9).toInt) : Int) = (18) := ci_eq rfl rfl c124
        exact (L 1000000) _ _ _ hB0 trivial (by omega)
      · skip
        have d126 : ¬ (((I 3 9).toInt) : Int) = (18) := ci_ne rfl rfl c124
        refine w_X6_misplaced ?_
        refine ⟨fun c127 => ?_, fun c127 => ?_⟩
        · skip
          have d128 : ¬ (((I 3 8).toInt) : Int) = (4) := ci_ne rfl rfl c127
          refine w_X6_wrong ?_
          have hB129 : Bd (uI I 3 12 2) := Bd.o0 hB0 io9_112_3_6 (by decide) bd9_6_12
          have hB130 : Bd (uI (uI I 3 12 2) 3 13 (I 3 6)) := Bd.o0 hB129 io9_112_3_6 (by decide) bd9_6_13
          refine ⟨Or.inl rfl, ?_⟩
          intro o131
          refine ⟨Or.inl rfl, ?_⟩
          intro o132
          refine ⟨Or.inl rfl, ?_⟩
          exact hQ _ _ _ _ hB130 trivial
        · skip
          have d133 : (((I 3 8).toInt) : Int) = (4) := ci_eq rfl rfl c127
          refine w_X6_wrong ?_
          have hB134 : Bd (uI I 3 12 1) := Bd.o0 hB0 io9_112_3_6 (by decide) bd9_6_12
          have hB135 : Bd (uI (uI I 3 12 1) 3 13 (I 3 6)) := Bd.o0 hB134 io9_112_3_6 (by decide) bd9_6_13
          refine ⟨Or.inl rfl, ?_⟩
          intro o136
          refine ⟨Or.inl rfl, ?_⟩
          intro o137
          refine ⟨Or.inl rfl, ?_⟩
          exact hQ _ _ _ _ hB135 trivial
set_option maxHeartbeats 2000000 in
theorem sp_X3_readEnd {d : Nat} {Q : Qt} {v1 : Nat} {I : Im} {J : Jm} {R : Rm} (hB0 : Bd I) (hR0 : RI R) (ho1 : isO 112 v1 2 = true) (hQ : ∀ (x : Int32) (y : Int64) (I2 : Im) (J2 : Jm), Bd I2 → (True) → Q x y I2 J2 R) : AM (d + 5) 34 112 [.ref 7, .ref v1, .ref 3] I J R Q := by
  refine w_X3_readEnd ?_
  refine ⟨fun c1 => ?_, fun c1 => ?_⟩
  · skip
    have b2 := Bd.o hB0 io9_112_7_3 bd9_3_1
    have d3 : ((1) : Int) ≤ ((I 7 1).toInt) := ci_le rfl rfl c1
    refine sp_X6_takeAny hB0 hR0 (fun x4 y9 I5 J6 hB7 p8 => ?_)
    intro o10
    have i11 := i32 x4
    have e13 : ((I5 7 1) : Int32).toInt = (I 7 1).toInt := Eq.trans (congrArg Int32.toInt p8) rfl
    have e14 : (((I5 7 1) - 1) : Int32).toInt = ((I 7 1).toInt) - (1) := ti_sub e13 rfl (by omega)
    have hB12 : Bd (uI I5 7 1 ((I5 7 1) - 1)) := Bd.o1 hB7 io9_112_7_3 (by decide) bd9_3_1 (show (((I5 7 1) - 1) : Int32).toInt = ((I 7 1).toInt - 1) from e14) (by omega)
    refine bif_t ho1 ?_
    refine sp_X2_add hB12 hR0 ho1 (fun x15 y20 I16 J17 hB18 p19 => ?_)
    intro o21
    have i22 := i32 x15
    refine ⟨fun c23 => ?_, fun c23 => ?_⟩
    · skip
      have d24 : ¬ ((x15.toInt) : Int) = (0) := ci_ne rfl rfl c23
      have e25 : ((I16 7 1) : Int32).toInt = ((I 7 1).toInt - 1) := Eq.trans (congrArg Int32.toInt (Eq.trans p19 rd_eq)) e14
      refine ⟨vp_of (a := ((I 7 1).toInt - 1)) e25 (by omega) (by omega), ?_⟩
      refine bif_t ho1 ?_
      refine bif_t ho1 ?_
      refine sp_X2_pair hB18 hR0 ho1 (fun x26 y31 I27 J28 hB29 p30 => ?_)
      refine sp_X6_takeSemicolon hB29 hR0 (fun x32 y37 I33 J34 hB35 p36 => ?_)
      intro o38
      have i39 := i32 x32
      refine ⟨o38, ?_⟩
      exact hQ _ _ _ _ hB35 trivial
    · skip
      have d40 : ((x15.toInt) : Int) = (0) := ci_eq rfl rfl c23
      refine ⟨Or.inl rfl, ?_⟩
      exact hQ _ _ _ _ hB18 trivial
  · skip
    have b41 := Bd.o hB0 io9_112_7_3 bd9_3_1
    have d42 : (((I 7 1).toInt) : Int) < (1) := ci_nle rfl rfl c1
    refine w_X6_misplaced ?_
    refine ⟨fun c43 => ?_, fun c43 => ?_⟩
    · skip
      have d44 : ¬ (((I 3 8).toInt) : Int) = (4) := ci_ne rfl rfl c43
      refine w_X6_wrong ?_
      have hB45 : Bd (uI I 3 12 2) := Bd.o0 hB0 io9_112_3_6 (by decide) bd9_6_12
      have hB46 : Bd (uI (uI I 3 12 2) 3 13 (I 3 6)) := Bd.o0 hB45 io9_112_3_6 (by decide) bd9_6_13
      refine ⟨Or.inl rfl, ?_⟩
      intro o47
      refine ⟨Or.inl rfl, ?_⟩
      intro o48
      refine ⟨Or.inl rfl, ?_⟩
      exact hQ _ _ _ _ hB46 trivial
    · skip
      have d49 : (((I 3 8).toInt) : Int) = (4) := ci_eq rfl rfl c43
      refine w_X6_wrong ?_
      have hB50 : Bd (uI I 3 12 1) := Bd.o0 hB0 io9_112_3_6 (by decide) bd9_6_12
      have hB51 : Bd (uI (uI I 3 12 1) 3 13 (I 3 6)) := Bd.o0 hB50 io9_112_3_6 (by decide) bd9_6_13
      refine ⟨Or.inl rfl, ?_⟩
      intro o52
      refine ⟨Or.inl rfl, ?_⟩
      intro o53
      refine ⟨Or.inl rfl, ?_⟩
      exact hQ _ _ _ _ hB51 trivial
set_option maxHeartbeats 2000000 in
theorem sp_X3_readStep {d : Nat} {Q : Qt} {v1 : Nat} {v2 : Nat} {I : Im} {J : Jm} {R : Rm} (hB0 : Bd I) (hR0 : RI R) (ho1 : isO 112 v1 2 = true) (ho2 : isO 112 v2 0 = true) (hQ : ∀ (x : Int32) (y : Int64) (I2 : Im) (J2 : Jm), Bd I2 → (True) → Q x y I2 J2 R) : AM (d + 6) 35 112 [.ref 7, .ref v1, .ref v2, .ref 3] I J R Q := by
  refine am_X3_readStep (fun P hc => ?_)
  have L : ∀ n : Nat, (∀ (v4 : Int32) (M : Im) (JM : Jm), Bd M → (True) → 10 < (n : Int) → P 20 112 [(0, .ref 7), (1, .ref v1), (2, .ref v2), (3, .ref 3), (4, .int v4)] [] M JM R) ∧ (∀ (v4 : Int32) (v5 : Int32) (M : Im) (JM : Jm), Bd M → (True) → 9 < (n : Int) → P 53 112 [(0, .ref 7), (1, .ref v1), (2, .ref v2), (3, .ref 3), (4, .int v4), (5, .int v5)] [] M JM R) ∧ (∀ (v4 : Int32) (v5 : Int32) (M : Im) (JM : Jm), Bd M → (True) → 8 < (n : Int) → P 57 112 [(0, .ref 7), (1, .ref v1), (2, .ref v2), (3, .ref 3), (4, .int v4), (5, .int v5)] [] M JM R) ∧ (∀ (v4 : Int32) (v5 : Int32) (M : Im) (JM : Jm), Bd M → ((v5.toInt = 0 ∨ (M 7 1).toInt < 3)) → 7 < (n : Int) → P 111 112 [(0, .ref 7), (1, .ref v1), (2, .ref v2), (3, .ref 3), (4, .int v4), (5, .int v5)] [] M JM R) ∧ (∀ (v4 : Int32) (M : Im) (JM : Jm), Bd M → (True) → 6 < (n : Int) → P 149 112 [(1, .ref v1), (2, .ref v2), (3, .ref 3), (4, .int v4)] [] M JM R) := by
    intro n
    induction n with
    | zero =>
      exact ⟨fun v4 M J _ hi hm => absurd hm (by omega), fun v4 v5 M J _ hi hm => absurd hm (by omega), fun v4 v5 M J _ hi hm => absurd hm (by omega), fun v4 v5 M J _ hi hm => absurd hm (by omega), fun v4 M J _ hi hm => absurd hm (by omega)⟩
    | succ n ih =>
      refine ⟨?_, ?_, ?_, ?_, ?_⟩
      · skip
        intro v4 M JM hB hi hm
        have i_v4 := i32 v4
        refine sg_X3_readStep_20 hc _ _ _ _ _ _ ?_
        refine ⟨fun c1 => ?_, fun c1 => ?_⟩
        · skip
          exact ih.2.1 _ _ _ _ hB trivial (by omega)
        · exact absurd c1 (by decide)
      · skip
        intro v4 v5 M JM hB hi hm
        have i_v4 := i32 v4
        have i_v5 := i32 v5
        refine sg_X3_readStep_53 hc _ _ _ _ _ _ _ ?_
        refine ⟨fun c2 => ?_, fun c2 => ?_⟩
        · skip
          refine sp_X6_takeAny hB hR0 (fun x3 y8 I4 J5 hB6 p7 => ?_)
          intro o9
          have i10 := i32 x3
          refine bif_t ho1 ?_
          refine ⟨fun c11 => ?_, fun c11 => ?_⟩
          · skip
            have d12 : (((I4 v1 1).toInt) : Int) < (30) := ci_lt rfl rfl c11
            refine ⟨fun c13 => ?_, fun c13 => ?_⟩
            · skip
              have d14 : ((v5.toInt) : Int) = (0) := ci_eq rfl rfl c13
              have b15 := Bd.o hB io9_112_7_3 bd9_3_1
              have e16 : ((I4 7 1) : Int32).toInt = (M 7 1).toInt := Eq.trans (congrArg Int32.toInt p7) rfl
              exact ih.2.2.2.1 _ _ _ _ hB6 (by have q0 : (v5 : Int32).toInt = v5.toInt := rfl; have q1 : ((I4 7 1) : Int32).toInt = (M 7 1).toInt := e16; omega) (by omega)
            · skip
              have d17 : ¬ ((v5.toInt) : Int) = (0) := ci_ne rfl rfl c13
              refine ⟨fun c18 => ?_, fun c18 => ?_⟩
              · skip
                have b19 := Bd.o hB io9_112_7_3 bd9_3_1
                have e20 : ((I4 7 1) : Int32).toInt = (M 7 1).toInt := Eq.trans (congrArg Int32.toInt p7) rfl
                have d21 : (((M 7 1).toInt) : Int) < (3) := ci_lt e20 rfl c18
                exact ih.2.2.2.1 _ _ _ _ hB6 (by have q0 : (v5 : Int32).toInt = v5.toInt := rfl; have q1 : ((I4 7 1) : Int32).toInt = (M 7 1).toInt := e20; omega) (by omega)
              · skip
                have b22 := Bd.o hB io9_112_7_3 bd9_3_1
                have e23 : ((I4 7 1) : Int32).toInt = (M 7 1).toInt := Eq.trans (congrArg Int32.toInt p7) rfl
                have d24 : ((3) : Int) ≤ ((M 7 1).toInt) := ci_nlt e23 rfl c18
                refine w_X6_wrongTaken ?_
                refine w_X6_wrong ?_
                have hB25 : Bd (uI I4 3 12 7) := Bd.o0 hB6 io9_112_3_6 (by decide) bd9_6_12
                have hB26 : Bd (uI (uI I4 3 12 7) 3 13 (I4 3 7)) := Bd.o0 hB25 io9_112_3_6 (by decide) bd9_6_13
                refine ⟨Or.inl rfl, ?_⟩
                intro o27
                refine ⟨Or.inl rfl, ?_⟩
                intro o28
                refine ⟨Or.inl rfl, ?_⟩
                exact hQ _ _ _ _ hB26 trivial
          · skip
            have d29 : ((30) : Int) ≤ ((I4 v1 1).toInt) := ci_nlt rfl rfl c11
            refine w_X6_wrongTaken ?_
            refine w_X6_wrong ?_
            have hB30 : Bd (uI I4 3 12 6) := Bd.o0 hB6 io9_112_3_6 (by decide) bd9_6_12
            have hB31 : Bd (uI (uI I4 3 12 6) 3 13 (I4 3 7)) := Bd.o0 hB30 io9_112_3_6 (by decide) bd9_6_13
            refine ⟨Or.inl rfl, ?_⟩
            intro o32
            refine ⟨Or.inl rfl, ?_⟩
            intro o33
            refine ⟨Or.inl rfl, ?_⟩
            exact hQ _ _ _ _ hB31 trivial
        · exact absurd c2 (by decide)
      · skip
        intro v4 v5 M JM hB hi hm
        have i_v4 := i32 v4
        have i_v5 := i32 v5
        refine sg_X3_readStep_57 hc _ _ _ _ _ _ _ ?_
        refine ⟨fun c34 => ?_, fun c34 => ?_⟩
        · exact absurd c34 (by decide)
        · skip
          refine w_X6_misplaced ?_
          refine ⟨fun c35 => ?_, fun c35 => ?_⟩
          · skip
            have d36 : ¬ (((M 3 8).toInt) : Int) = (4) := ci_ne rfl rfl c35
            refine w_X6_wrong ?_
            have hB37 : Bd (uI M 3 12 2) := Bd.o0 hB io9_112_3_6 (by decide) bd9_6_12
            have hB38 : Bd (uI (uI M 3 12 2) 3 13 (M 3 6)) := Bd.o0 hB37 io9_112_3_6 (by decide) bd9_6_13
            refine ⟨Or.inl rfl, ?_⟩
            intro o39
            refine ⟨Or.inl rfl, ?_⟩
            intro o40
            refine ⟨Or.inl rfl, ?_⟩
            exact hQ _ _ _ _ hB38 trivial
          · skip
            have d41 : (((M 3 8).toInt) : Int) = (4) := ci_eq rfl rfl c35
            refine w_X6_wrong ?_
            have hB42 : Bd (uI M 3 12 1) := Bd.o0 hB io9_112_3_6 (by decide) bd9_6_12
            have hB43 : Bd (uI (uI M 3 12 1) 3 13 (M 3 6)) := Bd.o0 hB42 io9_112_3_6 (by decide) bd9_6_13
            refine ⟨Or.inl rfl, ?_⟩
            intro o44
            refine ⟨Or.inl rfl, ?_⟩
            intro o45
            refine ⟨Or.inl rfl, ?_⟩
            exact hQ _ _ _ _ hB43 trivial
      · skip
        intro v4 v5 M JM hB hi hm
        have i_v4 := i32 v4
        have i_v5 := i32 v5
        refine sg_X3_readStep_111 hc _ _ _ _ _ _ _ ?_
        have b46 := Bd.o hB io9_112_7_3 bd9_3_1
        refine bif_t ho1 ?_
        refine bif_t ho1 ?_
        have hB47 : Bd (uI M v1 1 ((M v1 1) + 1)) := Bd.o0 hB ho1 (by decide) bd9_2_1
        refine ⟨fun c48 => ?_, fun c48 => ?_⟩
        · skip
          have d49 : ((v5.toInt) : Int) = (0) := ci_eq rfl rfl c48
          exact ih.2.2.2.2 _ _ _ hB47 trivial (by omega)
        · skip
          have d50 : ¬ ((v5.toInt) : Int) = (0) := ci_ne rfl rfl c48
          refine bif_t ho1 ?_
          have e51 : (((uI M v1 1 ((M v1 1) + 1)) 7 1) : Int32).toInt = (M 7 1).toInt := Eq.trans (congrArg Int32.toInt (rd_ne (cne (clO io9_112_7_3) (clO ho1) rfl))) rfl
          refine ⟨vp_of (a := (M 7 1).toInt) e51 (by omega) (by omega), ?_⟩
          have hB52 : Bd (uI (uI M v1 1 ((M v1 1) + 1)) 8 (Int32.toNatClampNeg ((uI M v1 1 ((M v1 1) + 1)) 7 1)) ((uI M v1 1 ((M v1 1) + 1)) v1 2)) := Bd.a0 hB47 (show isA 112 8 0 = true from rfl) (show bna 8 = none from rfl)
          have e54 : (((uI (uI M v1 1 ((M v1 1) + 1)) 8 (Int32.toNatClampNeg ((uI M v1 1 ((M v1 1) + 1)) 7 1)) ((uI M v1 1 ((M v1 1) + 1)) v1 2)) 7 1) : Int32).toInt = (M 7 1).toInt := Eq.trans (congrArg Int32.toInt (Eq.trans (rd_ne (by first | decide | omega)) (rd_ne (cne (clO io9_112_7_3) (clO ho1) rfl)))) rfl
          have e55 : ((((uI (uI M v1 1 ((M v1 1) + 1)) 8 (Int32.toNatClampNeg ((uI M v1 1 ((M v1 1) + 1)) 7 1)) ((uI M v1 1 ((M v1 1) + 1)) v1 2)) 7 1) + 1) : Int32).toInt = ((M 7 1).toInt) + (1) := ti_add e54 rfl (by omega)
          have hB53 : Bd (uI (uI (uI M v1 1 ((M v1 1) + 1)) 8 (Int32.toNatClampNeg ((uI M v1 1 ((M v1 1) + 1)) 7 1)) ((uI M v1 1 ((M v1 1) + 1)) v1 2)) 7 1 (((uI (uI M v1 1 ((M v1 1) + 1)) 8 (Int32.toNatClampNeg ((uI M v1 1 ((M v1 1) + 1)) 7 1)) ((uI M v1 1 ((M v1 1) + 1)) v1 2)) 7 1) + 1)) := Bd.o1 hB52 io9_112_7_3 (by decide) bd9_3_1 (show ((((uI (uI M v1 1 ((M v1 1) + 1)) 8 (Int32.toNatClampNeg ((uI M v1 1 ((M v1 1) + 1)) 7 1)) ((uI M v1 1 ((M v1 1) + 1)) v1 2)) 7 1) + 1) : Int32).toInt = ((M 7 1).toInt + 1) from e55) (by omega)
          exact ih.2.2.2.2 _ _ _ hB53 trivial (by omega)
      · skip
        intro v4 M JM hB hi hm
        have i_v4 := i32 v4
        refine sg_X3_readStep_149 hc _ _ _ _ _ _ ?_
        refine ⟨fun c56 => ?_, fun c56 => ?_⟩
        · skip
          have d57 : ¬ ((v4.toInt) : Int) = (15) := ci_ne rfl rfl c56
          refine sp_X3_readAct hB hR0 ho1 ho2 (fun x58 y63 I59 J60 hB61 p62 => ?_)
          intro o64
          have i65 := i32 x58
          refine ⟨fun c66 => ?_, fun c66 => ?_⟩
          · skip
            have d67 : ((x58.toInt) : Int) = (0) := ci_eq rfl rfl c66
            refine ⟨Or.inl rfl, ?_⟩
            exact hQ _ _ _ _ hB61 trivial
          · skip
            have d68 : ¬ ((x58.toInt) : Int) = (0) := ci_ne rfl rfl c66
            refine sp_X6_takeSemicolon hB61 hR0 (fun x69 y74 I70 J71 hB72 p73 => ?_)
            intro o75
            have i76 := i32 x69
            refine ⟨fun c77 => ?_, fun c77 => ?_⟩
            · skip
              have d78 : ((x69.toInt) : Int) = (0) := ci_eq rfl rfl c77
              refine ⟨Or.inl rfl, ?_⟩
              exact hQ _ _ _ _ hB72 trivial
            · skip
              have d79 : ¬ ((x69.toInt) : Int) = (0) := ci_ne rfl rfl c77
              refine ⟨Or.inr rfl, ?_⟩
              exact hQ _ _ _ _ hB72 trivial
        · skip
          have d80 : ((v4.toInt) : Int) = (15) := ci_eq rfl rfl c56
          refine sp_X3_readTest hB hR0 ho1 ho2 (fun x81 y86 I82 J83 hB84 p85 => ?_)
          intro o87
          have i88 := i32 x81
          refine ⟨fun c89 => ?_, fun c89 => ?_⟩
          · skip
            have d90 : ((x81.toInt) : Int) = (0) := ci_eq rfl rfl c89
            refine ⟨Or.inl rfl, ?_⟩
            exact hQ _ _ _ _ hB84 trivial
          · skip
            have d91 : ¬ ((x81.toInt) : Int) = (0) := ci_ne rfl rfl c89
            refine sp_X6_takeSemicolon hB84 hR0 (fun x92 y97 I93 J94 hB95 p96 => ?_)
            intro o98
            have i99 := i32 x92
            refine ⟨fun c100 => ?_, fun c100 => ?_⟩
            · skip
              have d101 : ((x92.toInt) : Int) = (0) := ci_eq rfl rfl c100
              refine ⟨Or.inl rfl, ?_⟩
              exact hQ _ _ _ _ hB95 trivial
            · skip
              have d102 : ¬ ((x92.toInt) : Int) = (0) := ci_ne rfl rfl c100
              refine ⟨Or.inr rfl, ?_⟩
              exact hQ _ _ _ _ hB95 trivial
  refine sg_X3_readStep_0 hc _ _ _ _ _ ?_
  refine ⟨fun c103 => ?_, fun c103 => ?_⟩
  · skip
    have d104 : (((I 3 9).toInt) : Int) = (15) := ci_eq rfl rfl c103
    exact (L 1000000).1 _ _ _ hB0 trivial (by omega)
  · skip
    have d105 : ¬ (((I 3 9).toInt) : Int) = (15) := ci_ne rfl rfl c103
    refine ⟨fun c106 => ?_, fun c106 => ?_⟩
    · skip
      have d107 : ¬ (((I 3 9).toInt) : Int) = (19) := ci_ne rfl rfl c106
      refine ⟨fun c108 => ?_, fun c108 => ?_⟩
      · exact absurd c108 (by decide)
      · skip
        refine ⟨fun c109 => ?_, fun c109 => ?_⟩
        · skip
          have d110 : (((I 3 9).toInt) : Int) = (21) := ci_eq rfl rfl c109
          exact (L 1000000).2.1 _ _ _ _ hB0 trivial (by omega)
        · skip
          have d111 : ¬ (((I 3 9).toInt) : Int) = (21) := ci_ne rfl rfl c109
          refine ⟨fun c112 => ?_, fun c112 => ?_⟩
          · skip
            have d113 : (((I 3 9).toInt) : Int) < (9) := ci_lt rfl rfl c112
            exact (L 1000000).2.2.1 _ _ _ _ hB0 trivial (by omega)
          · skip
            have d114 : ((9) : Int) ≤ ((I 3 9).toInt) := ci_nlt rfl rfl c112
            refine ⟨fun c115 => ?_, fun c115 => ?_⟩
            · skip
              have d116 : ((14) : Int) < ((I 3 9).toInt) := ci_lt rfl rfl c115
              exact (L 1000000).2.2.1 _ _ _ _ hB0 trivial (by omega)
            · skip
              have d117 : (((I 3 9).toInt) : Int) ≤ (14) := ci_nlt rfl rfl c115
              exact (L 1000000).2.1 _ _ _ _ hB0 trivial (by omega)
    · skip
      have d118 : (((I 3 9).toInt) : Int) = (19) := ci_eq rfl rfl c106
      exact (L 1000000).1 _ _ _ hB0 trivial (by omega)
set_option maxHeartbeats 2000000 in
theorem sp_X3_readInto {d : Nat} {Q : Qt} {v1 : Nat} {v2 : Nat} {I : Im} {J : Jm} {R : Rm} (hB0 : Bd I) (hR0 : RI R) (ho1 : isO 112 v1 2 = true) (ho2 : isO 112 v2 0 = true) (hQ : ∀ (x : Int32) (y : Int64) (I2 : Im) (J2 : Jm), Bd I2 → (True) → Q x y I2 J2 R) : AM (d + 7) 33 112 [.ref 7, .ref v1, .ref v2, .ref 3] I J R Q := by
  refine am_X3_readInto (fun P hc => ?_)
  have L : ∀ n : Nat, (∀ (v4 : Int32) (v5 : Int32) (M : Im) (JM : Jm), Bd M → (v4 = 0 ∨ v4 = 1) → (0 ≤ v5.toInt ∧ v5.toInt ≤ 900) → 1000 - v5.toInt < (n : Int) → P 15 112 [(0, .ref 7), (1, .ref v1), (2, .ref v2), (3, .ref 3), (4, .int v4), (5, .int v5)] [] M JM R) := by
    intro n
    induction n with
    | zero =>
      exact fun v4 v5 M J _ _ hi hm => absurd hm (by omega)
    | succ n ih =>
      intro v4 v5 M JM hB hb_v4 hi hm
      have i_v4 := i32 v4
      have i_v5 := i32 v5
      refine sg_X3_readInto_15 hc _ _ _ _ _ _ _ ?_
      refine ⟨fun c1 => ?_, fun c1 => ?_⟩
      · skip
        have d2 : ((900) : Int) ≤ (v5.toInt) := ci_le rfl rfl c1
        refine ⟨fun c3 => ?_, fun c3 => ?_⟩
        · skip
          have d4 : ((v4.toInt) : Int) = (0) := ci_eq rfl rfl c3
          refine bif_t ho1 ?_
          refine ⟨hb_v4, ?_⟩
          have hB5 : Bd (uI M v1 0 v4) := Bd.o1 hB ho1 (by decide) bd9_2_0 rfl (bl_ti (hb_v4))
          refine ⟨hb_v4, ?_⟩
          exact hQ _ _ _ _ hB5 trivial
        · skip
          have d6 : ¬ ((v4.toInt) : Int) = (0) := ci_ne rfl rfl c3
          refine ⟨fun c7 => ?_, fun c7 => ?_⟩
          · skip
            have b8 := Bd.o hB io9_112_7_3 bd9_3_1
            have d9 : (((M 7 1).toInt) : Int) ≤ (0) := ci_le rfl rfl c7
            refine bif_t ho1 ?_
            refine ⟨hb_v4, ?_⟩
            have hB10 : Bd (uI M v1 0 v4) := Bd.o1 hB ho1 (by decide) bd9_2_0 rfl (bl_ti (hb_v4))
            refine ⟨hb_v4, ?_⟩
            exact hQ _ _ _ _ hB10 trivial
          · skip
            have b11 := Bd.o hB io9_112_7_3 bd9_3_1
            have d12 : ((0) : Int) < ((M 7 1).toInt) := ci_nle rfl rfl c7
            refine w_X6_misplaced ?_
            refine ⟨fun c13 => ?_, fun c13 => ?_⟩
            · skip
              have d14 : ¬ (((M 3 8).toInt) : Int) = (4) := ci_ne rfl rfl c13
              refine w_X6_wrong ?_
              have hB15 : Bd (uI M 3 12 2) := Bd.o0 hB io9_112_3_6 (by decide) bd9_6_12
              have hB16 : Bd (uI (uI M 3 12 2) 3 13 (M 3 6)) := Bd.o0 hB15 io9_112_3_6 (by decide) bd9_6_13
              refine ⟨Or.inl rfl, ?_⟩
              intro o17
              refine ⟨Or.inl rfl, ?_⟩
              intro o18
              refine bif_t ho1 ?_
              refine ⟨Or.inl rfl, ?_⟩
              have hB19 : Bd (uI (uI (uI M 3 12 2) 3 13 (M 3 6)) v1 0 0) := Bd.o1 hB16 ho1 (by decide) bd9_2_0 rfl (bl_ti (Or.inl rfl))
              refine ⟨Or.inl rfl, ?_⟩
              exact hQ _ _ _ _ hB19 trivial
            · skip
              have d20 : (((M 3 8).toInt) : Int) = (4) := ci_eq rfl rfl c13
              refine w_X6_wrong ?_
              have hB21 : Bd (uI M 3 12 1) := Bd.o0 hB io9_112_3_6 (by decide) bd9_6_12
              have hB22 : Bd (uI (uI M 3 12 1) 3 13 (M 3 6)) := Bd.o0 hB21 io9_112_3_6 (by decide) bd9_6_13
              refine ⟨Or.inl rfl, ?_⟩
              intro o23
              refine ⟨Or.inl rfl, ?_⟩
              intro o24
              refine bif_t ho1 ?_
              refine ⟨Or.inl rfl, ?_⟩
              have hB25 : Bd (uI (uI (uI M 3 12 1) 3 13 (M 3 6)) v1 0 0) := Bd.o1 hB22 ho1 (by decide) bd9_2_0 rfl (bl_ti (Or.inl rfl))
              refine ⟨Or.inl rfl, ?_⟩
              exact hQ _ _ _ _ hB25 trivial
      · skip
        have d26 : ((v5.toInt) : Int) < (900) := ci_nle rfl rfl c1
        refine ⟨fun c27 => ?_, fun c27 => ?_⟩
        · skip
          have d28 : ((v4.toInt) : Int) = (0) := ci_eq rfl rfl c27
          refine ⟨fun c29 => ?_, fun c29 => ?_⟩
          · skip
            have d30 : ((v4.toInt) : Int) = (0) := ci_eq rfl rfl c29
            refine bif_t ho1 ?_
            refine ⟨hb_v4, ?_⟩
            have hB31 : Bd (uI M v1 0 v4) := Bd.o1 hB ho1 (by decide) bd9_2_0 rfl (bl_ti (hb_v4))
            refine ⟨hb_v4, ?_⟩
            exact hQ _ _ _ _ hB31 trivial
          · skip
            have d32 : ¬ ((v4.toInt) : Int) = (0) := ci_ne rfl rfl c29
            refine ⟨fun c33 => ?_, fun c33 => ?_⟩
            · skip
              have b34 := Bd.o hB io9_112_7_3 bd9_3_1
              have d35 : (((M 7 1).toInt) : Int) ≤ (0) := ci_le rfl rfl c33
              refine bif_t ho1 ?_
              refine ⟨hb_v4, ?_⟩
              have hB36 : Bd (uI M v1 0 v4) := Bd.o1 hB ho1 (by decide) bd9_2_0 rfl (bl_ti (hb_v4))
              refine ⟨hb_v4, ?_⟩
              exact hQ _ _ _ _ hB36 trivial
            · skip
              have b37 := Bd.o hB io9_112_7_3 bd9_3_1
              have d38 : ((0) : Int) < ((M 7 1).toInt) := ci_nle rfl rfl c33
              refine w_X6_misplaced ?_
              refine ⟨fun c39 => ?_, fun c39 => ?_⟩
              · skip
                have d40 : ¬ (((M 3 8).toInt) : Int) = (4) := ci_ne rfl rfl c39
                refine w_X6_wrong ?_
                have hB41 : Bd (uI M 3 12 2) := Bd.o0 hB io9_112_3_6 (by decide) bd9_6_12
                have hB42 : Bd (uI (uI M 3 12 2) 3 13 (M 3 6)) := Bd.o0 hB41 io9_112_3_6 (by decide) bd9_6_13
                refine ⟨Or.inl rfl, ?_⟩
                intro o43
                refine ⟨Or.inl rfl, ?_⟩
                intro o44
                refine bif_t ho1 ?_
                refine ⟨Or.inl rfl, ?_⟩
                have hB45 : Bd (uI (uI (uI M 3 12 2) 3 13 (M 3 6)) v1 0 0) := Bd.o1 hB42 ho1 (by decide) bd9_2_0 rfl (bl_ti (Or.inl rfl))
                refine ⟨Or.inl rfl, ?_⟩
                exact hQ _ _ _ _ hB45 trivial
              · skip
                have d46 : (((M 3 8).toInt) : Int) = (4) := ci_eq rfl rfl c39
                refine w_X6_wrong ?_
                have hB47 : Bd (uI M 3 12 1) := Bd.o0 hB io9_112_3_6 (by decide) bd9_6_12
                have hB48 : Bd (uI (uI M 3 12 1) 3 13 (M 3 6)) := Bd.o0 hB47 io9_112_3_6 (by decide) bd9_6_13
                refine ⟨Or.inl rfl, ?_⟩
                intro o49
                refine ⟨Or.inl rfl, ?_⟩
                intro o50
                refine bif_t ho1 ?_
                refine ⟨Or.inl rfl, ?_⟩
                have hB51 : Bd (uI (uI (uI M 3 12 1) 3 13 (M 3 6)) v1 0 0) := Bd.o1 hB48 ho1 (by decide) bd9_2_0 rfl (bl_ti (Or.inl rfl))
                refine ⟨Or.inl rfl, ?_⟩
                exact hQ _ _ _ _ hB51 trivial
        · skip
          have d52 : ¬ ((v4.toInt) : Int) = (0) := ci_ne rfl rfl c27
          refine ⟨fun c53 => ?_, fun c53 => ?_⟩
          · skip
            have d54 : (((M 3 8).toInt) : Int) = (0) := ci_eq rfl rfl c53
            refine ⟨fun c55 => ?_, fun c55 => ?_⟩
            · skip
              have d56 : ((v4.toInt) : Int) = (0) := ci_eq rfl rfl c55
              refine bif_t ho1 ?_
              refine ⟨hb_v4, ?_⟩
              have hB57 : Bd (uI M v1 0 v4) := Bd.o1 hB ho1 (by decide) bd9_2_0 rfl (bl_ti (hb_v4))
              refine ⟨hb_v4, ?_⟩
              exact hQ _ _ _ _ hB57 trivial
            · skip
              have d58 : ¬ ((v4.toInt) : Int) = (0) := ci_ne rfl rfl c55
              refine ⟨fun c59 => ?_, fun c59 => ?_⟩
              · skip
                have b60 := Bd.o hB io9_112_7_3 bd9_3_1
                have d61 : (((M 7 1).toInt) : Int) ≤ (0) := ci_le rfl rfl c59
                refine bif_t ho1 ?_
                refine ⟨hb_v4, ?_⟩
                have hB62 : Bd (uI M v1 0 v4) := Bd.o1 hB ho1 (by decide) bd9_2_0 rfl (bl_ti (hb_v4))
                refine ⟨hb_v4, ?_⟩
                exact hQ _ _ _ _ hB62 trivial
              · skip
                have b63 := Bd.o hB io9_112_7_3 bd9_3_1
                have d64 : ((0) : Int) < ((M 7 1).toInt) := ci_nle rfl rfl c59
                refine w_X6_misplaced ?_
                refine ⟨fun c65 => ?_, fun c65 => ?_⟩
                · skip
                  have d66 : ¬ (((M 3 8).toInt) : Int) = (4) := ci_ne rfl rfl c65
                  refine w_X6_wrong ?_
                  have hB67 : Bd (uI M 3 12 2) := Bd.o0 hB io9_112_3_6 (by decide) bd9_6_12
                  have hB68 : Bd (uI (uI M 3 12 2) 3 13 (M 3 6)) := Bd.o0 hB67 io9_112_3_6 (by decide) bd9_6_13
                  refine ⟨Or.inl rfl, ?_⟩
                  intro o69
                  refine ⟨Or.inl rfl, ?_⟩
                  intro o70
                  refine bif_t ho1 ?_
                  refine ⟨Or.inl rfl, ?_⟩
                  have hB71 : Bd (uI (uI (uI M 3 12 2) 3 13 (M 3 6)) v1 0 0) := Bd.o1 hB68 ho1 (by decide) bd9_2_0 rfl (bl_ti (Or.inl rfl))
                  refine ⟨Or.inl rfl, ?_⟩
                  exact hQ _ _ _ _ hB71 trivial
                · skip
                  have d72 : (((M 3 8).toInt) : Int) = (4) := ci_eq rfl rfl c65
                  refine w_X6_wrong ?_
                  have hB73 : Bd (uI M 3 12 1) := Bd.o0 hB io9_112_3_6 (by decide) bd9_6_12
                  have hB74 : Bd (uI (uI M 3 12 1) 3 13 (M 3 6)) := Bd.o0 hB73 io9_112_3_6 (by decide) bd9_6_13
                  refine ⟨Or.inl rfl, ?_⟩
                  intro o75
                  refine ⟨Or.inl rfl, ?_⟩
                  intro o76
                  refine bif_t ho1 ?_
                  refine ⟨Or.inl rfl, ?_⟩
                  have hB77 : Bd (uI (uI (uI M 3 12 1) 3 13 (M 3 6)) v1 0 0) := Bd.o1 hB74 ho1 (by decide) bd9_2_0 rfl (bl_ti (Or.inl rfl))
                  refine ⟨Or.inl rfl, ?_⟩
                  exact hQ _ _ _ _ hB77 trivial
          · skip
            have d78 : ¬ (((M 3 8).toInt) : Int) = (0) := ci_ne rfl rfl c53
            refine ⟨fun c79 => ?_, fun c79 => ?_⟩
            · skip
              have d80 : ¬ (((M 3 9).toInt) : Int) = (20) := ci_ne rfl rfl c79
              refine sp_X3_readStep hB hR0 ho1 ho2 (fun x81 y86 I82 J83 hB84 p85 => ?_)
              intro o87
              have i88 := i32 x81
              have e89 : ((v5 + 1) : Int32).toInt = (v5.toInt) + (1) := ti_add rfl rfl (by omega)
              exact ih _ _ _ _ hB84 (o87) (by have q0 : ((v5 + 1) : Int32).toInt = (v5.toInt + 1) := e89; omega) (by have q0 : ((v5 + 1) : Int32).toInt = (v5.toInt + 1) := e89; omega)
            · skip
              have d90 : (((M 3 9).toInt) : Int) = (20) := ci_eq rfl rfl c79
              refine sp_X3_readEnd hB hR0 ho1 (fun x91 y96 I92 J93 hB94 p95 => ?_)
              intro o97
              have i98 := i32 x91
              have e99 : ((v5 + 1) : Int32).toInt = (v5.toInt) + (1) := ti_add rfl rfl (by omega)
              exact ih _ _ _ _ hB94 (o97) (by have q0 : ((v5 + 1) : Int32).toInt = (v5.toInt + 1) := e99; omega) (by have q0 : ((v5 + 1) : Int32).toInt = (v5.toInt + 1) := e99; omega)
  refine sg_X3_readInto_0 hc _ _ _ _ _ ?_
  refine bif_t ho1 ?_
  refine sp_X2_forget hB0 hR0 ho1 (fun x100 y105 I101 J102 hB103 p104 => ?_)
  have hB106 : Bd (uI I101 7 1 0) := Bd.o1 hB103 io9_112_7_3 (by decide) bd9_3_1 (show (0 : Int32).toInt = 0 from rfl) (by omega)
  exact (L 1000000) _ _ _ _ hB106 (Or.inr rfl) (by have q0 : (0 : Int32).toInt = 0 := rfl; omega) (by have q0 : (0 : Int32).toInt = 0 := rfl; omega)
set_option maxHeartbeats 2000000 in
theorem sp_X4_draw {d : Nat} {Q : Qt} {v0 : Nat} {v1 : Int32} {I : Im} {J : Jm} {R : Rm} (hB0 : Bd I) (hR0 : RI R) (ho0 : isO 112 v0 4 = true) (hQ : ∀ (x : Int32) (y : Int64) (I2 : Im) (J2 : Jm), Bd I2 → (True) → Q x y I2 J2 R) : AM (d + 1) 52 112 [.ref v0, .int v1] I J R Q := by
  have i_v1 := i32 v1
  refine w_X4_draw ?_
  refine bif_t ho0 ?_
  refine ⟨by decide, ?_⟩
  refine bif_t ho0 ?_
  have hB1 : Bd (uI I v0 7 ((((I v0 7) * 2971) + 10993) - (((I v0 7) * 2971) + 10993) / 65536 * 65536)) := Bd.o0 hB0 ho0 (by decide) bd9_4_7
  refine ⟨fun c2 => ?_, fun c2 => ?_⟩
  · skip
    have d3 : ((1) : Int) ≤ (v1.toInt) := ci_le rfl rfl c2
    refine bif_t ho0 ?_
    refine ⟨by decide, ?_⟩
    refine ⟨(fun z => by have z2 : (v1.toInt : Int) = 0 := ci_eq rfl rfl z; omega), ?_⟩
    exact hQ _ _ _ _ hB1 trivial
  · skip
    have d4 : ((v1.toInt) : Int) < (1) := ci_nle rfl rfl c2
    exact hQ _ _ _ _ hB1 trivial
set_option maxHeartbeats 2000000 in
theorem sp_X4_cutUp {d : Nat} {Q : Qt} {v0 : Nat} {v1 : Nat} {v2 : Int32} {v3 : Int32} {v4 : Int32} {I : Im} {J : Jm} {R : Rm} (hB0 : Bd I) (hR0 : RI R) (ho0 : isO 112 v0 4 = true) (ho1 : isO 112 v1 0 = true) (hQ : ∀ (x : Int32) (y : Int64) (I2 : Im) (J2 : Jm), Bd I2 → (True) → Q x y I2 J2 R) : AM (d + 3) 48 112 [.ref v0, .ref v1, .int v2, .int v3, .int v4] I J R Q := by
  have i_v2 := i32 v2
  have i_v3 := i32 v3
  have i_v4 := i32 v4
  refine w_X4_cutUp ?_
  refine bif_t ho1 ?_
  refine sp_X0_cutUp hB0 hR0 ho1 (fun x1 y6 I2 J3 hB4 p5 => ?_)
  have i7 := i32 x1
  refine ⟨fun c8 => ?_, fun c8 => ?_⟩
  · skip
    have d9 : ¬ ((x1.toInt) : Int) = (0) := ci_ne rfl rfl c8
    refine bif_t ho0 ?_
    refine ⟨fun c10 => ?_, fun c10 => ?_⟩
    · skip
      refine bif_t ho0 ?_
      have hB11 : Bd (uI I2 v0 3 ((I2 v0 3) + 0)) := Bd.o0 hB4 ho0 (by decide) bd9_4_3
      refine ⟨Or.inl rfl, ?_⟩
      exact hQ _ _ _ _ hB11 trivial
    · exact absurd c10 (by decide)
  · skip
    have d12 : ((x1.toInt) : Int) = (0) := ci_eq rfl rfl c8
    refine bif_t ho0 ?_
    refine ⟨fun c13 => ?_, fun c13 => ?_⟩
    · exact absurd c13 (by decide)
    · skip
      refine bif_t ho0 ?_
      have hB14 : Bd (uI I2 v0 3 ((I2 v0 3) + 1)) := Bd.o0 hB4 ho0 (by decide) bd9_4_3
      refine ⟨Or.inr rfl, ?_⟩
      exact hQ _ _ _ _ hB14 trivial
set_option maxHeartbeats 2000000 in
theorem sp_X4_splitUp {d : Nat} {Q : Qt} {v0 : Nat} {v1 : Nat} {v2 : Int32} {v3 : Int32} {I : Im} {J : Jm} {R : Rm} (hB0 : Bd I) (hR0 : RI R) (ho0 : isO 112 v0 4 = true) (ho1 : isO 112 v1 0 = true) (hQ : ∀ (x : Int32) (y : Int64) (I2 : Im) (J2 : Jm), Bd I2 → (True) → Q x y I2 J2 R) : AM (d + 3) 49 112 [.ref v0, .ref v1, .int v2, .int v3] I J R Q := by
  have i_v2 := i32 v2
  have i_v3 := i32 v3
  refine w_X4_splitUp ?_
  refine bif_t ho1 ?_
  refine sp_X0_splitUp hB0 hR0 ho1 (fun x1 y6 I2 J3 hB4 p5 => ?_)
  have i7 := i32 x1
  refine ⟨fun c8 => ?_, fun c8 => ?_⟩
  · skip
    have d9 : ¬ ((x1.toInt) : Int) = (0) := ci_ne rfl rfl c8
    refine bif_t ho0 ?_
    refine ⟨fun c10 => ?_, fun c10 => ?_⟩
    · skip
      refine bif_t ho0 ?_
      have hB11 : Bd (uI I2 v0 3 ((I2 v0 3) + 0)) := Bd.o0 hB4 ho0 (by decide) bd9_4_3
      refine ⟨Or.inl rfl, ?_⟩
      exact hQ _ _ _ _ hB11 trivial
    · exact absurd c10 (by decide)
  · skip
    have d12 : ((x1.toInt) : Int) = (0) := ci_eq rfl rfl c8
    refine bif_t ho0 ?_
    refine ⟨fun c13 => ?_, fun c13 => ?_⟩
    · exact absurd c13 (by decide)
    · skip
      refine bif_t ho0 ?_
      have hB14 : Bd (uI I2 v0 3 ((I2 v0 3) + 1)) := Bd.o0 hB4 ho0 (by decide) bd9_4_3
      refine ⟨Or.inr rfl, ?_⟩
      exact hQ _ _ _ _ hB14 trivial
set_option maxHeartbeats 2000000 in
theorem sp_X4_handOver {d : Nat} {Q : Qt} {v0 : Nat} {v1 : Nat} {v2 : Int32} {v3 : Int32} {I : Im} {J : Jm} {R : Rm} (hB0 : Bd I) (hR0 : RI R) (ho0 : isO 112 v0 4 = true) (ho1 : isO 112 v1 0 = true) (hQ : ∀ (x : Int32) (y : Int64) (I2 : Im) (J2 : Jm), Bd I2 → (True) → Q x y I2 J2 R) : AM (d + 3) 50 112 [.ref v0, .ref v1, .int v2, .int v3] I J R Q := by
  have i_v2 := i32 v2
  have i_v3 := i32 v3
  refine w_X4_handOver ?_
  refine bif_t ho1 ?_
  refine sp_X0_handOver hB0 hR0 ho1 (fun x1 y6 I2 J3 hB4 p5 => ?_)
  have i7 := i32 x1
  refine ⟨fun c8 => ?_, fun c8 => ?_⟩
  · skip
    have d9 : ¬ ((x1.toInt) : Int) = (0) := ci_ne rfl rfl c8
    refine bif_t ho0 ?_
    refine ⟨fun c10 => ?_, fun c10 => ?_⟩
    · skip
      refine bif_t ho0 ?_
      have hB11 : Bd (uI I2 v0 4 ((I2 v0 4) + 0)) := Bd.o0 hB4 ho0 (by decide) bd9_4_4
      refine ⟨Or.inl rfl, ?_⟩
      exact hQ _ _ _ _ hB11 trivial
    · exact absurd c10 (by decide)
  · skip
    have d12 : ((x1.toInt) : Int) = (0) := ci_eq rfl rfl c8
    refine bif_t ho0 ?_
    refine ⟨fun c13 => ?_, fun c13 => ?_⟩
    · exact absurd c13 (by decide)
    · skip
      refine bif_t ho0 ?_
      have hB14 : Bd (uI I2 v0 4 ((I2 v0 4) + 1)) := Bd.o0 hB4 ho0 (by decide) bd9_4_4
      refine ⟨Or.inr rfl, ?_⟩
      exact hQ _ _ _ _ hB14 trivial
set_option maxHeartbeats 2000000 in
theorem sp_X4_addLoaves {d : Nat} {Q : Qt} {v0 : Nat} {v1 : Nat} {v2 : Int32} {I : Im} {J : Jm} {R : Rm} (hB0 : Bd I) (hR0 : RI R) (ho0 : isO 112 v0 4 = true) (ho1 : isO 112 v1 0 = true) (hQ : ∀ (x : Int32) (y : Int64) (I2 : Im) (J2 : Jm), Bd I2 → (True) → Q x y I2 J2 R) : AM (d + 2) 51 112 [.ref v0, .ref v1, .int v2] I J R Q := by
  have i_v2 := i32 v2
  refine w_X4_addLoaves ?_
  refine bif_t ho1 ?_
  refine sp_X0_addLoaves hB0 hR0 ho1 (fun x1 y6 I2 J3 hB4 p5 => ?_)
  have i7 := i32 x1
  refine ⟨fun c8 => ?_, fun c8 => ?_⟩
  · skip
    have d9 : ¬ ((x1.toInt) : Int) = (0) := ci_ne rfl rfl c8
    refine bif_t ho0 ?_
    refine ⟨fun c10 => ?_, fun c10 => ?_⟩
    · skip
      refine bif_t ho0 ?_
      have hB11 : Bd (uI I2 v0 5 ((I2 v0 5) + 0)) := Bd.o0 hB4 ho0 (by decide) bd9_4_5
      refine ⟨Or.inl rfl, ?_⟩
      exact hQ _ _ _ _ hB11 trivial
    · exact absurd c10 (by decide)
  · skip
    have d12 : ((x1.toInt) : Int) = (0) := ci_eq rfl rfl c8
    refine bif_t ho0 ?_
    refine ⟨fun c13 => ?_, fun c13 => ?_⟩
    · exact absurd c13 (by decide)
    · skip
      refine bif_t ho0 ?_
      have hB14 : Bd (uI I2 v0 5 ((I2 v0 5) + v2)) := Bd.o0 hB4 ho0 (by decide) bd9_4_5
      refine ⟨Or.inr rfl, ?_⟩
      exact hQ _ _ _ _ hB14 trivial
set_option maxHeartbeats 2000000 in
theorem sp_X4_doAny {d : Nat} {Q : Qt} {v0 : Nat} {v1 : Nat} {I : Im} {J : Jm} {R : Rm} (hB0 : Bd I) (hR0 : RI R) (ho0 : isO 112 v0 4 = true) (ho1 : isO 112 v1 0 = true) (hQ : ∀ (x : Int32) (y : Int64) (I2 : Im) (J2 : Jm), Bd I2 → (True) → Q x y I2 J2 R) : AM (d + 4) 47 112 [.ref v0, .ref v1] I J R Q := by
  refine w_X4_doAny ?_
  refine bif_t ho1 ?_
  refine ⟨fun c1 => ?_, fun c1 => ?_⟩
  · skip
    have b2 := Bd.o hB0 ho1 bd9_0_4
    have d3 : ((1) : Int) ≤ ((I v1 4).toInt) := ci_le rfl rfl c1
    refine bif_t ho1 ?_
    refine bif_t ho0 ?_
    refine sp_X4_draw hB0 hR0 ho0 (fun x4 y9 I5 J6 hB7 p8 => ?_)
    have i10 := i32 x4
    refine bif_t ho0 ?_
    refine sp_X4_draw hB7 hR0 ho0 (fun x11 y16 I12 J13 hB14 p15 => ?_)
    have i17 := i32 x11
    refine bif_t ho0 ?_
    refine sp_X4_draw hB14 hR0 ho0 (fun x18 y23 I19 J20 hB21 p22 => ?_)
    have i24 := i32 x18
    refine bif_t ho1 ?_
    refine ⟨fun c25 => ?_, fun c25 => ?_⟩
    · skip
      have d26 : (((I19 v1 1).toInt) : Int) ≤ (x18.toInt) := ci_le rfl rfl c25
      refine bif_t ho0 ?_
      refine sp_X4_handOver hB21 hR0 ho0 ho1 (fun x27 y32 I28 J29 hB30 p31 => ?_)
      intro o33
      have i34 := i32 x27
      refine ⟨o33, ?_⟩
      exact hQ _ _ _ _ hB30 trivial
    · skip
      have d35 : ((x18.toInt) : Int) < ((I19 v1 1).toInt) := ci_nle rfl rfl c25
      refine bif_t ho0 ?_
      refine sp_X4_splitUp hB21 hR0 ho0 ho1 (fun x36 y41 I37 J38 hB39 p40 => ?_)
      intro o42
      have i43 := i32 x36
      refine ⟨o42, ?_⟩
      exact hQ _ _ _ _ hB39 trivial
  · skip
    have b44 := Bd.o hB0 ho1 bd9_0_4
    have d45 : (((I v1 4).toInt) : Int) < (1) := ci_nle rfl rfl c1
    refine ⟨Or.inl rfl, ?_⟩
    exact hQ _ _ _ _ hB0 trivial
set_option maxHeartbeats 2000000 in
theorem sp_X4_holdsTrue {d : Nat} {Q : Qt} {v0 : Nat} {v1 : Nat} {v2 : Int32} {I : Im} {J : Jm} {R : Rm} (hB0 : Bd I) (hR0 : RI R) (ho0 : isO 112 v0 0 = true) (ho1 : isO 112 v1 2 = true) (hv2 : 0 ≤ v2.toInt ∧ v2.toInt ≤ 59) (hQ : ∀ (x : Int32) (y : Int64) (I2 : Im) (J2 : Jm), Bd I2 → (True) → Q x y I2 J2 R) : AM (d + 4) 44 112 [.ref v0, .ref v1, .int v2] I J R Q := by
  have i_v2 := i32 v2
  refine w_X4_holdsTrue ?_
  refine bif_t ho1 ?_
  refine bif_t (fa_2_4 ho1).1 ?_
  refine ⟨by rw [(fa_2_4 ho1).2.1]; exact vp_of (a := v2.toInt) rfl (by omega) (by omega), ?_⟩
  refine bif_t ho1 ?_
  refine bif_t (fa_2_6 ho1).1 ?_
  refine ⟨by rw [(fa_2_6 ho1).2.1]; exact vp_of (a := v2.toInt) rfl (by omega) (by omega), ?_⟩
  refine bif_t ho1 ?_
  refine bif_t (fa_2_3 ho1).1 ?_
  refine ⟨by rw [(fa_2_3 ho1).2.1]; exact vp_of (a := v2.toInt) rfl (by omega) (by omega), ?_⟩
  refine ⟨fun c1 => ?_, fun c1 => ?_⟩
  · skip
    have d2 : (((I (v1 + 1) (Int32.toNatClampNeg v2)).toInt) : Int) = (16) := ci_eq rfl rfl c1
    refine bif_t ho0 ?_
    refine w_X0_isMan ?_
    refine ⟨fun c3 => ?_, fun c3 => ?_⟩
    · skip
      have d4 : (((I (v1 + 2) (Int32.toNatClampNeg v2)).toInt) : Int) < (0) := ci_lt rfl rfl c3
      refine ⟨Or.inl rfl, ?_⟩
      intro o5
      refine ⟨fun c6 => ?_, fun c6 => ?_⟩
      · skip
        refine ⟨Or.inl rfl, ?_⟩
        exact hQ _ _ _ _ hB0 trivial
      · exact absurd c6 (by decide)
    · skip
      have d7 : ((0) : Int) ≤ ((I (v1 + 2) (Int32.toNatClampNeg v2)).toInt) := ci_nlt rfl rfl c3
      refine bif_t ho0 ?_
      refine ⟨fun c8 => ?_, fun c8 => ?_⟩
      · skip
        have b9 := Bd.o hB0 ho0 bd9_0_4
        have d10 : (((I v0 4).toInt) : Int) ≤ ((I (v1 + 2) (Int32.toNatClampNeg v2)).toInt) := ci_le rfl rfl c8
        refine ⟨Or.inl rfl, ?_⟩
        intro o11
        refine ⟨fun c12 => ?_, fun c12 => ?_⟩
        · skip
          refine ⟨Or.inl rfl, ?_⟩
          exact hQ _ _ _ _ hB0 trivial
        · exact absurd c12 (by decide)
      · skip
        have b13 := Bd.o hB0 ho0 bd9_0_4
        have d14 : (((I (v1 + 2) (Int32.toNatClampNeg v2)).toInt) : Int) < ((I v0 4).toInt) := ci_nle rfl rfl c8
        refine ⟨Or.inr rfl, ?_⟩
        intro o15
        refine ⟨fun c16 => ?_, fun c16 => ?_⟩
        · exact absurd c16 (by decide)
        · skip
          refine bif_t ho0 ?_
          refine sp_X0_lacking hB0 hR0 ho0 (by have z : ((I (v1 + 2) (Int32.toNatClampNeg v2)) : Int32).toInt = (I (v1 + 2) (Int32.toNatClampNeg v2)).toInt := rfl; omega) (fun x17 y22 I18 J19 hB20 p21 => ?_)
          refine ⟨fun c23 => ?_, fun c23 => ?_⟩
          · skip
            rw [lg_cmp_eq] at c23
            have d24 : ¬ (((y22 : Int64).toInt) : Int) = (0) := cl_ne rfl rfl c23
            refine ⟨Or.inl rfl, ?_⟩
            exact hQ _ _ _ _ hB20 trivial
          · skip
            rw [lg_cmp_eq] at c23
            have d25 : (((y22 : Int64).toInt) : Int) = (0) := cl_eq rfl rfl c23
            refine ⟨Or.inr rfl, ?_⟩
            exact hQ _ _ _ _ hB20 trivial
  · skip
    have d26 : ¬ (((I (v1 + 1) (Int32.toNatClampNeg v2)).toInt) : Int) = (16) := ci_ne rfl rfl c1
    refine ⟨fun c27 => ?_, fun c27 => ?_⟩
    · skip
      have d28 : (((I (v1 + 1) (Int32.toNatClampNeg v2)).toInt) : Int) = (17) := ci_eq rfl rfl c27
      refine w_X11_isSlice ?_
      refine ⟨fun c29 => ?_, fun c29 => ?_⟩
      · skip
        have d30 : (((I (v1 + 2) (Int32.toNatClampNeg v2)).toInt) : Int) < (1) := ci_lt rfl rfl c29
        refine ⟨Or.inl rfl, ?_⟩
        intro o31
        refine ⟨fun c32 => ?_, fun c32 => ?_⟩
        · skip
          refine ⟨Or.inl rfl, ?_⟩
          exact hQ _ _ _ _ hB0 trivial
        · exact absurd c32 (by decide)
      · skip
        have d33 : ((1) : Int) ≤ ((I (v1 + 2) (Int32.toNatClampNeg v2)).toInt) := ci_nlt rfl rfl c29
        refine ⟨fun c34 => ?_, fun c34 => ?_⟩
        · skip
          have d35 : ((30) : Int) < ((I (v1 + 2) (Int32.toNatClampNeg v2)).toInt) := ci_lt rfl rfl c34
          refine ⟨Or.inl rfl, ?_⟩
          intro o36
          refine ⟨fun c37 => ?_, fun c37 => ?_⟩
          · skip
            refine ⟨Or.inl rfl, ?_⟩
            exact hQ _ _ _ _ hB0 trivial
          · exact absurd c37 (by decide)
        · skip
          have d38 : (((I (v1 + 2) (Int32.toNatClampNeg v2)).toInt) : Int) ≤ (30) := ci_nlt rfl rfl c34
          refine ⟨Or.inr rfl, ?_⟩
          intro o39
          refine ⟨fun c40 => ?_, fun c40 => ?_⟩
          · exact absurd c40 (by decide)
          · skip
            refine bif_t ho0 ?_
            refine bif_t (fa_0_0 ho0).1 ?_
            refine ⟨by rw [(fa_0_0 ho0).2.1]; exact vp_of (a := (I (v1 + 2) (Int32.toNatClampNeg v2)).toInt) rfl (by omega) (by omega), ?_⟩
            refine bif_t ho1 ?_
            refine bif_t (fa_2_5 ho1).1 ?_
            refine ⟨by rw [(fa_2_5 ho1).2.1]; exact vp_of (a := v2.toInt) rfl (by omega) (by omega), ?_⟩
            refine w_X4_compares ?_
            refine ⟨fun c41 => ?_, fun c41 => ?_⟩
            · skip
              have d42 : ¬ (((I (v1 + 3) (Int32.toNatClampNeg v2)).toInt) : Int) = (60) := ci_ne rfl rfl c41
              refine ⟨fun c43 => ?_, fun c43 => ?_⟩
              · skip
                have d44 : ¬ (((I (v1 + 3) (Int32.toNatClampNeg v2)).toInt) : Int) = (62) := ci_ne rfl rfl c43
                refine ⟨fun c45 => ?_, fun c45 => ?_⟩
                · skip
                  rw [lg_cmp_eq] at c45
                  have i46 := i32 ((I (v0 + 1) (Int32.toNatClampNeg (I (v1 + 2) (Int32.toNatClampNeg v2)))))
                  have i47 := i32 ((I (v1 + 4) (Int32.toNatClampNeg v2)))
                  have d48 : ¬ (((I (v0 + 1) (Int32.toNatClampNeg (I (v1 + 2) (Int32.toNatClampNeg v2)))).toInt) : Int) = ((I (v1 + 4) (Int32.toNatClampNeg v2)).toInt) := cl_ne (tl_i2l rfl) (tl_i2l rfl) c45
                  refine ⟨Or.inl rfl, ?_⟩
                  intro o49
                  refine ⟨fun c50 => ?_, fun c50 => ?_⟩
                  · skip
                    refine ⟨Or.inl rfl, ?_⟩
                    exact hQ _ _ _ _ hB0 trivial
                  · exact absurd c50 (by decide)
                · skip
                  rw [lg_cmp_eq] at c45
                  have i51 := i32 ((I (v0 + 1) (Int32.toNatClampNeg (I (v1 + 2) (Int32.toNatClampNeg v2)))))
                  have i52 := i32 ((I (v1 + 4) (Int32.toNatClampNeg v2)))
                  have d53 : (((I (v0 + 1) (Int32.toNatClampNeg (I (v1 + 2) (Int32.toNatClampNeg v2)))).toInt) : Int) = ((I (v1 + 4) (Int32.toNatClampNeg v2)).toInt) := cl_eq (tl_i2l rfl) (tl_i2l rfl) c45
                  refine ⟨Or.inr rfl, ?_⟩
                  intro o54
                  refine ⟨fun c55 => ?_, fun c55 => ?_⟩
                  · exact absurd c55 (by decide)
                  · skip
                    refine ⟨Or.inr rfl, ?_⟩
                    exact hQ _ _ _ _ hB0 trivial
              · skip
                have d56 : (((I (v1 + 3) (Int32.toNatClampNeg v2)).toInt) : Int) = (62) := ci_eq rfl rfl c43
                refine ⟨fun c57 => ?_, fun c57 => ?_⟩
                · skip
                  rw [lg_cmp_le] at c57
                  have i58 := i32 ((I (v0 + 1) (Int32.toNatClampNeg (I (v1 + 2) (Int32.toNatClampNeg v2)))))
                  have i59 := i32 ((I (v1 + 4) (Int32.toNatClampNeg v2)))
                  have d60 : (((I (v0 + 1) (Int32.toNatClampNeg (I (v1 + 2) (Int32.toNatClampNeg v2)))).toInt) : Int) ≤ ((I (v1 + 4) (Int32.toNatClampNeg v2)).toInt) := cl_le (tl_i2l rfl) (tl_i2l rfl) c57
                  refine ⟨Or.inl rfl, ?_⟩
                  intro o61
                  refine ⟨fun c62 => ?_, fun c62 => ?_⟩
                  · skip
                    refine ⟨Or.inl rfl, ?_⟩
                    exact hQ _ _ _ _ hB0 trivial
                  · exact absurd c62 (by decide)
                · skip
                  rw [lg_cmp_le] at c57
                  have i63 := i32 ((I (v0 + 1) (Int32.toNatClampNeg (I (v1 + 2) (Int32.toNatClampNeg v2)))))
                  have i64 := i32 ((I (v1 + 4) (Int32.toNatClampNeg v2)))
                  have d65 : (((I (v1 + 4) (Int32.toNatClampNeg v2)).toInt) : Int) < ((I (v0 + 1) (Int32.toNatClampNeg (I (v1 + 2) (Int32.toNatClampNeg v2)))).toInt) := cl_nle (tl_i2l rfl) (tl_i2l rfl) c57
                  refine ⟨Or.inr rfl, ?_⟩
                  intro o66
                  refine ⟨fun c67 => ?_, fun c67 => ?_⟩
                  · exact absurd c67 (by decide)
                  · skip
                    refine ⟨Or.inr rfl, ?_⟩
                    exact hQ _ _ _ _ hB0 trivial
            · skip
              have d68 : (((I (v1 + 3) (Int32.toNatClampNeg v2)).toInt) : Int) = (60) := ci_eq rfl rfl c41
              refine ⟨fun c69 => ?_, fun c69 => ?_⟩
              · skip
                rw [lg_cmp_ge] at c69
                have i70 := i32 ((I (v0 + 1) (Int32.toNatClampNeg (I (v1 + 2) (Int32.toNatClampNeg v2)))))
                have i71 := i32 ((I (v1 + 4) (Int32.toNatClampNeg v2)))
                have d72 : (((I (v1 + 4) (Int32.toNatClampNeg v2)).toInt) : Int) ≤ ((I (v0 + 1) (Int32.toNatClampNeg (I (v1 + 2) (Int32.toNatClampNeg v2)))).toInt) := cl_le (tl_i2l rfl) (tl_i2l rfl) c69
                refine ⟨Or.inl rfl, ?_⟩
                intro o73
                refine ⟨fun c74 => ?_, fun c74 => ?_⟩
                · skip
                  refine ⟨Or.inl rfl, ?_⟩
                  exact hQ _ _ _ _ hB0 trivial
                · exact absurd c74 (by decide)
              · skip
                rw [lg_cmp_ge] at c69
                have i75 := i32 ((I (v0 + 1) (Int32.toNatClampNeg (I (v1 + 2) (Int32.toNatClampNeg v2)))))
                have i76 := i32 ((I (v1 + 4) (Int32.toNatClampNeg v2)))
                have d77 : (((I (v0 + 1) (Int32.toNatClampNeg (I (v1 + 2) (Int32.toNatClampNeg v2)))).toInt) : Int) < ((I (v1 + 4) (Int32.toNatClampNeg v2)).toInt) := cl_nle (tl_i2l rfl) (tl_i2l rfl) c69
                refine ⟨Or.inr rfl, ?_⟩
                intro o78
                refine ⟨fun c79 => ?_, fun c79 => ?_⟩
                · exact absurd c79 (by decide)
                · skip
                  refine ⟨Or.inr rfl, ?_⟩
                  exact hQ _ _ _ _ hB0 trivial
    · skip
      have d80 : ¬ (((I (v1 + 1) (Int32.toNatClampNeg v2)).toInt) : Int) = (17) := ci_ne rfl rfl c27
      refine bif_t ho0 ?_
      refine w_X0_isMan ?_
      refine ⟨fun c81 => ?_, fun c81 => ?_⟩
      · skip
        have d82 : (((I (v1 + 2) (Int32.toNatClampNeg v2)).toInt) : Int) < (0) := ci_lt rfl rfl c81
        refine ⟨Or.inl rfl, ?_⟩
        intro o83
        refine ⟨fun c84 => ?_, fun c84 => ?_⟩
        · skip
          refine ⟨Or.inl rfl, ?_⟩
          exact hQ _ _ _ _ hB0 trivial
        · exact absurd c84 (by decide)
      · skip
        have d85 : ((0) : Int) ≤ ((I (v1 + 2) (Int32.toNatClampNeg v2)).toInt) := ci_nlt rfl rfl c81
        refine bif_t ho0 ?_
        refine ⟨fun c86 => ?_, fun c86 => ?_⟩
        · skip
          have b87 := Bd.o hB0 ho0 bd9_0_4
          have d88 : (((I v0 4).toInt) : Int) ≤ ((I (v1 + 2) (Int32.toNatClampNeg v2)).toInt) := ci_le rfl rfl c86
          refine ⟨Or.inl rfl, ?_⟩
          intro o89
          refine ⟨fun c90 => ?_, fun c90 => ?_⟩
          · skip
            refine ⟨Or.inl rfl, ?_⟩
            exact hQ _ _ _ _ hB0 trivial
          · exact absurd c90 (by decide)
        · skip
          have b91 := Bd.o hB0 ho0 bd9_0_4
          have d92 : (((I (v1 + 2) (Int32.toNatClampNeg v2)).toInt) : Int) < ((I v0 4).toInt) := ci_nle rfl rfl c86
          refine ⟨Or.inr rfl, ?_⟩
          intro o93
          refine ⟨fun c94 => ?_, fun c94 => ?_⟩
          · exact absurd c94 (by decide)
          · skip
            refine bif_t ho0 ?_
            refine sp_X0_lacking hB0 hR0 ho0 (by have z : ((I (v1 + 2) (Int32.toNatClampNeg v2)) : Int32).toInt = (I (v1 + 2) (Int32.toNatClampNeg v2)).toInt := rfl; omega) (fun x95 y100 I96 J97 hB98 p99 => ?_)
            refine bif_t ho1 ?_
            refine bif_t (fa_2_5 ho1).1 ?_
            refine ⟨by rw [(fa_2_5 ho1).2.1]; exact vp_of (a := v2.toInt) rfl (by omega) (by omega), ?_⟩
            refine w_X4_compares ?_
            refine ⟨fun c101 => ?_, fun c101 => ?_⟩
            · skip
              have d102 : ¬ (((I96 (v1 + 3) (Int32.toNatClampNeg v2)).toInt) : Int) = (60) := ci_ne rfl rfl c101
              refine ⟨fun c103 => ?_, fun c103 => ?_⟩
              · skip
                have d104 : ¬ (((I96 (v1 + 3) (Int32.toNatClampNeg v2)).toInt) : Int) = (62) := ci_ne rfl rfl c103
                refine ⟨fun c105 => ?_, fun c105 => ?_⟩
                · skip
                  rw [lg_cmp_eq] at c105
                  have d106 : ¬ (((y100 : Int64).toInt) : Int) = ((((Int32.toInt64 (I (v1 + 4) (Int32.toNatClampNeg v2))) * 2329089562800) : Int64).toInt) := cl_ne rfl rfl c105
                  refine ⟨Or.inl rfl, ?_⟩
                  intro o107
                  refine ⟨fun c108 => ?_, fun c108 => ?_⟩
                  · skip
                    refine ⟨Or.inl rfl, ?_⟩
                    exact hQ _ _ _ _ hB98 trivial
                  · exact absurd c108 (by decide)
                · skip
                  rw [lg_cmp_eq] at c105
                  have d109 : (((y100 : Int64).toInt) : Int) = ((((Int32.toInt64 (I (v1 + 4) (Int32.toNatClampNeg v2))) * 2329089562800) : Int64).toInt) := cl_eq rfl rfl c105
                  refine ⟨Or.inr rfl, ?_⟩
                  intro o110
                  refine ⟨fun c111 => ?_, fun c111 => ?_⟩
                  · exact absurd c111 (by decide)
                  · skip
                    refine ⟨Or.inr rfl, ?_⟩
                    exact hQ _ _ _ _ hB98 trivial
              · skip
                have d112 : (((I96 (v1 + 3) (Int32.toNatClampNeg v2)).toInt) : Int) = (62) := ci_eq rfl rfl c103
                refine ⟨fun c113 => ?_, fun c113 => ?_⟩
                · skip
                  rw [lg_cmp_le] at c113
                  have d114 : (((y100 : Int64).toInt) : Int) ≤ ((((Int32.toInt64 (I (v1 + 4) (Int32.toNatClampNeg v2))) * 2329089562800) : Int64).toInt) := cl_le rfl rfl c113
                  refine ⟨Or.inl rfl, ?_⟩
                  intro o115
                  refine ⟨fun c116 => ?_, fun c116 => ?_⟩
                  · skip
                    refine ⟨Or.inl rfl, ?_⟩
                    exact hQ _ _ _ _ hB98 trivial
                  · exact absurd c116 (by decide)
                · skip
                  rw [lg_cmp_le] at c113
                  have d117 : (((((Int32.toInt64 (I (v1 + 4) (Int32.toNatClampNeg v2))) * 2329089562800) : Int64).toInt) : Int) < ((y100 : Int64).toInt) := cl_nle rfl rfl c113
                  refine ⟨Or.inr rfl, ?_⟩
                  intro o118
                  refine ⟨fun c119 => ?_, fun c119 => ?_⟩
                  · exact absurd c119 (by decide)
                  · skip
                    refine ⟨Or.inr rfl, ?_⟩
                    exact hQ _ _ _ _ hB98 trivial
            · skip
              have d120 : (((I96 (v1 + 3) (Int32.toNatClampNeg v2)).toInt) : Int) = (60) := ci_eq rfl rfl c101
              refine ⟨fun c121 => ?_, fun c121 => ?_⟩
              · skip
                rw [lg_cmp_ge] at c121
                have d122 : (((((Int32.toInt64 (I (v1 + 4) (Int32.toNatClampNeg v2))) * 2329089562800) : Int64).toInt) : Int) ≤ ((y100 : Int64).toInt) := cl_le rfl rfl c121
                refine ⟨Or.inl rfl, ?_⟩
                intro o123
                refine ⟨fun c124 => ?_, fun c124 => ?_⟩
                · skip
                  refine ⟨Or.inl rfl, ?_⟩
                  exact hQ _ _ _ _ hB98 trivial
                · exact absurd c124 (by decide)
              · skip
                rw [lg_cmp_ge] at c121
                have d125 : (((y100 : Int64).toInt) : Int) < ((((Int32.toInt64 (I (v1 + 4) (Int32.toNatClampNeg v2))) * 2329089562800) : Int64).toInt) := cl_nle rfl rfl c121
                refine ⟨Or.inr rfl, ?_⟩
                intro o126
                refine ⟨fun c127 => ?_, fun c127 => ?_⟩
                · exact absurd c127 (by decide)
                · skip
                  refine ⟨Or.inr rfl, ?_⟩
                  exact hQ _ _ _ _ hB98 trivial
set_option maxHeartbeats 2000000 in
theorem sp_X4_act {d : Nat} {Q : Qt} {v0 : Nat} {v1 : Nat} {v2 : Nat} {v3 : Int32} {I : Im} {J : Jm} {R : Rm} (hB0 : Bd I) (hR0 : RI R) (ho0 : isO 112 v0 4 = true) (ho1 : isO 112 v1 0 = true) (ho2 : isO 112 v2 2 = true) (hv3 : 0 ≤ v3.toInt ∧ v3.toInt ≤ 59) (hQ : ∀ (x : Int32) (y : Int64) (I2 : Im) (J2 : Jm), Bd I2 → (True) → Q x y I2 J2 R) : AM (d + 4) 46 112 [.ref v0, .ref v1, .ref v2, .int v3] I J R Q := by
  have i_v3 := i32 v3
  refine w_X4_act ?_
  refine bif_t ho2 ?_
  refine bif_t (fa_2_4 ho2).1 ?_
  refine ⟨by rw [(fa_2_4 ho2).2.1]; exact vp_of (a := v3.toInt) rfl (by omega) (by omega), ?_⟩
  refine bif_t ho2 ?_
  refine bif_t (fa_2_5 ho2).1 ?_
  refine ⟨by rw [(fa_2_5 ho2).2.1]; exact vp_of (a := v3.toInt) rfl (by omega) (by omega), ?_⟩
  refine bif_t ho2 ?_
  refine bif_t (fa_2_3 ho2).1 ?_
  refine ⟨by rw [(fa_2_3 ho2).2.1]; exact vp_of (a := v3.toInt) rfl (by omega) (by omega), ?_⟩
  refine ⟨fun c1 => ?_, fun c1 => ?_⟩
  · skip
    have d2 : (((I (v2 + 1) (Int32.toNatClampNeg v3)).toInt) : Int) = (9) := ci_eq rfl rfl c1
    refine bif_t ho2 ?_
    refine bif_t (fa_2_6 ho2).1 ?_
    refine ⟨by rw [(fa_2_6 ho2).2.1]; exact vp_of (a := v3.toInt) rfl (by omega) (by omega), ?_⟩
    refine bif_t ho0 ?_
    refine sp_X4_cutUp hB0 hR0 ho0 ho1 (fun x3 y8 I4 J5 hB6 p7 => ?_)
    intro o9
    have i10 := i32 x3
    refine ⟨o9, ?_⟩
    exact hQ _ _ _ _ hB6 trivial
  · skip
    have d11 : ¬ (((I (v2 + 1) (Int32.toNatClampNeg v3)).toInt) : Int) = (9) := ci_ne rfl rfl c1
    refine ⟨fun c12 => ?_, fun c12 => ?_⟩
    · skip
      have d13 : (((I (v2 + 1) (Int32.toNatClampNeg v3)).toInt) : Int) = (10) := ci_eq rfl rfl c12
      refine bif_t ho0 ?_
      refine sp_X4_splitUp hB0 hR0 ho0 ho1 (fun x14 y19 I15 J16 hB17 p18 => ?_)
      intro o20
      have i21 := i32 x14
      refine ⟨o20, ?_⟩
      exact hQ _ _ _ _ hB17 trivial
    · skip
      have d22 : ¬ (((I (v2 + 1) (Int32.toNatClampNeg v3)).toInt) : Int) = (10) := ci_ne rfl rfl c12
      refine ⟨fun c23 => ?_, fun c23 => ?_⟩
      · skip
        have d24 : (((I (v2 + 1) (Int32.toNatClampNeg v3)).toInt) : Int) = (11) := ci_eq rfl rfl c23
        refine bif_t ho0 ?_
        refine sp_X4_handOver hB0 hR0 ho0 ho1 (fun x25 y30 I26 J27 hB28 p29 => ?_)
        intro o31
        have i32 := i32 x25
        refine ⟨o31, ?_⟩
        exact hQ _ _ _ _ hB28 trivial
      · skip
        have d33 : ¬ (((I (v2 + 1) (Int32.toNatClampNeg v3)).toInt) : Int) = (11) := ci_ne rfl rfl c23
        refine ⟨fun c34 => ?_, fun c34 => ?_⟩
        · skip
          have d35 : (((I (v2 + 1) (Int32.toNatClampNeg v3)).toInt) : Int) = (12) := ci_eq rfl rfl c34
          refine bif_t ho1 ?_
          refine sp_X0_handBack hB0 hR0 ho1 (fun x36 y41 I37 J38 hB39 p40 => ?_)
          have i42 := i32 x36
          refine ⟨fun c43 => ?_, fun c43 => ?_⟩
          · skip
            have d44 : ¬ ((x36.toInt) : Int) = (0) := ci_ne rfl rfl c43
            refine ⟨Or.inl rfl, ?_⟩
            exact hQ _ _ _ _ hB39 trivial
          · skip
            have d45 : ((x36.toInt) : Int) = (0) := ci_eq rfl rfl c43
            refine ⟨Or.inr rfl, ?_⟩
            exact hQ _ _ _ _ hB39 trivial
        · skip
          have d46 : ¬ (((I (v2 + 1) (Int32.toNatClampNeg v3)).toInt) : Int) = (12) := ci_ne rfl rfl c34
          refine bif_t ho0 ?_
          refine sp_X4_addLoaves hB0 hR0 ho0 ho1 (fun x47 y52 I48 J49 hB50 p51 => ?_)
          intro o53
          have i54 := i32 x47
          refine ⟨o53, ?_⟩
          exact hQ _ _ _ _ hB50 trivial
set_option maxHeartbeats 2000000 in
theorem sp_X4_behindEnd {d : Nat} {Q : Qt} {v0 : Nat} {v1 : Nat} {v2 : Int32} {I : Im} {J : Jm} {R : Rm} (hB0 : Bd I) (hR0 : RI R) (ho0 : isO 112 v0 4 = true) (ho1 : isO 112 v1 2 = true) (hv2 : 0 ≤ v2.toInt ∧ v2.toInt ≤ 59) (hQ : ∀ (x : Int32) (y : Int64) (I2 : Im) (J2 : Jm), Bd I2 → (True) → Q x y I2 J2 R) : AM (d + 1) 42 112 [.ref v0, .ref v1, .int v2] I J R Q := by
  have i_v2 := i32 v2
  refine am_X4_behindEnd (fun P hc => ?_)
  have L : ∀ n : Nat, (∀ (v3 : Int32) (M : Im) (JM : Jm), Bd M → (0 ≤ v2.toInt ∧ v2.toInt ≤ 59) → 1 < (n : Int) → P 20 112 [(0, .ref v0), (1, .ref v1), (2, .int v2), (3, .int v3)] [] M JM R) := by
    intro n
    induction n with
    | zero =>
      exact fun v3 M J _ hi hm => absurd hm (by omega)
    | succ n ih =>
      intro v3 M JM hB hi hm
      have i_v2 := i32 v2
      have i_v3 := i32 v3
      refine sg_X4_behindEnd_20 hc _ _ _ _ _ _ _ ?_
      refine ⟨fun c1 => ?_, fun c1 => ?_⟩
      · skip
        exact hQ _ _ _ _ hB trivial
      · exact absurd c1 (by decide)
  refine sg_X4_behindEnd_0 hc _ _ _ _ _ _ ?_
  refine bif_t ho1 ?_
  refine bif_t (fa_2_7 ho1).1 ?_
  refine ⟨by rw [(fa_2_7 ho1).2.1]; exact vp_of (a := v2.toInt) rfl (by omega) (by omega), ?_⟩
  refine ⟨fun c2 => ?_, fun c2 => ?_⟩
  · skip
    have d3 : (((I (v1 + 5) (Int32.toNatClampNeg v2)).toInt) : Int) < (0) := ci_lt rfl rfl c2
    exact (L 1000000) _ _ _ hB0 (by omega) (by omega)
  · skip
    have d4 : ((0) : Int) ≤ ((I (v1 + 5) (Int32.toNatClampNeg v2)).toInt) := ci_nlt rfl rfl c2
    refine ⟨fun c5 => ?_, fun c5 => ?_⟩
    · skip
      have d6 : ((v2.toInt) : Int) ≤ ((I (v1 + 5) (Int32.toNatClampNeg v2)).toInt) := ci_le rfl rfl c5
      exact (L 1000000) _ _ _ hB0 (by omega) (by omega)
    · skip
      have d7 : (((I (v1 + 5) (Int32.toNatClampNeg v2)).toInt) : Int) < (v2.toInt) := ci_nle rfl rfl c5
      refine ⟨fun c8 => ?_, fun c8 => ?_⟩
      · exact absurd c8 (by decide)
      · skip
        refine bif_t ho1 ?_
        refine bif_t (fa_2_3 ho1).1 ?_
        refine ⟨by rw [(fa_2_3 ho1).2.1]; exact vp_of (a := (I (v1 + 5) (Int32.toNatClampNeg v2)).toInt) rfl (by omega) (by omega), ?_⟩
        refine ⟨fun c9 => ?_, fun c9 => ?_⟩
        · skip
          have d10 : ¬ (((I (v1 + 1) (Int32.toNatClampNeg (I (v1 + 5) (Int32.toNatClampNeg v2)))).toInt) : Int) = (19) := ci_ne rfl rfl c9
          exact hQ _ _ _ _ hB0 trivial
        · skip
          have d11 : (((I (v1 + 1) (Int32.toNatClampNeg (I (v1 + 5) (Int32.toNatClampNeg v2)))).toInt) : Int) = (19) := ci_eq rfl rfl c9
          refine bif_t ho0 ?_
          refine bif_t (fa_4_8 ho0).1 ?_
          refine ⟨by rw [(fa_4_8 ho0).2.1]; exact vp_of (a := (I (v1 + 5) (Int32.toNatClampNeg v2)).toInt) rfl (by omega) (by omega), ?_⟩
          refine ⟨fun c12 => ?_, fun c12 => ?_⟩
          · skip
            have d13 : (((I (v0 + 1) (Int32.toNatClampNeg (I (v1 + 5) (Int32.toNatClampNeg v2)))).toInt) : Int) ≤ (1) := ci_le rfl rfl c12
            exact hQ _ _ _ _ hB0 trivial
          · skip
            have d14 : ((1) : Int) < ((I (v0 + 1) (Int32.toNatClampNeg (I (v1 + 5) (Int32.toNatClampNeg v2)))).toInt) := ci_nle rfl rfl c12
            refine bif_t ho0 ?_
            refine bif_t (fa_4_8 ho0).1 ?_
            refine ⟨by rw [(fa_4_8 ho0).2.1]; exact vp_of (a := (I (v1 + 5) (Int32.toNatClampNeg v2)).toInt) rfl (by omega) (by omega), ?_⟩
            refine bif_t (fa_4_8 ho0).1 ?_
            refine ⟨by rw [(fa_4_8 ho0).2.1]; exact vp_of (a := (I (v1 + 5) (Int32.toNatClampNeg v2)).toInt) rfl (by omega) (by omega), ?_⟩
            have hB15 : Bd (uI I (v0 + 1) (Int32.toNatClampNeg (I (v1 + 5) (Int32.toNatClampNeg v2))) ((I (v0 + 1) (Int32.toNatClampNeg (I (v1 + 5) (Int32.toNatClampNeg v2)))) - 1)) := Bd.a0 hB0 (fa_4_8 ho0).1 (fa_4_8 ho0).2.2
            exact hQ _ _ _ _ hB15 trivial
set_option maxHeartbeats 2000000 in
theorem sp_X4_behindStep {d : Nat} {Q : Qt} {v0 : Nat} {v1 : Nat} {v2 : Nat} {v3 : Int32} {I : Im} {J : Jm} {R : Rm} (hB0 : Bd I) (hR0 : RI R) (ho0 : isO 112 v0 4 = true) (ho1 : isO 112 v1 0 = true) (ho2 : isO 112 v2 2 = true) (hv3 : 0 ≤ v3.toInt ∧ v3.toInt ≤ 59) (hQ : ∀ (x : Int32) (y : Int64) (I2 : Im) (J2 : Jm), Bd I2 → (True) → Q x y I2 J2 R) : AM (d + 5) 43 112 [.ref v0, .ref v1, .ref v2, .int v3] I J R Q := by
  have i_v3 := i32 v3
  refine w_X4_behindStep ?_
  refine bif_t ho2 ?_
  refine bif_t (fa_2_3 ho2).1 ?_
  refine ⟨by rw [(fa_2_3 ho2).2.1]; exact vp_of (a := v3.toInt) rfl (by omega) (by omega), ?_⟩
  refine ⟨fun c1 => ?_, fun c1 => ?_⟩
  · skip
    have d2 : (((I (v2 + 1) (Int32.toNatClampNeg v3)).toInt) : Int) = (14) := ci_eq rfl rfl c1
    refine bif_t ho0 ?_
    refine bif_t ho0 ?_
    refine sp_X4_doAny hB0 hR0 ho0 ho1 (fun x3 y8 I4 J5 hB6 p7 => ?_)
    intro o9
    have i10 := i32 x3
    refine ⟨fun c11 => ?_, fun c11 => ?_⟩
    · skip
      have d12 : ((x3.toInt) : Int) = (0) := ci_eq rfl rfl c11
      refine bif_t ho0 ?_
      have hB13 : Bd (uI I4 v0 2 ((I v0 2) + 1)) := Bd.o0 hB6 ho0 (by decide) bd9_4_2
      exact hQ _ _ _ _ hB13 trivial
    · skip
      have d14 : ¬ ((x3.toInt) : Int) = (0) := ci_ne rfl rfl c11
      refine bif_t ho0 ?_
      have hB15 : Bd (uI I4 v0 2 ((I v0 2) + 0)) := Bd.o0 hB6 ho0 (by decide) bd9_4_2
      exact hQ _ _ _ _ hB15 trivial
  · skip
    have d16 : ¬ (((I (v2 + 1) (Int32.toNatClampNeg v3)).toInt) : Int) = (14) := ci_ne rfl rfl c1
    refine ⟨fun c17 => ?_, fun c17 => ?_⟩
    · skip
      have d18 : (((I (v2 + 1) (Int32.toNatClampNeg v3)).toInt) : Int) = (15) := ci_eq rfl rfl c17
      refine bif_t ho0 ?_
      refine bif_t ho0 ?_
      refine sp_X4_act hB0 hR0 ho0 ho1 ho2 (by have z : (v3 : Int32).toInt = v3.toInt := rfl; omega) (fun x19 y24 I20 J21 hB22 p23 => ?_)
      intro o25
      have i26 := i32 x19
      refine ⟨fun c27 => ?_, fun c27 => ?_⟩
      · skip
        have d28 : ((x19.toInt) : Int) = (0) := ci_eq rfl rfl c27
        refine bif_t ho0 ?_
        have hB29 : Bd (uI I20 v0 2 ((I v0 2) + 1)) := Bd.o0 hB22 ho0 (by decide) bd9_4_2
        exact hQ _ _ _ _ hB29 trivial
      · skip
        have d30 : ¬ ((x19.toInt) : Int) = (0) := ci_ne rfl rfl c27
        refine bif_t ho0 ?_
        have hB31 : Bd (uI I20 v0 2 ((I v0 2) + 0)) := Bd.o0 hB22 ho0 (by decide) bd9_4_2
        exact hQ _ _ _ _ hB31 trivial
    · skip
      have d32 : ¬ (((I (v2 + 1) (Int32.toNatClampNeg v3)).toInt) : Int) = (15) := ci_ne rfl rfl c17
      refine ⟨fun c33 => ?_, fun c33 => ?_⟩
      · skip
        have d34 : (((I (v2 + 1) (Int32.toNatClampNeg v3)).toInt) : Int) = (16) := ci_eq rfl rfl c33
        refine sp_X4_holdsTrue hB0 hR0 ho1 ho2 (by have z : (v3 : Int32).toInt = v3.toInt := rfl; omega) (fun x35 y40 I36 J37 hB38 p39 => ?_)
        intro o41
        have i42 := i32 x35
        refine ⟨fun c43 => ?_, fun c43 => ?_⟩
        · skip
          have d44 : ((x35.toInt) : Int) = (0) := ci_eq rfl rfl c43
          refine bif_t ho2 ?_
          refine bif_t (fa_2_7 ho2).1 ?_
          refine ⟨by rw [(fa_2_7 ho2).2.1]; exact vp_of (a := v3.toInt) rfl (by omega) (by omega), ?_⟩
          exact hQ _ _ _ _ hB38 trivial
        · skip
          have d45 : ¬ ((x35.toInt) : Int) = (0) := ci_ne rfl rfl c43
          exact hQ _ _ _ _ hB38 trivial
      · skip
        have d46 : ¬ (((I (v2 + 1) (Int32.toNatClampNeg v3)).toInt) : Int) = (16) := ci_ne rfl rfl c33
        refine ⟨fun c47 => ?_, fun c47 => ?_⟩
        · skip
          have d48 : (((I (v2 + 1) (Int32.toNatClampNeg v3)).toInt) : Int) = (17) := ci_eq rfl rfl c47
          refine sp_X4_holdsTrue hB0 hR0 ho1 ho2 (by have z : (v3 : Int32).toInt = v3.toInt := rfl; omega) (fun x49 y54 I50 J51 hB52 p53 => ?_)
          intro o55
          have i56 := i32 x49
          refine ⟨fun c57 => ?_, fun c57 => ?_⟩
          · skip
            have d58 : ((x49.toInt) : Int) = (0) := ci_eq rfl rfl c57
            refine bif_t ho2 ?_
            refine bif_t (fa_2_7 ho2).1 ?_
            refine ⟨by rw [(fa_2_7 ho2).2.1]; exact vp_of (a := v3.toInt) rfl (by omega) (by omega), ?_⟩
            exact hQ _ _ _ _ hB52 trivial
          · skip
            have d59 : ¬ ((x49.toInt) : Int) = (0) := ci_ne rfl rfl c57
            exact hQ _ _ _ _ hB52 trivial
        · skip
          have d60 : ¬ (((I (v2 + 1) (Int32.toNatClampNeg v3)).toInt) : Int) = (17) := ci_ne rfl rfl c47
          refine ⟨fun c61 => ?_, fun c61 => ?_⟩
          · skip
            have d62 : (((I (v2 + 1) (Int32.toNatClampNeg v3)).toInt) : Int) = (18) := ci_eq rfl rfl c61
            refine sp_X4_holdsTrue hB0 hR0 ho1 ho2 (by have z : (v3 : Int32).toInt = v3.toInt := rfl; omega) (fun x63 y68 I64 J65 hB66 p67 => ?_)
            intro o69
            have i70 := i32 x63
            refine ⟨fun c71 => ?_, fun c71 => ?_⟩
            · skip
              have d72 : ((x63.toInt) : Int) = (0) := ci_eq rfl rfl c71
              refine bif_t ho2 ?_
              refine bif_t (fa_2_7 ho2).1 ?_
              refine ⟨by rw [(fa_2_7 ho2).2.1]; exact vp_of (a := v3.toInt) rfl (by omega) (by omega), ?_⟩
              exact hQ _ _ _ _ hB66 trivial
            · skip
              have d73 : ¬ ((x63.toInt) : Int) = (0) := ci_ne rfl rfl c71
              exact hQ _ _ _ _ hB66 trivial
          · skip
            have d74 : ¬ (((I (v2 + 1) (Int32.toNatClampNeg v3)).toInt) : Int) = (18) := ci_ne rfl rfl c61
            refine ⟨fun c75 => ?_, fun c75 => ?_⟩
            · skip
              have d76 : (((I (v2 + 1) (Int32.toNatClampNeg v3)).toInt) : Int) = (19) := ci_eq rfl rfl c75
              refine bif_t ho0 ?_
              refine bif_t ho2 ?_
              refine bif_t (fa_2_4 ho2).1 ?_
              refine ⟨by rw [(fa_2_4 ho2).2.1]; exact vp_of (a := v3.toInt) rfl (by omega) (by omega), ?_⟩
              refine bif_t (fa_4_8 ho0).1 ?_
              refine ⟨by rw [(fa_4_8 ho0).2.1]; exact vp_of (a := v3.toInt) rfl (by omega) (by omega), ?_⟩
              have hB77 : Bd (uI I (v0 + 1) (Int32.toNatClampNeg v3) (I (v2 + 2) (Int32.toNatClampNeg v3))) := Bd.a0 hB0 (fa_4_8 ho0).1 (fa_4_8 ho0).2.2
              exact hQ _ _ _ _ hB77 trivial
            · skip
              have d78 : ¬ (((I (v2 + 1) (Int32.toNatClampNeg v3)).toInt) : Int) = (19) := ci_ne rfl rfl c75
              refine ⟨fun c79 => ?_, fun c79 => ?_⟩
              · skip
                have d80 : (((I (v2 + 1) (Int32.toNatClampNeg v3)).toInt) : Int) = (20) := ci_eq rfl rfl c79
                refine bif_t ho0 ?_
                refine bif_t ho0 ?_
                refine sp_X4_act hB0 hR0 ho0 ho1 ho2 (by have z : (v3 : Int32).toInt = v3.toInt := rfl; omega) (fun x81 y86 I82 J83 hB84 p85 => ?_)
                intro o87
                have i88 := i32 x81
                refine ⟨fun c89 => ?_, fun c89 => ?_⟩
                · skip
                  have d90 : ((x81.toInt) : Int) = (0) := ci_eq rfl rfl c89
                  refine bif_t ho0 ?_
                  have hB91 : Bd (uI I82 v0 2 ((I v0 2) + 1)) := Bd.o0 hB84 ho0 (by decide) bd9_4_2
                  exact hQ _ _ _ _ hB91 trivial
                · skip
                  have d92 : ¬ ((x81.toInt) : Int) = (0) := ci_ne rfl rfl c89
                  refine bif_t ho0 ?_
                  have hB93 : Bd (uI I82 v0 2 ((I v0 2) + 0)) := Bd.o0 hB84 ho0 (by decide) bd9_4_2
                  exact hQ _ _ _ _ hB93 trivial
              · skip
                have d94 : ¬ (((I (v2 + 1) (Int32.toNatClampNeg v3)).toInt) : Int) = (20) := ci_ne rfl rfl c79
                refine ⟨fun c95 => ?_, fun c95 => ?_⟩
                · skip
                  have d96 : (((I (v2 + 1) (Int32.toNatClampNeg v3)).toInt) : Int) = (21) := ci_eq rfl rfl c95
                  refine bif_t ho2 ?_
                  exact hQ _ _ _ _ hB0 trivial
                · skip
                  have d97 : ¬ (((I (v2 + 1) (Int32.toNatClampNeg v3)).toInt) : Int) = (21) := ci_ne rfl rfl c95
                  refine bif_t ho0 ?_
                  refine bif_t ho0 ?_
                  refine sp_X4_act hB0 hR0 ho0 ho1 ho2 (by have z : (v3 : Int32).toInt = v3.toInt := rfl; omega) (fun x98 y103 I99 J100 hB101 p102 => ?_)
                  intro o104
                  have i105 := i32 x98
                  refine ⟨fun c106 => ?_, fun c106 => ?_⟩
                  · skip
                    have d107 : ((x98.toInt) : Int) = (0) := ci_eq rfl rfl c106
                    refine bif_t ho0 ?_
                    have hB108 : Bd (uI I99 v0 2 ((I v0 2) + 1)) := Bd.o0 hB101 ho0 (by decide) bd9_4_2
                    exact hQ _ _ _ _ hB108 trivial
                  · skip
                    have d109 : ¬ ((x98.toInt) : Int) = (0) := ci_ne rfl rfl c106
                    refine bif_t ho0 ?_
                    have hB110 : Bd (uI I99 v0 2 ((I v0 2) + 0)) := Bd.o0 hB101 ho0 (by decide) bd9_4_2
                    exact hQ _ _ _ _ hB110 trivial
set_option maxHeartbeats 2000000 in
theorem sp_X4_run {d : Nat} {Q : Qt} {v0 : Nat} {v1 : Nat} {v2 : Nat} {v3 : Int32} {I : Im} {J : Jm} {R : Rm} (hB0 : Bd I) (hR0 : RI R) (ho0 : isO 112 v0 4 = true) (ho1 : isO 112 v1 0 = true) (ho2 : isO 112 v2 2 = true) (hQ : ∀ (x : Int32) (y : Int64) (I2 : Im) (J2 : Jm), Bd I2 → (True) → Q x y I2 J2 R) : AM (d + 6) 41 112 [.ref v0, .ref v1, .ref v2, .int v3] I J R Q := by
  have i_v3 := i32 v3
  refine am_X4_run (fun P hc => ?_)
  have L : ∀ n : Nat, (∀ (v4 : Int32) (v5 : Int32) (M : Im) (JM : Jm), Bd M → (0 ≤ v5.toInt ∧ v5.toInt ≤ 1000000) → 1000001 - v5.toInt < (n : Int) → P 46 112 [(0, .ref v0), (1, .ref v1), (2, .ref v2), (4, .int v4), (5, .int v5)] [] M JM R) := by
    intro n
    induction n with
    | zero =>
      exact fun v4 v5 M J _ hi hm => absurd hm (by omega)
    | succ n ih =>
      intro v4 v5 M JM hB hi hm
      have i_v4 := i32 v4
      have i_v5 := i32 v5
      refine sg_X4_run_46 hc _ _ _ _ _ _ _ _ ?_
      refine ⟨fun c1 => ?_, fun c1 => ?_⟩
      · skip
        have d2 : ((1000000) : Int) ≤ (v5.toInt) := ci_le rfl rfl c1
        exact hQ _ _ _ _ hB trivial
      · skip
        have d3 : ((v5.toInt) : Int) < (1000000) := ci_nle rfl rfl c1
        refine bif_t ho0 ?_
        refine ⟨fun c4 => ?_, fun c4 => ?_⟩
        · skip
          have d5 : ¬ (((M v0 6).toInt) : Int) = (0) := ci_ne rfl rfl c4
          exact hQ _ _ _ _ hB trivial
        · skip
          have d6 : (((M v0 6).toInt) : Int) = (0) := ci_eq rfl rfl c4
          refine ⟨fun c7 => ?_, fun c7 => ?_⟩
          · skip
            have d8 : ((v4.toInt) : Int) < (0) := ci_lt rfl rfl c7
            exact hQ _ _ _ _ hB trivial
          · skip
            have d9 : ((0) : Int) ≤ (v4.toInt) := ci_nlt rfl rfl c7
            refine bif_t ho2 ?_
            refine ⟨fun c10 => ?_, fun c10 => ?_⟩
            · skip
              have b11 := Bd.o hB ho2 bd9_2_2
              have d12 : (((M v2 2).toInt) : Int) ≤ (v4.toInt) := ci_le rfl rfl c10
              exact hQ _ _ _ _ hB trivial
            · skip
              have b13 := Bd.o hB ho2 bd9_2_2
              have d14 : ((v4.toInt) : Int) < ((M v2 2).toInt) := ci_nle rfl rfl c10
              refine bif_t ho2 ?_
              refine bif_t (fa_2_3 ho2).1 ?_
              refine ⟨by rw [(fa_2_3 ho2).2.1]; exact vp_of (a := v4.toInt) rfl (by omega) (by omega), ?_⟩
              refine ⟨fun c15 => ?_, fun c15 => ?_⟩
              · skip
                have d16 : ¬ (((M (v2 + 1) (Int32.toNatClampNeg v4)).toInt) : Int) = (20) := ci_ne rfl rfl c15
                refine bif_t ho0 ?_
                refine ⟨fun c17 => ?_, fun c17 => ?_⟩
                · skip
                  have d18 : (((M v0 1).toInt) : Int) < (300) := ci_lt rfl rfl c17
                  refine bif_t ho0 ?_
                  refine bif_t ho0 ?_
                  have hB19 : Bd (uI M v0 1 ((M v0 1) + 1)) := Bd.o0 hB ho0 (by decide) bd9_4_1
                  refine bif_t ho0 ?_
                  refine sp_X4_behindStep hB19 hR0 ho0 ho1 ho2 (by have z : (v4 : Int32).toInt = v4.toInt := rfl; omega) (fun x20 y25 I21 J22 hB23 p24 => ?_)
                  have i26 := i32 x20
                  have e27 : ((v5 + 1) : Int32).toInt = (v5.toInt) + (1) := ti_add rfl rfl (by omega)
                  exact ih _ _ _ _ hB23 (by have q0 : ((v5 + 1) : Int32).toInt = (v5.toInt + 1) := e27; omega) (by have q0 : ((v5 + 1) : Int32).toInt = (v5.toInt + 1) := e27; omega)
                · skip
                  have d28 : ((300) : Int) ≤ ((M v0 1).toInt) := ci_nlt rfl rfl c17
                  refine bif_t ho0 ?_
                  have hB29 : Bd (uI M v0 6 1) := Bd.o0 hB ho0 (by decide) bd9_4_6
                  have e30 : ((v5 + 1) : Int32).toInt = (v5.toInt) + (1) := ti_add rfl rfl (by omega)
                  exact ih _ _ _ _ hB29 (by have q0 : ((v5 + 1) : Int32).toInt = (v5.toInt + 1) := e30; omega) (by have q0 : ((v5 + 1) : Int32).toInt = (v5.toInt + 1) := e30; omega)
              · skip
                have d31 : (((M (v2 + 1) (Int32.toNatClampNeg v4)).toInt) : Int) = (20) := ci_eq rfl rfl c15
                refine bif_t ho0 ?_
                refine sp_X4_behindEnd hB hR0 ho0 ho2 (by have z : (v4 : Int32).toInt = v4.toInt := rfl; omega) (fun x32 y37 I33 J34 hB35 p36 => ?_)
                have i38 := i32 x32
                have e39 : ((v5 + 1) : Int32).toInt = (v5.toInt) + (1) := ti_add rfl rfl (by omega)
                exact ih _ _ _ _ hB35 (by have q0 : ((v5 + 1) : Int32).toInt = (v5.toInt + 1) := e39; omega) (by have q0 : ((v5 + 1) : Int32).toInt = (v5.toInt + 1) := e39; omega)
  refine sg_X4_run_0 hc _ _ _ _ _ _ _ ?_
  refine bif_t ho0 ?_
  refine ⟨Or.inr rfl, ?_⟩
  have hB40 : Bd (uI I v0 0 1) := Bd.o1 hB0 ho0 (by decide) bd9_4_0 rfl (bl_ti (Or.inr rfl))
  refine bif_t ho0 ?_
  have hB41 : Bd (uI (uI I v0 0 1) v0 1 0) := Bd.o0 hB40 ho0 (by decide) bd9_4_1
  refine bif_t ho0 ?_
  have hB42 : Bd (uI (uI (uI I v0 0 1) v0 1 0) v0 2 0) := Bd.o0 hB41 ho0 (by decide) bd9_4_2
  refine bif_t ho0 ?_
  have hB43 : Bd (uI (uI (uI (uI I v0 0 1) v0 1 0) v0 2 0) v0 3 0) := Bd.o0 hB42 ho0 (by decide) bd9_4_3
  refine bif_t ho0 ?_
  have hB44 : Bd (uI (uI (uI (uI (uI I v0 0 1) v0 1 0) v0 2 0) v0 3 0) v0 4 0) := Bd.o0 hB43 ho0 (by decide) bd9_4_4
  refine bif_t ho0 ?_
  have hB45 : Bd (uI (uI (uI (uI (uI (uI I v0 0 1) v0 1 0) v0 2 0) v0 3 0) v0 4 0) v0 5 0) := Bd.o0 hB44 ho0 (by decide) bd9_4_5
  refine bif_t ho0 ?_
  have hB46 : Bd (uI (uI (uI (uI (uI (uI (uI I v0 0 1) v0 1 0) v0 2 0) v0 3 0) v0 4 0) v0 5 0) v0 6 0) := Bd.o0 hB45 ho0 (by decide) bd9_4_6
  refine bif_t ho0 ?_
  have hB47 : Bd (uI (uI (uI (uI (uI (uI (uI (uI I v0 0 1) v0 1 0) v0 2 0) v0 3 0) v0 4 0) v0 5 0) v0 6 0) v0 7 v3) := Bd.o0 hB46 ho0 (by decide) bd9_4_7
  exact (L 2000000) _ _ _ _ hB47 (by have q0 : (0 : Int32).toInt = 0 := rfl; omega) (by have q0 : (0 : Int32).toInt = 0 := rfl; omega)
set_option maxHeartbeats 2000000 in
theorem sp_X5_countSteps {d : Nat} {Q : Qt} {v1 : Int32} {I : Im} {J : Jm} {R : Rm} (hB0 : Bd I) (hR0 : RI R) (hv1 : 1 ≤ v1.toInt ∧ v1.toInt ≤ 30) (hQ : ∀ (x : Int32) (y : Int64) (I2 : Im) (J2 : Jm), Bd I2 → (True) → Q x y I2 J2 R) : AM (d + 2) 55 112 [.ref 42, .int v1] I J R Q := by
  have i_v1 := i32 v1
  refine am_X5_countSteps (fun P hc => ?_)
  have L : ∀ n : Nat, (∀ (v2 : Int32) (M : Im) (JM : Jm), Bd M → (1 ≤ v1.toInt ∧ v1.toInt ≤ 30 ∧ 0 ≤ v2.toInt ∧ v2.toInt < v1.toInt) → v2.toInt * 100 + 50 < (n : Int) → P 11 112 [(0, .ref 42), (1, .int v1), (2, .int v2)] [] M JM R) ∧ (∀ (v2 : Int32) (v3 : Int32) (M : Im) (JM : Jm), Bd M → (1 ≤ v1.toInt ∧ v1.toInt ≤ 30 ∧ 1 ≤ v2.toInt ∧ v2.toInt < v1.toInt ∧ v2.toInt < v3.toInt ∧ v3.toInt ≤ v1.toInt + 1) → v2.toInt * 100 + 31 - v3.toInt < (n : Int) → P 29 112 [(0, .ref 42), (1, .int v1), (2, .int v2), (3, .int v3)] [] M JM R) := by
    intro n
    induction n with
    | zero =>
      exact ⟨fun v2 M J _ hi hm => absurd hm (by omega), fun v2 v3 M J _ hi hm => absurd hm (by omega)⟩
    | succ n ih =>
      refine ⟨?_, ?_⟩
      · skip
        intro v2 M JM hB hi hm
        have i_v1 := i32 v1
        have i_v2 := i32 v2
        refine sg_X5_countSteps_11 hc _ _ _ _ _ ?_
        refine ⟨fun c1 => ?_, fun c1 => ?_⟩
        · skip
          have d2 : ((v2.toInt) : Int) < (1) := ci_lt rfl rfl c1
          exact hQ _ _ _ _ hB trivial
        · skip
          have d3 : ((1) : Int) ≤ (v2.toInt) := ci_nlt rfl rfl c1
          refine ⟨vp_of (a := v2.toInt) rfl (by omega) (by omega), ?_⟩
          have hB4 : Bd (uI M 43 (Int32.toNatClampNeg v2) 1000) := Bd.a0 hB (show isA 112 43 0 = true from rfl) (show bna 43 = none from rfl)
          have e5 : ((v2 + 1) : Int32).toInt = (v2.toInt) + (1) := ti_add rfl rfl (by omega)
          exact ih.2 _ _ _ _ hB4 (by have q0 : (v2 : Int32).toInt = v2.toInt := rfl; have q1 : ((v2 + 1) : Int32).toInt = (v2.toInt + 1) := e5; omega) (by have q0 : (v2 : Int32).toInt = v2.toInt := rfl; have q1 : ((v2 + 1) : Int32).toInt = (v2.toInt + 1) := e5; omega)
      · skip
        intro v2 v3 M JM hB hi hm
        have i_v1 := i32 v1
        have i_v2 := i32 v2
        have i_v3 := i32 v3
        refine sg_X5_countSteps_29 hc _ _ _ _ _ _ ?_
        refine ⟨fun c6 => ?_, fun c6 => ?_⟩
        · skip
          have d7 : ((v1.toInt) : Int) < (v3.toInt) := ci_lt rfl rfl c6
          have e8 : ((v2 + (-1)) : Int32).toInt = (v2.toInt) + ((-1)) := ti_add rfl rfl (by omega)
          exact ih.1 _ _ _ hB (by have q0 : ((v2 + (-1)) : Int32).toInt = (v2.toInt + (-1)) := e8; omega) (by have q0 : ((v2 + (-1)) : Int32).toInt = (v2.toInt + (-1)) := e8; omega)
        · skip
          have d9 : ((v3.toInt) : Int) ≤ (v1.toInt) := ci_nlt rfl rfl c6
          refine w_X5_comesOf ?_
          refine ⟨fun c10 => ?_, fun c10 => ?_⟩
          · skip
            have d11 : ((v2.toInt) : Int) < (1) := ci_lt rfl rfl c10
            refine ⟨Or.inl rfl, ?_⟩
            intro o12
            refine ⟨fun c13 => ?_, fun c13 => ?_⟩
            · skip
              have e14 : ((v3 + 1) : Int32).toInt = (v3.toInt) + (1) := ti_add rfl rfl (by omega)
              exact ih.2 _ _ _ _ hB (by have q0 : (v2 : Int32).toInt = v2.toInt := rfl; have q1 : ((v3 + 1) : Int32).toInt = (v3.toInt + 1) := e14; omega) (by have q0 : (v2 : Int32).toInt = v2.toInt := rfl; have q1 : ((v3 + 1) : Int32).toInt = (v3.toInt + 1) := e14; omega)
            · exact absurd c13 (by decide)
          · skip
            have d15 : ((1) : Int) ≤ (v2.toInt) := ci_nlt rfl rfl c10
            refine ⟨fun c16 => ?_, fun c16 => ?_⟩
            · skip
              have d17 : ((v2.toInt) : Int) < (v3.toInt) := ci_lt rfl rfl c16
              refine ⟨(fun z => by have z2 : (v2.toInt : Int) = 0 := ci_eq rfl rfl z; omega), ?_⟩
              refine ⟨fun c18 => ?_, fun c18 => ?_⟩
              · skip
                have d19 : ((((v3 - v3 / v2 * v2) : Int32).toInt) : Int) = (0) := ci_eq rfl rfl c18
                refine ⟨Or.inr rfl, ?_⟩
                intro o20
                refine ⟨fun c21 => ?_, fun c21 => ?_⟩
                · exact absurd c21 (by decide)
                · skip
                  refine ⟨vp_of (a := v2.toInt) rfl (by omega) (by omega), ?_⟩
                  refine ⟨vp_of (a := v3.toInt) rfl (by omega) (by omega), ?_⟩
                  refine ⟨vp_of (a := v2.toInt) rfl (by omega) (by omega), ?_⟩
                  have hB22 : Bd (uI M 43 (Int32.toNatClampNeg v2) (if (((M 43 (Int32.toNatClampNeg v3)) + 1) : Int32) < (M 43 (Int32.toNatClampNeg v2)) then ((M 43 (Int32.toNatClampNeg v3)) + 1) else (M 43 (Int32.toNatClampNeg v2)))) := Bd.a0 hB (show isA 112 43 0 = true from rfl) (show bna 43 = none from rfl)
                  have e23 : ((v3 + 1) : Int32).toInt = (v3.toInt) + (1) := ti_add rfl rfl (by omega)
                  exact ih.2 _ _ _ _ hB22 (by have q0 : (v2 : Int32).toInt = v2.toInt := rfl; have q1 : ((v3 + 1) : Int32).toInt = (v3.toInt + 1) := e23; omega) (by have q0 : (v2 : Int32).toInt = v2.toInt := rfl; have q1 : ((v3 + 1) : Int32).toInt = (v3.toInt + 1) := e23; omega)
              · skip
                have d24 : ¬ ((((v3 - v3 / v2 * v2) : Int32).toInt) : Int) = (0) := ci_ne rfl rfl c18
                have e25 : ((v3 - v2) : Int32).toInt = (v3.toInt) - (v2.toInt) := ti_sub rfl rfl (by omega)
                refine ⟨(fun z => by have z2 : ((v3.toInt - v2.toInt) : Int) = 0 := ci_eq e25 rfl z; omega), ?_⟩
                refine ⟨fun c26 => ?_, fun c26 => ?_⟩
                · skip
                  have d27 : ¬ (((((v2 * v3) - (v2 * v3) / (v3 - v2) * (v3 - v2)) : Int32).toInt) : Int) = (0) := ci_ne rfl rfl c26
                  refine ⟨Or.inl rfl, ?_⟩
                  intro o28
                  refine ⟨fun c29 => ?_, fun c29 => ?_⟩
                  · skip
                    have e30 : ((v3 + 1) : Int32).toInt = (v3.toInt) + (1) := ti_add rfl rfl (by omega)
                    exact ih.2 _ _ _ _ hB (by have q0 : (v2 : Int32).toInt = v2.toInt := rfl; have q1 : ((v3 + 1) : Int32).toInt = (v3.toInt + 1) := e30; omega) (by have q0 : (v2 : Int32).toInt = v2.toInt := rfl; have q1 : ((v3 + 1) : Int32).toInt = (v3.toInt + 1) := e30; omega)
                  · exact absurd c29 (by decide)
                · skip
                  have d31 : (((((v2 * v3) - (v2 * v3) / (v3 - v2) * (v3 - v2)) : Int32).toInt) : Int) = (0) := ci_eq rfl rfl c26
                  refine ⟨(fun z => by have z2 : ((v3.toInt - v2.toInt) : Int) = 0 := ci_eq e25 rfl z; omega), ?_⟩
                  refine ⟨fun c32 => ?_, fun c32 => ?_⟩
                  · skip
                    have d33 : ((30) : Int) < ((((v2 * v3) / (v3 - v2)) : Int32).toInt) := ci_lt rfl rfl c32
                    refine ⟨Or.inl rfl, ?_⟩
                    intro o34
                    refine ⟨fun c35 => ?_, fun c35 => ?_⟩
                    · skip
                      have e36 : ((v3 + 1) : Int32).toInt = (v3.toInt) + (1) := ti_add rfl rfl (by omega)
                      exact ih.2 _ _ _ _ hB (by have q0 : (v2 : Int32).toInt = v2.toInt := rfl; have q1 : ((v3 + 1) : Int32).toInt = (v3.toInt + 1) := e36; omega) (by have q0 : (v2 : Int32).toInt = v2.toInt := rfl; have q1 : ((v3 + 1) : Int32).toInt = (v3.toInt + 1) := e36; omega)
                    · exact absurd c35 (by decide)
                  · skip
                    have d37 : (((((v2 * v3) / (v3 - v2)) : Int32).toInt) : Int) ≤ (30) := ci_nlt rfl rfl c32
                    refine ⟨Or.inr rfl, ?_⟩
                    intro o38
                    refine ⟨fun c39 => ?_, fun c39 => ?_⟩
                    · exact absurd c39 (by decide)
                    · skip
                      refine ⟨vp_of (a := v2.toInt) rfl (by omega) (by omega), ?_⟩
                      refine ⟨vp_of (a := v3.toInt) rfl (by omega) (by omega), ?_⟩
                      refine ⟨vp_of (a := v2.toInt) rfl (by omega) (by omega), ?_⟩
                      have hB40 : Bd (uI M 43 (Int32.toNatClampNeg v2) (if (((M 43 (Int32.toNatClampNeg v3)) + 1) : Int32) < (M 43 (Int32.toNatClampNeg v2)) then ((M 43 (Int32.toNatClampNeg v3)) + 1) else (M 43 (Int32.toNatClampNeg v2)))) := Bd.a0 hB (show isA 112 43 0 = true from rfl) (show bna 43 = none from rfl)
                      have e41 : ((v3 + 1) : Int32).toInt = (v3.toInt) + (1) := ti_add rfl rfl (by omega)
                      exact ih.2 _ _ _ _ hB40 (by have q0 : (v2 : Int32).toInt = v2.toInt := rfl; have q1 : ((v3 + 1) : Int32).toInt = (v3.toInt + 1) := e41; omega) (by have q0 : (v2 : Int32).toInt = v2.toInt := rfl; have q1 : ((v3 + 1) : Int32).toInt = (v3.toInt + 1) := e41; omega)
            · skip
              have d42 : ((v3.toInt) : Int) ≤ (v2.toInt) := ci_nlt rfl rfl c16
              refine ⟨Or.inl rfl, ?_⟩
              intro o43
              refine ⟨fun c44 => ?_, fun c44 => ?_⟩
              · skip
                have e45 : ((v3 + 1) : Int32).toInt = (v3.toInt) + (1) := ti_add rfl rfl (by omega)
                exact ih.2 _ _ _ _ hB (by have q0 : (v2 : Int32).toInt = v2.toInt := rfl; have q1 : ((v3 + 1) : Int32).toInt = (v3.toInt + 1) := e45; omega) (by have q0 : (v2 : Int32).toInt = v2.toInt := rfl; have q1 : ((v3 + 1) : Int32).toInt = (v3.toInt + 1) := e45; omega)
              · exact absurd c44 (by decide)
  refine sg_X5_countSteps_0 hc _ _ _ _ ?_
  refine ⟨vp_of (a := v1.toInt) rfl (by omega) (by omega), ?_⟩
  have hB46 : Bd (uI I 43 (Int32.toNatClampNeg v1) 0) := Bd.a0 hB0 (show isA 112 43 0 = true from rfl) (show bna 43 = none from rfl)
  have e47 : ((v1 - 1) : Int32).toInt = (v1.toInt) - (1) := ti_sub rfl rfl (by omega)
  exact (L 1000000).1 _ _ _ hB46 (by have q0 : ((v1 - 1) : Int32).toInt = (v1.toInt - 1) := e47; omega) (by have q0 : ((v1 - 1) : Int32).toInt = (v1.toInt - 1) := e47; omega)
set_option maxHeartbeats 2000000 in
theorem sp_X5_follow {d : Nat} {Q : Qt} {v1 : Int32} {v2 : Int32} {I : Im} {J : Jm} {R : Rm} (hB0 : Bd I) (hR0 : RI R) (hv1 : 1 ≤ v1.toInt ∧ v1.toInt ≤ v2.toInt ∧ v2.toInt ≤ 30) (hQ : ∀ (x : Int32) (y : Int64) (I2 : Im) (J2 : Jm), Bd I2 → (True) → Q x y I2 J2 R) : AM (d + 2) 56 112 [.ref 42, .int v1, .int v2] I J R Q := by
  have i_v1 := i32 v1
  have i_v2 := i32 v2
  refine am_X5_follow (fun P hc => ?_)
  have L : ∀ n : Nat, (∀ (v3 : Int32) (v4 : Int32) (M : Im) (JM : Jm), Bd M → (1 ≤ v3.toInt ∧ v3.toInt ≤ 30 ∧ v3.toInt < v4.toInt ∧ v4.toInt ≤ v2.toInt + 1 ∧ v2.toInt ≤ 30 ∧ 1 ≤ (M 42 2).toInt ∧ (M 42 2).toInt < v4.toInt) → 40 - v4.toInt < (n : Int) → P 19 112 [(0, .ref 42), (2, .int v2), (3, .int v3), (4, .int v4)] [] M JM R) := by
    intro n
    induction n with
    | zero =>
      exact fun v3 v4 M J _ hi hm => absurd hm (by omega)
    | succ n ih =>
      intro v3 v4 M JM hB hi hm
      have i_v2 := i32 v2
      have i_v3 := i32 v3
      have i_v4 := i32 v4
      refine sg_X5_follow_19 hc _ _ _ _ _ _ ?_
      have b1 := Bd.o hB io9_112_42_5 bd9_5_2
      refine ⟨fun c2 => ?_, fun c2 => ?_⟩
      · skip
        have d3 : ((v2.toInt) : Int) < (v4.toInt) := ci_lt rfl rfl c2
        exact hQ _ _ _ _ hB trivial
      · skip
        have d4 : ((v4.toInt) : Int) ≤ (v2.toInt) := ci_nlt rfl rfl c2
        refine ⟨vp_of (a := v4.toInt) rfl (by omega) (by omega), ?_⟩
        refine ⟨vp_of (a := v3.toInt) rfl (by omega) (by omega), ?_⟩
        refine ⟨fun c5 => ?_, fun c5 => ?_⟩
        · skip
          have d6 : ¬ (((M 43 (Int32.toNatClampNeg v4)).toInt) : Int) = ((((M 43 (Int32.toNatClampNeg v3)) - 1) : Int32).toInt) := ci_ne rfl rfl c5
          have e7 : ((v4 + 1) : Int32).toInt = (v4.toInt) + (1) := ti_add rfl rfl (by omega)
          exact ih _ _ _ _ hB (by have q0 : (v3 : Int32).toInt = v3.toInt := rfl; have q1 : ((v4 + 1) : Int32).toInt = (v4.toInt + 1) := e7; have q2 : ((M 42 2) : Int32).toInt = (M 42 2).toInt := rfl; have q3 : ((M 42 2) : Int32).toInt = (M 42 2).toInt := rfl; omega) (by have q0 : ((v4 + 1) : Int32).toInt = (v4.toInt + 1) := e7; omega)
        · skip
          have d8 : (((M 43 (Int32.toNatClampNeg v4)).toInt) : Int) = ((((M 43 (Int32.toNatClampNeg v3)) - 1) : Int32).toInt) := ci_eq rfl rfl c5
          refine w_X5_comesOf ?_
          refine ⟨fun c9 => ?_, fun c9 => ?_⟩
          · skip
            have d10 : ((v3.toInt) : Int) < (1) := ci_lt rfl rfl c9
            refine ⟨Or.inl rfl, ?_⟩
            intro o11
            refine ⟨fun c12 => ?_, fun c12 => ?_⟩
            · skip
              have e13 : ((v4 + 1) : Int32).toInt = (v4.toInt) + (1) := ti_add rfl rfl (by omega)
              exact ih _ _ _ _ hB (by have q0 : (v3 : Int32).toInt = v3.toInt := rfl; have q1 : ((v4 + 1) : Int32).toInt = (v4.toInt + 1) := e13; have q2 : ((M 42 2) : Int32).toInt = (M 42 2).toInt := rfl; have q3 : ((M 42 2) : Int32).toInt = (M 42 2).toInt := rfl; omega) (by have q0 : ((v4 + 1) : Int32).toInt = (v4.toInt + 1) := e13; omega)
            · exact absurd c12 (by decide)
          · skip
            have d14 : ((1) : Int) ≤ (v3.toInt) := ci_nlt rfl rfl c9
            refine ⟨fun c15 => ?_, fun c15 => ?_⟩
            · skip
              have d16 : ((v3.toInt) : Int) < (v4.toInt) := ci_lt rfl rfl c15
              refine ⟨(fun z => by have z2 : (v3.toInt : Int) = 0 := ci_eq rfl rfl z; omega), ?_⟩
              refine ⟨fun c17 => ?_, fun c17 => ?_⟩
              · skip
                have d18 : ((((v4 - v4 / v3 * v3) : Int32).toInt) : Int) = (0) := ci_eq rfl rfl c17
                refine ⟨Or.inr rfl, ?_⟩
                intro o19
                refine ⟨fun c20 => ?_, fun c20 => ?_⟩
                · exact absurd c20 (by decide)
                · skip
                  refine ⟨vp_of (a := (M 42 2).toInt) rfl (by omega) (by omega), ?_⟩
                  have hB21 : Bd (uI M 44 (Int32.toNatClampNeg (M 42 2)) v4) := Bd.a0 hB (show isA 112 44 0 = true from rfl) (show bna 44 = none from rfl)
                  have e23 : (((uI M 44 (Int32.toNatClampNeg (M 42 2)) v4) 42 2) : Int32).toInt = (M 42 2).toInt := Eq.trans (congrArg Int32.toInt (rd_ne (by first | decide | omega))) rfl
                  have e24 : ((((uI M 44 (Int32.toNatClampNeg (M 42 2)) v4) 42 2) + 1) : Int32).toInt = ((M 42 2).toInt) + (1) := ti_add e23 rfl (by omega)
                  have hB22 : Bd (uI (uI M 44 (Int32.toNatClampNeg (M 42 2)) v4) 42 2 (((uI M 44 (Int32.toNatClampNeg (M 42 2)) v4) 42 2) + 1)) := Bd.o1 hB21 io9_112_42_5 (by decide) bd9_5_2 (show ((((uI M 44 (Int32.toNatClampNeg (M 42 2)) v4) 42 2) + 1) : Int32).toInt = ((M 42 2).toInt + 1) from e24) (by omega)
                  have e25 : ((v4 + 1) : Int32).toInt = (v4.toInt) + (1) := ti_add rfl rfl (by omega)
                  have e26 : (((uI (uI M 44 (Int32.toNatClampNeg (M 42 2)) v4) 42 2 (((uI M 44 (Int32.toNatClampNeg (M 42 2)) v4) 42 2) + 1)) 42 2) : Int32).toInt = ((M 42 2).toInt + 1) := Eq.trans (congrArg Int32.toInt rd_eq) e24
                  exact ih _ _ _ _ hB22 (by have q0 : (v4 : Int32).toInt = v4.toInt := rfl; have q1 : ((v4 + 1) : Int32).toInt = (v4.toInt + 1) := e25; have q2 : (((uI (uI M 44 (Int32.toNatClampNeg (M 42 2)) v4) 42 2 (((uI M 44 (Int32.toNatClampNeg (M 42 2)) v4) 42 2) + 1)) 42 2) : Int32).toInt = ((M 42 2).toInt + 1) := e26; have q3 : (((uI (uI M 44 (Int32.toNatClampNeg (M 42 2)) v4) 42 2 (((uI M 44 (Int32.toNatClampNeg (M 42 2)) v4) 42 2) + 1)) 42 2) : Int32).toInt = ((M 42 2).toInt + 1) := e26; omega) (by have q0 : ((v4 + 1) : Int32).toInt = (v4.toInt + 1) := e25; omega)
              · skip
                have d27 : ¬ ((((v4 - v4 / v3 * v3) : Int32).toInt) : Int) = (0) := ci_ne rfl rfl c17
                have e28 : ((v4 - v3) : Int32).toInt = (v4.toInt) - (v3.toInt) := ti_sub rfl rfl (by omega)
                refine ⟨(fun z => by have z2 : ((v4.toInt - v3.toInt) : Int) = 0 := ci_eq e28 rfl z; omega), ?_⟩
                refine ⟨fun c29 => ?_, fun c29 => ?_⟩
                · skip
                  have d30 : ¬ (((((v3 * v4) - (v3 * v4) / (v4 - v3) * (v4 - v3)) : Int32).toInt) : Int) = (0) := ci_ne rfl rfl c29
                  refine ⟨Or.inl rfl, ?_⟩
                  intro o31
                  refine ⟨fun c32 => ?_, fun c32 => ?_⟩
                  · skip
                    have e33 : ((v4 + 1) : Int32).toInt = (v4.toInt) + (1) := ti_add rfl rfl (by omega)
                    exact ih _ _ _ _ hB (by have q0 : (v3 : Int32).toInt = v3.toInt := rfl; have q1 : ((v4 + 1) : Int32).toInt = (v4.toInt + 1) := e33; have q2 : ((M 42 2) : Int32).toInt = (M 42 2).toInt := rfl; have q3 : ((M 42 2) : Int32).toInt = (M 42 2).toInt := rfl; omega) (by have q0 : ((v4 + 1) : Int32).toInt = (v4.toInt + 1) := e33; omega)
                  · exact absurd c32 (by decide)
                · skip
                  have d34 : (((((v3 * v4) - (v3 * v4) / (v4 - v3) * (v4 - v3)) : Int32).toInt) : Int) = (0) := ci_eq rfl rfl c29
                  refine ⟨(fun z => by have z2 : ((v4.toInt - v3.toInt) : Int) = 0 := ci_eq e28 rfl z; omega), ?_⟩
                  refine ⟨fun c35 => ?_, fun c35 => ?_⟩
                  · skip
                    have d36 : ((30) : Int) < ((((v3 * v4) / (v4 - v3)) : Int32).toInt) := ci_lt rfl rfl c35
                    refine ⟨Or.inl rfl, ?_⟩
                    intro o37
                    refine ⟨fun c38 => ?_, fun c38 => ?_⟩
                    · skip
                      have e39 : ((v4 + 1) : Int32).toInt = (v4.toInt) + (1) := ti_add rfl rfl (by omega)
                      exact ih _ _ _ _ hB (by have q0 : (v3 : Int32).toInt = v3.toInt := rfl; have q1 : ((v4 + 1) : Int32).toInt = (v4.toInt + 1) := e39; have q2 : ((M 42 2) : Int32).toInt = (M 42 2).toInt := rfl; have q3 : ((M 42 2) : Int32).toInt = (M 42 2).toInt := rfl; omega) (by have q0 : ((v4 + 1) : Int32).toInt = (v4.toInt + 1) := e39; omega)
                    · exact absurd c38 (by decide)
                  · skip
                    have d40 : (((((v3 * v4) / (v4 - v3)) : Int32).toInt) : Int) ≤ (30) := ci_nlt rfl rfl c35
                    refine ⟨Or.inr rfl, ?_⟩
                    intro o41
                    refine ⟨fun c42 => ?_, fun c42 => ?_⟩
                    · exact absurd c42 (by decide)
                    · skip
                      refine ⟨vp_of (a := (M 42 2).toInt) rfl (by omega) (by omega), ?_⟩
                      have hB43 : Bd (uI M 44 (Int32.toNatClampNeg (M 42 2)) v4) := Bd.a0 hB (show isA 112 44 0 = true from rfl) (show bna 44 = none from rfl)
                      have e45 : (((uI M 44 (Int32.toNatClampNeg (M 42 2)) v4) 42 2) : Int32).toInt = (M 42 2).toInt := Eq.trans (congrArg Int32.toInt (rd_ne (by first | decide | omega))) rfl
                      have e46 : ((((uI M 44 (Int32.toNatClampNeg (M 42 2)) v4) 42 2) + 1) : Int32).toInt = ((M 42 2).toInt) + (1) := ti_add e45 rfl (by omega)
                      have hB44 : Bd (uI (uI M 44 (Int32.toNatClampNeg (M 42 2)) v4) 42 2 (((uI M 44 (Int32.toNatClampNeg (M 42 2)) v4) 42 2) + 1)) := Bd.o1 hB43 io9_112_42_5 (by decide) bd9_5_2 (show ((((uI M 44 (Int32.toNatClampNeg (M 42 2)) v4) 42 2) + 1) : Int32).toInt = ((M 42 2).toInt + 1) from e46) (by omega)
                      have e47 : ((v4 + 1) : Int32).toInt = (v4.toInt) + (1) := ti_add rfl rfl (by omega)
                      have e48 : (((uI (uI M 44 (Int32.toNatClampNeg (M 42 2)) v4) 42 2 (((uI M 44 (Int32.toNatClampNeg (M 42 2)) v4) 42 2) + 1)) 42 2) : Int32).toInt = ((M 42 2).toInt + 1) := Eq.trans (congrArg Int32.toInt rd_eq) e46
                      exact ih _ _ _ _ hB44 (by have q0 : (v4 : Int32).toInt = v4.toInt := rfl; have q1 : ((v4 + 1) : Int32).toInt = (v4.toInt + 1) := e47; have q2 : (((uI (uI M 44 (Int32.toNatClampNeg (M 42 2)) v4) 42 2 (((uI M 44 (Int32.toNatClampNeg (M 42 2)) v4) 42 2) + 1)) 42 2) : Int32).toInt = ((M 42 2).toInt + 1) := e48; have q3 : (((uI (uI M 44 (Int32.toNatClampNeg (M 42 2)) v4) 42 2 (((uI M 44 (Int32.toNatClampNeg (M 42 2)) v4) 42 2) + 1)) 42 2) : Int32).toInt = ((M 42 2).toInt + 1) := e48; omega) (by have q0 : ((v4 + 1) : Int32).toInt = (v4.toInt + 1) := e47; omega)
            · skip
              have d49 : ((v4.toInt) : Int) ≤ (v3.toInt) := ci_nlt rfl rfl c15
              refine ⟨Or.inl rfl, ?_⟩
              intro o50
              refine ⟨fun c51 => ?_, fun c51 => ?_⟩
              · skip
                have e52 : ((v4 + 1) : Int32).toInt = (v4.toInt) + (1) := ti_add rfl rfl (by omega)
                exact ih _ _ _ _ hB (by have q0 : (v3 : Int32).toInt = v3.toInt := rfl; have q1 : ((v4 + 1) : Int32).toInt = (v4.toInt + 1) := e52; have q2 : ((M 42 2) : Int32).toInt = (M 42 2).toInt := rfl; have q3 : ((M 42 2) : Int32).toInt = (M 42 2).toInt := rfl; omega) (by have q0 : ((v4 + 1) : Int32).toInt = (v4.toInt + 1) := e52; omega)
              · exact absurd c51 (by decide)
  refine sg_X5_follow_0 hc _ _ _ _ _ ?_
  refine ⟨vp_of (a := 0) rfl (by omega) (by omega), ?_⟩
  have hB53 : Bd (uI I 44 (Int32.toNatClampNeg 0) v1) := Bd.a0 hB0 (show isA 112 44 0 = true from rfl) (show bna 44 = none from rfl)
  have hB54 : Bd (uI (uI I 44 (Int32.toNatClampNeg 0) v1) 42 2 1) := Bd.o1 hB53 io9_112_42_5 (by decide) bd9_5_2 (show (1 : Int32).toInt = 1 from rfl) (by omega)
  have e55 : ((v1 + 1) : Int32).toInt = (v1.toInt) + (1) := ti_add rfl rfl (by omega)
  have e56 : (((uI (uI I 44 (Int32.toNatClampNeg 0) v1) 42 2 1) 42 2) : Int32).toInt = 1 := Eq.trans (congrArg Int32.toInt rd_eq) rfl
  exact (L 1000000) _ _ _ _ hB54 (by have q0 : (v1 : Int32).toInt = v1.toInt := rfl; have q1 : ((v1 + 1) : Int32).toInt = (v1.toInt + 1) := e55; have q2 : (((uI (uI I 44 (Int32.toNatClampNeg 0) v1) 42 2 1) 42 2) : Int32).toInt = 1 := e56; have q3 : (((uI (uI I 44 (Int32.toNatClampNeg 0) v1) 42 2 1) 42 2) : Int32).toInt = 1 := e56; omega) (by have q0 : ((v1 + 1) : Int32).toInt = (v1.toInt + 1) := e55; omega)
set_option maxHeartbeats 2000000 in
theorem sp_X5_find {d : Nat} {Q : Qt} {v1 : Int32} {v2 : Int32} {I : Im} {J : Jm} {R : Rm} (hB0 : Bd I) (hR0 : RI R) (hv2 : 1 ≤ v2.toInt ∧ v2.toInt ≤ 30) (hQ : ∀ (x : Int32) (y : Int64) (I2 : Im) (J2 : Jm), Bd I2 → (True) → Q x y I2 J2 R) : AM (d + 3) 54 112 [.ref 42, .int v1, .int v2] I J R Q := by
  have i_v1 := i32 v1
  have i_v2 := i32 v2
  refine am_X5_find (fun P hc => ?_)
  have L : ∀ n : Nat, (∀ (v3 : Int32) (v4 : Int32) (v5 : Int32) (M : Im) (JM : Jm), Bd M → (1 ≤ v2.toInt ∧ v2.toInt ≤ 30 ∧ 1 ≤ v5.toInt ∧ v5.toInt ≤ v2.toInt + 1 ∧ (v3.toInt = -1 ∨ (1 ≤ v3.toInt ∧ v3.toInt ≤ v2.toInt))) → 40 - v5.toInt < (n : Int) → P 15 112 [(0, .ref 42), (1, .int v1), (2, .int v2), (3, .int v3), (4, .int v4), (5, .int v5)] [] M JM R) := by
    intro n
    induction n with
    | zero =>
      exact fun v3 v4 v5 M J _ hi hm => absurd hm (by omega)
    | succ n ih =>
      intro v3 v4 v5 M JM hB hi hm
      have i_v1 := i32 v1
      have i_v2 := i32 v2
      have i_v3 := i32 v3
      have i_v4 := i32 v4
      have i_v5 := i32 v5
      refine sg_X5_find_15 hc _ _ _ _ _ _ _ _ ?_
      refine ⟨fun c1 => ?_, fun c1 => ?_⟩
      · skip
        have d2 : ((v2.toInt) : Int) < (v5.toInt) := ci_lt rfl rfl c1
        refine ⟨fun c3 => ?_, fun c3 => ?_⟩
        · skip
          have d4 : ¬ ((v3.toInt) : Int) = ((-1)) := ci_ne rfl rfl c3
          refine sp_X5_follow hB hR0 (by have z1 : (v3 : Int32).toInt = v3.toInt := rfl; have z2 : (v2 : Int32).toInt = v2.toInt := rfl; omega) (fun x5 y10 I6 J7 hB8 p9 => ?_)
          refine ⟨Or.inr rfl, ?_⟩
          exact hQ _ _ _ _ hB8 trivial
        · skip
          have d11 : ((v3.toInt) : Int) = ((-1)) := ci_eq rfl rfl c3
          refine ⟨Or.inl rfl, ?_⟩
          exact hQ _ _ _ _ hB trivial
      · skip
        have d12 : ((v5.toInt) : Int) ≤ (v2.toInt) := ci_nlt rfl rfl c1
        refine w_X11_isIn ?_
        refine ⟨fun c13 => ?_, fun c13 => ?_⟩
        · skip
          have d14 : ((((v1 &&& (1 <<< ((v5 - 1) &&& 31))) : Int32).toInt) : Int) = (0) := ci_eq rfl rfl c13
          refine ⟨Or.inl rfl, ?_⟩
          intro o15
          refine ⟨fun c16 => ?_, fun c16 => ?_⟩
          · skip
            have e17 : ((v5 + 1) : Int32).toInt = (v5.toInt) + (1) := ti_add rfl rfl (by omega)
            exact ih _ _ _ _ _ hB (by have q0 : (v3 : Int32).toInt = v3.toInt := rfl; have q1 : ((v5 + 1) : Int32).toInt = (v5.toInt + 1) := e17; omega) (by have q0 : ((v5 + 1) : Int32).toInt = (v5.toInt + 1) := e17; omega)
          · exact absurd c16 (by decide)
        · skip
          have d18 : ¬ ((((v1 &&& (1 <<< ((v5 - 1) &&& 31))) : Int32).toInt) : Int) = (0) := ci_ne rfl rfl c13
          refine ⟨Or.inr rfl, ?_⟩
          intro o19
          refine ⟨fun c20 => ?_, fun c20 => ?_⟩
          · exact absurd c20 (by decide)
          · skip
            refine ⟨vp_of (a := v5.toInt) rfl (by omega) (by omega), ?_⟩
            refine ⟨fun c21 => ?_, fun c21 => ?_⟩
            · skip
              have d22 : ((v4.toInt) : Int) ≤ ((M 43 (Int32.toNatClampNeg v5)).toInt) := ci_le rfl rfl c21
              have e23 : ((v5 + 1) : Int32).toInt = (v5.toInt) + (1) := ti_add rfl rfl (by omega)
              exact ih _ _ _ _ _ hB (by have q0 : (v3 : Int32).toInt = v3.toInt := rfl; have q1 : ((v5 + 1) : Int32).toInt = (v5.toInt + 1) := e23; omega) (by have q0 : ((v5 + 1) : Int32).toInt = (v5.toInt + 1) := e23; omega)
            · skip
              have d24 : (((M 43 (Int32.toNatClampNeg v5)).toInt) : Int) < (v4.toInt) := ci_nle rfl rfl c21
              refine ⟨vp_of (a := v5.toInt) rfl (by omega) (by omega), ?_⟩
              have e25 : ((v5 + 1) : Int32).toInt = (v5.toInt) + (1) := ti_add rfl rfl (by omega)
              exact ih _ _ _ _ _ hB (by have q0 : (v5 : Int32).toInt = v5.toInt := rfl; have q1 : ((v5 + 1) : Int32).toInt = (v5.toInt + 1) := e25; omega) (by have q0 : ((v5 + 1) : Int32).toInt = (v5.toInt + 1) := e25; omega)
  refine sg_X5_find_0 hc _ _ _ _ _ ?_
  refine sp_X5_countSteps hB0 hR0 (by have z : (v2 : Int32).toInt = v2.toInt := rfl; omega) (fun x26 y31 I27 J28 hB29 p30 => ?_)
  exact (L 1000000) _ _ _ _ _ hB29 (by have q0 : ((-1) : Int32).toInt = (-1) := rfl; have q1 : (1 : Int32).toInt = 1 := rfl; omega) (by have q0 : (1 : Int32).toInt = 1 := rfl; omega)
set_option maxHeartbeats 2000000 in
theorem sp_X7_begin {d : Nat} {Q : Qt} {v1 : Int32} {v2 : Int32} {I : Im} {J : Jm} {R : Rm} (hB0 : Bd I) (hR0 : RI R) (hQ : ∀ (x : Int32) (y : Int64) (I2 : Im) (J2 : Jm), Bd I2 → (True) → Q x y I2 J2 R) : AM (d + 2) 75 112 [.ref 35, .int v1, .int v2] I J R Q := by
  have i_v1 := i32 v1
  have i_v2 := i32 v2
  refine w_X7_begin ?_
  have hB1 : Bd (uI I 35 0 v1) := Bd.o0 hB0 io9_112_35_7 (by decide) bd9_7_0
  have hB2 : Bd (uI (uI I 35 0 v1) 35 1 v2) := Bd.o0 hB1 io9_112_35_7 (by decide) bd9_7_1
  have hB3 : Bd (uI (uI (uI I 35 0 v1) 35 1 v2) 35 5 0) := Bd.o1 hB2 io9_112_35_7 (by decide) bd9_7_5 (show (0 : Int32).toInt = 0 from rfl) (by omega)
  have hB4 : Bd (uI (uI (uI (uI I 35 0 v1) 35 1 v2) 35 5 0) 35 6 0) := Bd.o0 hB3 io9_112_35_7 (by decide) bd9_7_6
  refine sp_J7_fill_53178 hB4 hR0 (show isA 112 38 0 = true from rfl) (show bna 38 = none from rfl) (fun x5 y10 I6 J7 hB8 p9 => ?_)
  exact hQ _ _ _ _ hB8 trivial
set_option maxHeartbeats 2000000 in
theorem sp_X7_meet {d : Nat} {Q : Qt} {v1 : Int32} {I : Im} {J : Jm} {R : Rm} (hB0 : Bd I) (hR0 : RI R) (hQ : ∀ (x : Int32) (y : Int64) (I2 : Im) (J2 : Jm), Bd I2 → (True) → Q x y I2 J2 R) : AM (d + 2) 84 112 [.ref 35, .int v1] I J R Q := by
  have i_v1 := i32 v1
  refine am_X7_meet (fun P hc => ?_)
  have L : ∀ n : Nat, (∀ (v2 : Int32) (M : Im) (JM : Jm), Bd M → (0 ≤ v2.toInt ∧ v2.toInt ≤ 5) → 6 - v2.toInt < (n : Int) → P 20 112 [(0, .ref 35), (2, .int v2)] [] M JM R) := by
    intro n
    induction n with
    | zero =>
      exact fun v2 M J _ hi hm => absurd hm (by omega)
    | succ n ih =>
      intro v2 M JM hB hi hm
      have i_v2 := i32 v2
      refine sg_X7_meet_20 hc _ _ _ _ ?_
      refine ⟨fun c1 => ?_, fun c1 => ?_⟩
      · skip
        have b2 := Bd.o hB io9_112_35_7 bd9_7_2
        have d3 : (((M 35 2).toInt) : Int) ≤ (v2.toInt) := ci_le rfl rfl c1
        refine ⟨Or.inl rfl, ?_⟩
        exact hQ _ _ _ _ hB trivial
      · skip
        have b4 := Bd.o hB io9_112_35_7 bd9_7_2
        have d5 : ((v2.toInt) : Int) < ((M 35 2).toInt) := ci_nle rfl rfl c1
        refine ⟨vp_of (a := v2.toInt) rfl (by omega) (by omega), ?_⟩
        have b6 := Bd.a hB (Int32.toNatClampNeg v2) (show bna 36 = some _ from rfl)
        refine ⟨vp_of (a := (M 36 (Int32.toNatClampNeg v2)).toInt) rfl (by omega) (by omega), ?_⟩
        refine ⟨vp_of (a := (M 36 (Int32.toNatClampNeg v2)).toInt) rfl (by omega) (by omega), ?_⟩
        have hB7 : Bd (uI M 38 (Int32.toNatClampNeg (M 36 (Int32.toNatClampNeg v2))) ((M 38 (Int32.toNatClampNeg (M 36 (Int32.toNatClampNeg v2)))) + 1)) := Bd.a0 hB (show isA 112 38 0 = true from rfl) (show bna 38 = none from rfl)
        have e8 : ((v2 + 1) : Int32).toInt = (v2.toInt) + (1) := ti_add rfl rfl (by omega)
        exact ih _ _ _ hB7 (by have q0 : ((v2 + 1) : Int32).toInt = (v2.toInt + 1) := e8; omega) (by have q0 : ((v2 + 1) : Int32).toInt = (v2.toInt + 1) := e8; omega)
  refine sg_X7_meet_0 hc _ _ _ _ ?_
  refine ⟨fun c9 => ?_, fun c9 => ?_⟩
  · skip
    have d10 : ¬ (((I 35 0).toInt) : Int) = (1) := ci_ne rfl rfl c9
    have b11 := Bd.o hB0 io9_112_35_7 bd9_7_2
    refine ⟨⟨(fun z => by have z2 : (0 : Int) < 0 := ci_lt rfl rfl z; omega), (fun z => by have z2 : (0 : Int) < 0 := ci_lt rfl rfl z; omega), (fun z => by have z2 : ((I 35 2).toInt : Int) < 0 := ci_lt rfl rfl z; omega), (by have z1 := tn_of (show ((I 35 2) : Int32).toInt = (I 35 2).toInt from rfl) (by omega); have z2 := tn_of (show (0 : Int32).toInt = 0 from rfl) (by omega); omega), (by have z1 := tn_of (show ((I 35 2) : Int32).toInt = (I 35 2).toInt from rfl) (by omega); have z2 := tn_of (show (0 : Int32).toInt = 0 from rfl) (by omega); omega)⟩, ?_⟩
    have hB12 : Bd (cI I 36 37 (Int32.toNatClampNeg 0) (Int32.toNatClampNeg 0) (Int32.toNatClampNeg (I 35 2))) := Bd.cp hB0 (show isA 112 37 0 = true from rfl) (show bna 37 = none from rfl)
    have e14 : (((cI I 36 37 (Int32.toNatClampNeg 0) (Int32.toNatClampNeg 0) (Int32.toNatClampNeg (I 35 2))) 35 2) : Int32).toInt = (I 35 2).toInt := Eq.trans (congrArg Int32.toInt (rd_c (by omega))) rfl
    have hB13 : Bd (uI (cI I 36 37 (Int32.toNatClampNeg 0) (Int32.toNatClampNeg 0) (Int32.toNatClampNeg (I 35 2))) 35 5 ((cI I 36 37 (Int32.toNatClampNeg 0) (Int32.toNatClampNeg 0) (Int32.toNatClampNeg (I 35 2))) 35 2)) := Bd.o1 hB12 io9_112_35_7 (by decide) bd9_7_5 (show (((cI I 36 37 (Int32.toNatClampNeg 0) (Int32.toNatClampNeg 0) (Int32.toNatClampNeg (I 35 2))) 35 2) : Int32).toInt = (I 35 2).toInt from e14) (by omega)
    refine ⟨fun c15 => ?_, fun c15 => ?_⟩
    · skip
      have e16 : (((uI (cI I 36 37 (Int32.toNatClampNeg 0) (Int32.toNatClampNeg 0) (Int32.toNatClampNeg (I 35 2))) 35 5 ((cI I 36 37 (Int32.toNatClampNeg 0) (Int32.toNatClampNeg 0) (Int32.toNatClampNeg (I 35 2))) 35 2)) 35 0) : Int32).toInt = (I 35 0).toInt := Eq.trans (congrArg Int32.toInt (Eq.trans (rd_k (by decide)) (rd_c (by omega)))) rfl
      have d17 : ¬ (((I 35 0).toInt) : Int) = (2) := ci_ne e16 rfl c15
      have hB18 : Bd (uI (uI (cI I 36 37 (Int32.toNatClampNeg 0) (Int32.toNatClampNeg 0) (Int32.toNatClampNeg (I 35 2))) 35 5 ((cI I 36 37 (Int32.toNatClampNeg 0) (Int32.toNatClampNeg 0) (Int32.toNatClampNeg (I 35 2))) 35 2)) 35 1 ((uI (cI I 36 37 (Int32.toNatClampNeg 0) (Int32.toNatClampNeg 0) (Int32.toNatClampNeg (I 35 2))) 35 5 ((cI I 36 37 (Int32.toNatClampNeg 0) (Int32.toNatClampNeg 0) (Int32.toNatClampNeg (I 35 2))) 35 2)) 35 1)) := Bd.o0 hB13 io9_112_35_7 (by decide) bd9_7_1
      refine ⟨fun c19 => ?_, fun c19 => ?_⟩
      · skip
        have e20 : (((uI (uI (cI I 36 37 (Int32.toNatClampNeg 0) (Int32.toNatClampNeg 0) (Int32.toNatClampNeg (I 35 2))) 35 5 ((cI I 36 37 (Int32.toNatClampNeg 0) (Int32.toNatClampNeg 0) (Int32.toNatClampNeg (I 35 2))) 35 2)) 35 1 ((uI (cI I 36 37 (Int32.toNatClampNeg 0) (Int32.toNatClampNeg 0) (Int32.toNatClampNeg (I 35 2))) 35 5 ((cI I 36 37 (Int32.toNatClampNeg 0) (Int32.toNatClampNeg 0) (Int32.toNatClampNeg (I 35 2))) 35 2)) 35 1)) 35 0) : Int32).toInt = (I 35 0).toInt := Eq.trans (congrArg Int32.toInt (Eq.trans (Eq.trans (rd_k (by decide)) (rd_k (by decide))) (rd_c (by omega)))) rfl
        have d21 : ¬ (((I 35 0).toInt) : Int) = (0) := ci_ne e20 rfl c19
        refine ⟨Or.inl rfl, ?_⟩
        exact hQ _ _ _ _ hB18 trivial
      · skip
        have e22 : (((uI (uI (cI I 36 37 (Int32.toNatClampNeg 0) (Int32.toNatClampNeg 0) (Int32.toNatClampNeg (I 35 2))) 35 5 ((cI I 36 37 (Int32.toNatClampNeg 0) (Int32.toNatClampNeg 0) (Int32.toNatClampNeg (I 35 2))) 35 2)) 35 1 ((uI (cI I 36 37 (Int32.toNatClampNeg 0) (Int32.toNatClampNeg 0) (Int32.toNatClampNeg (I 35 2))) 35 5 ((cI I 36 37 (Int32.toNatClampNeg 0) (Int32.toNatClampNeg 0) (Int32.toNatClampNeg (I 35 2))) 35 2)) 35 1)) 35 0) : Int32).toInt = (I 35 0).toInt := Eq.trans (congrArg Int32.toInt (Eq.trans (Eq.trans (rd_k (by decide)) (rd_k (by decide))) (rd_c (by omega)))) rfl
        have d23 : (((I 35 0).toInt) : Int) = (0) := ci_eq e22 rfl c19
        refine ⟨Or.inr rfl, ?_⟩
        exact hQ _ _ _ _ hB18 trivial
    · skip
      have e24 : (((uI (cI I 36 37 (Int32.toNatClampNeg 0) (Int32.toNatClampNeg 0) (Int32.toNatClampNeg (I 35 2))) 35 5 ((cI I 36 37 (Int32.toNatClampNeg 0) (Int32.toNatClampNeg 0) (Int32.toNatClampNeg (I 35 2))) 35 2)) 35 0) : Int32).toInt = (I 35 0).toInt := Eq.trans (congrArg Int32.toInt (Eq.trans (rd_k (by decide)) (rd_c (by omega)))) rfl
      have d25 : (((I 35 0).toInt) : Int) = (2) := ci_eq e24 rfl c15
      refine w_X11_bit ?_
      have hB26 : Bd (uI (uI (cI I 36 37 (Int32.toNatClampNeg 0) (Int32.toNatClampNeg 0) (Int32.toNatClampNeg (I 35 2))) 35 5 ((cI I 36 37 (Int32.toNatClampNeg 0) (Int32.toNatClampNeg 0) (Int32.toNatClampNeg (I 35 2))) 35 2)) 35 1 (((uI (cI I 36 37 (Int32.toNatClampNeg 0) (Int32.toNatClampNeg 0) (Int32.toNatClampNeg (I 35 2))) 35 5 ((cI I 36 37 (Int32.toNatClampNeg 0) (Int32.toNatClampNeg 0) (Int32.toNatClampNeg (I 35 2))) 35 2)) 35 1) &&& ((1 <<< ((v1 - 1) &&& 31)) - 1))) := Bd.o0 hB13 io9_112_35_7 (by decide) bd9_7_1
      refine ⟨fun c27 => ?_, fun c27 => ?_⟩
      · skip
        have e28 : (((uI (uI (cI I 36 37 (Int32.toNatClampNeg 0) (Int32.toNatClampNeg 0) (Int32.toNatClampNeg (I 35 2))) 35 5 ((cI I 36 37 (Int32.toNatClampNeg 0) (Int32.toNatClampNeg 0) (Int32.toNatClampNeg (I 35 2))) 35 2)) 35 1 (((uI (cI I 36 37 (Int32.toNatClampNeg 0) (Int32.toNatClampNeg 0) (Int32.toNatClampNeg (I 35 2))) 35 5 ((cI I 36 37 (Int32.toNatClampNeg 0) (Int32.toNatClampNeg 0) (Int32.toNatClampNeg (I 35 2))) 35 2)) 35 1) &&& ((1 <<< ((v1 - 1) &&& 31)) - 1))) 35 0) : Int32).toInt = (I 35 0).toInt := Eq.trans (congrArg Int32.toInt (Eq.trans (Eq.trans (rd_k (by decide)) (rd_k (by decide))) (rd_c (by omega)))) rfl
        have d29 : ¬ (((I 35 0).toInt) : Int) = (0) := ci_ne e28 rfl c27
        refine ⟨Or.inl rfl, ?_⟩
        exact hQ _ _ _ _ hB26 trivial
      · skip
        have e30 : (((uI (uI (cI I 36 37 (Int32.toNatClampNeg 0) (Int32.toNatClampNeg 0) (Int32.toNatClampNeg (I 35 2))) 35 5 ((cI I 36 37 (Int32.toNatClampNeg 0) (Int32.toNatClampNeg 0) (Int32.toNatClampNeg (I 35 2))) 35 2)) 35 1 (((uI (cI I 36 37 (Int32.toNatClampNeg 0) (Int32.toNatClampNeg 0) (Int32.toNatClampNeg (I 35 2))) 35 5 ((cI I 36 37 (Int32.toNatClampNeg 0) (Int32.toNatClampNeg 0) (Int32.toNatClampNeg (I 35 2))) 35 2)) 35 1) &&& ((1 <<< ((v1 - 1) &&& 31)) - 1))) 35 0) : Int32).toInt = (I 35 0).toInt := Eq.trans (congrArg Int32.toInt (Eq.trans (Eq.trans (rd_k (by decide)) (rd_k (by decide))) (rd_c (by omega)))) rfl
        have d31 : (((I 35 0).toInt) : Int) = (0) := ci_eq e30 rfl c27
        refine ⟨Or.inr rfl, ?_⟩
        exact hQ _ _ _ _ hB26 trivial
  · skip
    have d32 : (((I 35 0).toInt) : Int) = (1) := ci_eq rfl rfl c9
    have hB33 : Bd (uI I 35 6 ((I 35 6) + 1)) := Bd.o0 hB0 io9_112_35_7 (by decide) bd9_7_6
    exact (L 1000000) _ _ _ hB33 (by have q0 : (0 : Int32).toInt = 0 := rfl; omega) (by have q0 : (0 : Int32).toInt = 0 := rfl; omega)
set_option maxHeartbeats 2000000 in
theorem sp_X7_putLast {d : Nat} {Q : Qt} {v1 : Int32} {v2 : Int32} {v3 : Int64} {I : Im} {J : Jm} {R : Rm} (hB0 : Bd I) (hR0 : RI R) (hv1 : 0 ≤ v1.toInt ∧ v1.toInt ≤ 4) (hv2 : 1 ≤ v2.toInt) (hQ : ∀ (x : Int32) (y : Int64) (I2 : Im) (J2 : Jm), Bd I2 → (True) → Q x y I2 J2 R) : AM (d + 3) 83 112 [.ref 35, .int v1, .int v2, .long v3] I J R Q := by
  have i_v1 := i32 v1
  have i_v2 := i32 v2
  have i_v3 := i64 v3
  refine w_X7_putLast ?_
  refine ⟨fun c1 => ?_, fun c1 => ?_⟩
  · skip
    rw [lg_cmp_lt] at c1
    have d2 : (((v3 : Int64).toInt) : Int) < (1) := cl_lt rfl rfl c1
    refine ⟨Or.inl rfl, ?_⟩
    exact hQ _ _ _ _ hB0 trivial
  · skip
    rw [lg_cmp_lt] at c1
    have d3 : ((1) : Int) ≤ ((v3 : Int64).toInt) := cl_nlt rfl rfl c1
    refine ⟨(fun z => by have z2 : ((v3 : Int64).toInt : Int) = 0 := cl_eq rfl rfl z; omega), ?_⟩
    refine ⟨fun c4 => ?_, fun c4 => ?_⟩
    · skip
      rw [lg_cmp_eq] at c4
      have d5 : ((((2329089562800 - 2329089562800 / v3 * v3) : Int64).toInt) : Int) = (0) := cl_eq rfl rfl c4
      refine ⟨(fun z => by have z2 : ((v3 : Int64).toInt : Int) = 0 := cl_eq rfl rfl z; omega), ?_⟩
      refine ⟨fun c6 => ?_, fun c6 => ?_⟩
      · skip
        rw [lg_cmp_lt] at c6
        have d7 : ((((2329089562800 / v3) : Int64).toInt) : Int) < (v2.toInt) := cl_lt rfl (tl_i2l rfl) c6
        refine ⟨Or.inl rfl, ?_⟩
        exact hQ _ _ _ _ hB0 trivial
      · skip
        rw [lg_cmp_lt] at c6
        have d8 : ((v2.toInt) : Int) ≤ (((2329089562800 / v3) : Int64).toInt) := cl_nlt rfl (tl_i2l rfl) c6
        refine ⟨fun c9 => ?_, fun c9 => ?_⟩
        · skip
          rw [lg_cmp_gt] at c9
          have d10 : ((30) : Int) < (((2329089562800 / v3) : Int64).toInt) := cl_lt rfl rfl c9
          refine ⟨Or.inl rfl, ?_⟩
          exact hQ _ _ _ _ hB0 trivial
        · skip
          rw [lg_cmp_gt] at c9
          have d11 : ((((2329089562800 / v3) : Int64).toInt) : Int) ≤ (30) := cl_nlt rfl rfl c9
          refine w_X11_isIn ?_
          refine ⟨fun c12 => ?_, fun c12 => ?_⟩
          · skip
            have d13 : (((((I 35 1) &&& (1 <<< (((Int64.toInt32 (2329089562800 / v3)) - 1) &&& 31))) : Int32).toInt) : Int) = (0) := ci_eq rfl rfl c12
            refine ⟨Or.inl rfl, ?_⟩
            intro o14
            refine ⟨fun c15 => ?_, fun c15 => ?_⟩
            · exact absurd c15 (by decide)
            · skip
              refine ⟨Or.inl rfl, ?_⟩
              exact hQ _ _ _ _ hB0 trivial
          · skip
            have d16 : ¬ (((((I 35 1) &&& (1 <<< (((Int64.toInt32 (2329089562800 / v3)) - 1) &&& 31))) : Int32).toInt) : Int) = (0) := ci_ne rfl rfl c12
            refine ⟨Or.inr rfl, ?_⟩
            intro o17
            refine ⟨fun c18 => ?_, fun c18 => ?_⟩
            · skip
              refine ⟨vp_of (a := v1.toInt) rfl (by omega) (by omega), ?_⟩
              have e20 : ((Int64.toInt32 (2329089562800 / v3)) : Int32).toInt = ((2329089562800 / v3) : Int64).toInt := tl_l2i rfl (by omega)
              have hB19 : Bd (uI I 36 (Int32.toNatClampNeg v1) (Int64.toInt32 (2329089562800 / v3))) := Bd.a1 hB0 (show isA 112 36 0 = true from rfl) (show bna 36 = some _ from rfl) (show ((Int64.toInt32 (2329089562800 / v3)) : Int32).toInt = ((2329089562800 / v3) : Int64).toInt from e20) (by omega)
              refine sp_X7_meet hB19 hR0 (fun x21 y26 I22 J23 hB24 p25 => ?_)
              intro o27
              have i28 := i32 x21
              refine ⟨o27, ?_⟩
              exact hQ _ _ _ _ hB24 trivial
            · exact absurd c18 (by decide)
    · skip
      rw [lg_cmp_eq] at c4
      have d29 : ¬ ((((2329089562800 - 2329089562800 / v3 * v3) : Int64).toInt) : Int) = (0) := cl_ne rfl rfl c4
      refine ⟨Or.inl rfl, ?_⟩
      exact hQ _ _ _ _ hB0 trivial
set_option maxHeartbeats 2000000 in
theorem sp_X7_seek_r (m : Nat) : ∀ {d : Nat} {Q : Qt} {v1 : Int32} {v2 : Int32} {v3 : Int64} {I : Im} {J : Jm} {R : Rm} (hB0 : Bd I) (hR0 : RI R) (hv1 : 0 ≤ v1.toInt ∧ v1.toInt ≤ 5) (hv2 : 1 ≤ v2.toInt ∧ v2.toInt ≤ 31) (hm0 : 6 - v1.toInt ≤ (m : Int)) (hQ : ∀ (x : Int32) (y : Int64) (I2 : Im) (J2 : Jm), Bd I2 → (True) → Q x y I2 J2 R), AM (d + m + 5) 82 112 [.ref 35, .int v1, .int v2, .long v3] I J R Q := by
  induction m with
  | zero => intro d Q v1 v2 v3 I J R hB0 hR0 hv1 hv2 hm0 hQ; exact absurd hm0 (by omega)
  | succ m ihm =>
  intro d Q v1 v2 v3 I J R hB0 hR0 hv1 hv2 hm0 hQ
  have i_v1 := i32 v1
  have i_v2 := i32 v2
  have i_v3 := i64 v3
  refine am_X7_seek (fun P hc => ?_)
  have L : ∀ n : Nat, (∀ (v5 : Int32) (v6 : Int32) (M : Im) (JM : Jm), Bd M → (0 ≤ v1.toInt ∧ v1.toInt ≤ 4 ∧ 1 ≤ v6.toInt ∧ v6.toInt ≤ 31) → 40 - v6.toInt < (n : Int) → P 38 112 [(0, .ref 35), (1, .int v1), (3, .long v3), (5, .int v5), (6, .int v6)] [] M JM R) := by
    intro n
    induction n with
    | zero =>
      exact fun v5 v6 M J _ hi hm => absurd hm (by omega)
    | succ n ih =>
      intro v5 v6 M JM hB hi hm
      have i_v1 := i32 v1
      have i_v3 := i64 v3
      have i_v5 := i32 v5
      have i_v6 := i32 v6
      refine sg_X7_seek_38 hc _ _ _ _ _ _ _ ?_
      refine ⟨fun c1 => ?_, fun c1 => ?_⟩
      · skip
        have d2 : ((30) : Int) < (v6.toInt) := ci_lt rfl rfl c1
        refine ⟨Or.inl rfl, ?_⟩
        exact hQ _ _ _ _ hB trivial
      · skip
        have d3 : ((v6.toInt) : Int) ≤ (30) := ci_nlt rfl rfl c1
        refine w_X11_crumbs ?_
        refine ⟨fun c4 => ?_, fun c4 => ?_⟩
        · skip
          have d5 : ((1) : Int) ≤ (v6.toInt) := ci_le rfl rfl c4
          refine ⟨(fun z => by have z2 : (v6.toInt : Int) = 0 := cl_eq (tl_i2l rfl) rfl z; omega), ?_⟩
          refine ⟨fun c6 => ?_, fun c6 => ?_⟩
          · skip
            rw [lg_cmp_gt] at c6
            have d7 : (((v3 : Int64).toInt) : Int) < (((((Int32.toInt64 1) * (2329089562800 / (Int32.toInt64 v6))) * (Int32.toInt64 v5)) : Int64).toInt) := cl_lt rfl rfl c6
            refine ⟨fun c8 => ?_, fun c8 => ?_⟩
            · skip
              rw [lg_cmp_ge] at c8
              have d9 : (((v3 : Int64).toInt) : Int) ≤ ((((Int32.toInt64 1) * (2329089562800 / (Int32.toInt64 v6))) : Int64).toInt) := cl_le rfl rfl c8
              have e10 : ((v6 + 1) : Int32).toInt = (v6.toInt) + (1) := ti_add rfl rfl (by omega)
              exact ih _ _ _ _ hB (by have q0 : ((v6 + 1) : Int32).toInt = (v6.toInt + 1) := e10; omega) (by have q0 : ((v6 + 1) : Int32).toInt = (v6.toInt + 1) := e10; omega)
            · skip
              rw [lg_cmp_ge] at c8
              have d11 : (((((Int32.toInt64 1) * (2329089562800 / (Int32.toInt64 v6))) : Int64).toInt) : Int) < ((v3 : Int64).toInt) := cl_nle rfl rfl c8
              refine w_X11_isIn ?_
              refine ⟨fun c12 => ?_, fun c12 => ?_⟩
              · skip
                have d13 : (((((M 35 1) &&& (1 <<< ((v6 - 1) &&& 31))) : Int32).toInt) : Int) = (0) := ci_eq rfl rfl c12
                refine ⟨Or.inl rfl, ?_⟩
                intro o14
                refine ⟨fun c15 => ?_, fun c15 => ?_⟩
                · skip
                  have e16 : ((v6 + 1) : Int32).toInt = (v6.toInt) + (1) := ti_add rfl rfl (by omega)
                  exact ih _ _ _ _ hB (by have q0 : ((v6 + 1) : Int32).toInt = (v6.toInt + 1) := e16; omega) (by have q0 : ((v6 + 1) : Int32).toInt = (v6.toInt + 1) := e16; omega)
                · exact absurd c15 (by decide)
              · skip
                have d17 : ¬ (((((M 35 1) &&& (1 <<< ((v6 - 1) &&& 31))) : Int32).toInt) : Int) = (0) := ci_ne rfl rfl c12
                refine ⟨Or.inr rfl, ?_⟩
                intro o18
                refine ⟨fun c19 => ?_, fun c19 => ?_⟩
                · exact absurd c19 (by decide)
                · skip
                  refine ⟨vp_of (a := v1.toInt) rfl (by omega) (by omega), ?_⟩
                  have hB20 : Bd (uI M 36 (Int32.toNatClampNeg v1) v6) := Bd.a1 hB (show isA 112 36 0 = true from rfl) (show bna 36 = some _ from rfl) (show (v6 : Int32).toInt = v6.toInt from rfl) (by omega)
                  have e21 : ((v1 + 1) : Int32).toInt = (v1.toInt) + (1) := ti_add rfl rfl (by omega)
                  have e22 : ((v6 + 1) : Int32).toInt = (v6.toInt) + (1) := ti_add rfl rfl (by omega)
                  refine ihm (d := d) hB20 hR0 (by have z : ((v1 + 1) : Int32).toInt = (v1.toInt + 1) := e21; omega) (by have z : ((v6 + 1) : Int32).toInt = (v6.toInt + 1) := e22; omega) (by have z : ((v1 + 1) : Int32).toInt = (v1.toInt + 1) := e21; omega) (fun x23 y28 I24 J25 hB26 p27 => ?_)
                  intro o29
                  have i30 := i32 x23
                  refine ⟨fun c31 => ?_, fun c31 => ?_⟩
                  · skip
                    have d32 : ((x23.toInt) : Int) = (0) := ci_eq rfl rfl c31
                    exact ih _ _ _ _ hB26 (by have q0 : ((v6 + 1) : Int32).toInt = (v6.toInt + 1) := e22; omega) (by have q0 : ((v6 + 1) : Int32).toInt = (v6.toInt + 1) := e22; omega)
                  · skip
                    have d33 : ¬ ((x23.toInt) : Int) = (0) := ci_ne rfl rfl c31
                    refine ⟨Or.inr rfl, ?_⟩
                    exact hQ _ _ _ _ hB26 trivial
          · skip
            rw [lg_cmp_gt] at c6
            have d34 : ((((((Int32.toInt64 1) * (2329089562800 / (Int32.toInt64 v6))) * (Int32.toInt64 v5)) : Int64).toInt) : Int) ≤ ((v3 : Int64).toInt) := cl_nlt rfl rfl c6
            refine ⟨Or.inl rfl, ?_⟩
            exact hQ _ _ _ _ hB trivial
        · skip
          have d35 : ((v6.toInt) : Int) < (1) := ci_nle rfl rfl c4
          refine ⟨fun c36 => ?_, fun c36 => ?_⟩
          · skip
            rw [lg_cmp_gt] at c36
            have d37 : (((v3 : Int64).toInt) : Int) < (((0 * (Int32.toInt64 v5)) : Int64).toInt) := cl_lt rfl rfl c36
            refine ⟨fun c38 => ?_, fun c38 => ?_⟩
            · skip
              rw [lg_cmp_ge] at c38
              have d39 : (((v3 : Int64).toInt) : Int) ≤ (0) := cl_le rfl rfl c38
              have e40 : ((v6 + 1) : Int32).toInt = (v6.toInt) + (1) := ti_add rfl rfl (by omega)
              exact ih _ _ _ _ hB (by have q0 : ((v6 + 1) : Int32).toInt = (v6.toInt + 1) := e40; omega) (by have q0 : ((v6 + 1) : Int32).toInt = (v6.toInt + 1) := e40; omega)
            · skip
              rw [lg_cmp_ge] at c38
              have d41 : ((0) : Int) < ((v3 : Int64).toInt) := cl_nle rfl rfl c38
              refine w_X11_isIn ?_
              refine ⟨fun c42 => ?_, fun c42 => ?_⟩
              · skip
                have d43 : (((((M 35 1) &&& (1 <<< ((v6 - 1) &&& 31))) : Int32).toInt) : Int) = (0) := ci_eq rfl rfl c42
                refine ⟨Or.inl rfl, ?_⟩
                intro o44
                refine ⟨fun c45 => ?_, fun c45 => ?_⟩
                · skip
                  have e46 : ((v6 + 1) : Int32).toInt = (v6.toInt) + (1) := ti_add rfl rfl (by omega)
                  exact ih _ _ _ _ hB (by have q0 : ((v6 + 1) : Int32).toInt = (v6.toInt + 1) := e46; omega) (by have q0 : ((v6 + 1) : Int32).toInt = (v6.toInt + 1) := e46; omega)
                · exact absurd c45 (by decide)
              · skip
                have d47 : ¬ (((((M 35 1) &&& (1 <<< ((v6 - 1) &&& 31))) : Int32).toInt) : Int) = (0) := ci_ne rfl rfl c42
                refine ⟨Or.inr rfl, ?_⟩
                intro o48
                refine ⟨fun c49 => ?_, fun c49 => ?_⟩
                · exact absurd c49 (by decide)
                · skip
                  refine ⟨vp_of (a := v1.toInt) rfl (by omega) (by omega), ?_⟩
                  have hB50 : Bd (uI M 36 (Int32.toNatClampNeg v1) v6) := Bd.a1 hB (show isA 112 36 0 = true from rfl) (show bna 36 = some _ from rfl) (show (v6 : Int32).toInt = v6.toInt from rfl) (by omega)
                  have e51 : ((v1 + 1) : Int32).toInt = (v1.toInt) + (1) := ti_add rfl rfl (by omega)
                  have e52 : ((v6 + 1) : Int32).toInt = (v6.toInt) + (1) := ti_add rfl rfl (by omega)
                  refine ihm (d := d) hB50 hR0 (by have z : ((v1 + 1) : Int32).toInt = (v1.toInt + 1) := e51; omega) (by have z : ((v6 + 1) : Int32).toInt = (v6.toInt + 1) := e52; omega) (by have z : ((v1 + 1) : Int32).toInt = (v1.toInt + 1) := e51; omega) (fun x53 y58 I54 J55 hB56 p57 => ?_)
                  intro o59
                  have i60 := i32 x53
                  refine ⟨fun c61 => ?_, fun c61 => ?_⟩
                  · skip
                    have d62 : ((x53.toInt) : Int) = (0) := ci_eq rfl rfl c61
                    exact ih _ _ _ _ hB56 (by have q0 : ((v6 + 1) : Int32).toInt = (v6.toInt + 1) := e52; omega) (by have q0 : ((v6 + 1) : Int32).toInt = (v6.toInt + 1) := e52; omega)
                  · skip
                    have d63 : ¬ ((x53.toInt) : Int) = (0) := ci_ne rfl rfl c61
                    refine ⟨Or.inr rfl, ?_⟩
                    exact hQ _ _ _ _ hB56 trivial
          · skip
            rw [lg_cmp_gt] at c36
            have d64 : ((((0 * (Int32.toInt64 v5)) : Int64).toInt) : Int) ≤ ((v3 : Int64).toInt) := cl_nlt rfl rfl c36
            refine ⟨Or.inl rfl, ?_⟩
            exact hQ _ _ _ _ hB trivial
  refine sg_X7_seek_0 hc _ _ _ _ _ _ ?_
  refine ⟨fun c65 => ?_, fun c65 => ?_⟩
  · skip
    have b66 := Bd.o hB0 io9_112_35_7 bd9_7_2
    have e67 : (((I 35 2) - v1) : Int32).toInt = ((I 35 2).toInt) - (v1.toInt) := ti_sub rfl rfl (by omega)
    have d68 : ((((I 35 2).toInt - v1.toInt)) : Int) < (1) := ci_lt e67 rfl c65
    refine ⟨Or.inl rfl, ?_⟩
    exact hQ _ _ _ _ hB0 trivial
  · skip
    have b69 := Bd.o hB0 io9_112_35_7 bd9_7_2
    have e70 : (((I 35 2) - v1) : Int32).toInt = ((I 35 2).toInt) - (v1.toInt) := ti_sub rfl rfl (by omega)
    have d71 : ((1) : Int) ≤ (((I 35 2).toInt - v1.toInt)) := ci_nlt e70 rfl c65
    refine ⟨fun c72 => ?_, fun c72 => ?_⟩
    · skip
      have d73 : ((v1.toInt) : Int) < (5) := ci_lt rfl rfl c72
      refine ⟨fun c74 => ?_, fun c74 => ?_⟩
      · skip
        have d75 : ¬ ((((I 35 2).toInt - v1.toInt)) : Int) = (1) := ci_ne e70 rfl c74
        exact (L 1000000) _ _ _ _ hB0 (by have q0 : (v2 : Int32).toInt = v2.toInt := rfl; omega) (by have q0 : (v2 : Int32).toInt = v2.toInt := rfl; omega)
      · skip
        have d76 : ((((I 35 2).toInt - v1.toInt)) : Int) = (1) := ci_eq e70 rfl c74
        refine sp_X7_putLast hB0 hR0 (by have z : (v1 : Int32).toInt = v1.toInt := rfl; omega) (by have z : (v2 : Int32).toInt = v2.toInt := rfl; omega) (fun x77 y82 I78 J79 hB80 p81 => ?_)
        intro o83
        have i84 := i32 x77
        refine ⟨o83, ?_⟩
        exact hQ _ _ _ _ hB80 trivial
    · skip
      have d85 : ((5) : Int) ≤ (v1.toInt) := ci_nlt rfl rfl c72
      refine ⟨Or.inl rfl, ?_⟩
      exact hQ _ _ _ _ hB0 trivial
theorem sp_X7_seek {d : Nat} {Q : Qt} {v1 : Int32} {v2 : Int32} {v3 : Int64} {I : Im} {J : Jm} {R : Rm} (hB0 : Bd I) (hR0 : RI R) (hv1 : 0 ≤ v1.toInt ∧ v1.toInt ≤ 5) (hv2 : 1 ≤ v2.toInt ∧ v2.toInt ≤ 31) (hQ : ∀ (x : Int32) (y : Int64) (I2 : Im) (J2 : Jm), Bd I2 → (True) → Q x y I2 J2 R) : AM (d + 11) 82 112 [.ref 35, .int v1, .int v2, .long v3] I J R Q := sp_X7_seek_r 6 (d := d) hB0 hR0 hv1 hv2 (by omega) hQ
set_option maxHeartbeats 2000000 in
theorem sp_X7_seekRowsOf {d : Nat} {Q : Qt} {v1 : Int32} {v2 : Int64} {I : Im} {J : Jm} {R : Rm} (hB0 : Bd I) (hR0 : RI R) (hv1 : 0 ≤ v1.toInt ∧ v1.toInt ≤ 5) (hQ : ∀ (x : Int32) (y : Int64) (I2 : Im) (J2 : Jm), Bd I2 → (True) → Q x y I2 J2 R) : AM (d + 12) 79 112 [.ref 35, .int v1, .long v2] I J R Q := by
  have i_v1 := i32 v1
  have i_v2 := i64 v2
  refine w_X7_seekRowsOf ?_
  have hB1 : Bd (uI I 35 2 v1) := Bd.o1 hB0 io9_112_35_7 (by decide) bd9_7_2 (show (v1 : Int32).toInt = v1.toInt from rfl) (by omega)
  refine sp_X7_seek hB1 hR0 (by have z : (0 : Int32).toInt = 0 := rfl; omega) (by have z : (1 : Int32).toInt = 1 := rfl; omega) (fun x2 y7 I3 J4 hB5 p6 => ?_)
  intro o8
  have i9 := i32 x2
  refine ⟨o8, ?_⟩
  exact hQ _ _ _ _ hB5 trivial
set_option maxHeartbeats 2000000 in
theorem sp_X7_findFewest {d : Nat} {Q : Qt} {v1 : Int32} {v2 : Int64} {I : Im} {J : Jm} {R : Rm} (hB0 : Bd I) (hR0 : RI R) (hQ : ∀ (x : Int32) (y : Int64) (I2 : Im) (J2 : Jm), Bd I2 → (True) → Q x y I2 J2 R) : AM (d + 13) 76 112 [.ref 35, .int v1, .long v2] I J R Q := by
  have i_v1 := i32 v1
  have i_v2 := i64 v2
  refine am_X7_findFewest (fun P hc => ?_)
  have L : ∀ n : Nat, (∀ (v4 : Int32) (v5 : Int32) (M : Im) (JM : Jm), Bd M → (v4 = 0 ∨ v4 = 1) → (1 ≤ v5.toInt ∧ v5.toInt ≤ 6) → 10 - v5.toInt < (n : Int) → P 22 112 [(0, .ref 35), (2, .long v2), (4, .int v4), (5, .int v5)] [] M JM R) := by
    intro n
    induction n with
    | zero =>
      exact fun v4 v5 M J _ _ hi hm => absurd hm (by omega)
    | succ n ih =>
      intro v4 v5 M JM hB hb_v4 hi hm
      have i_v2 := i64 v2
      have i_v4 := i32 v4
      have i_v5 := i32 v5
      refine sg_X7_findFewest_22 hc _ _ _ _ _ _ ?_
      refine ⟨fun c1 => ?_, fun c1 => ?_⟩
      · skip
        have d2 : ((5) : Int) < (v5.toInt) := ci_lt rfl rfl c1
        refine ⟨hb_v4, ?_⟩
        exact hQ _ _ _ _ hB trivial
      · skip
        have d3 : ((v5.toInt) : Int) ≤ (5) := ci_nlt rfl rfl c1
        refine ⟨fun c4 => ?_, fun c4 => ?_⟩
        · skip
          have d5 : ¬ ((v4.toInt) : Int) = (0) := ci_ne rfl rfl c4
          refine ⟨hb_v4, ?_⟩
          exact hQ _ _ _ _ hB trivial
        · skip
          have d6 : ((v4.toInt) : Int) = (0) := ci_eq rfl rfl c4
          refine ⟨fun c7 => ?_, fun c7 => ?_⟩
          · skip
            rw [lg_cmp_le] at c7
            have d8 : (((v2 : Int64).toInt) : Int) ≤ (0) := cl_le rfl rfl c7
            refine ⟨hb_v4, ?_⟩
            exact hQ _ _ _ _ hB trivial
          · skip
            rw [lg_cmp_le] at c7
            have d9 : ((0) : Int) < ((v2 : Int64).toInt) := cl_nle rfl rfl c7
            refine sp_X7_seekRowsOf hB hR0 (by have z : (v5 : Int32).toInt = v5.toInt := rfl; omega) (fun x10 y15 I11 J12 hB13 p14 => ?_)
            intro o16
            have i17 := i32 x10
            have e18 : ((v5 + 1) : Int32).toInt = (v5.toInt) + (1) := ti_add rfl rfl (by omega)
            exact ih _ _ _ _ hB13 (o16) (by have q0 : ((v5 + 1) : Int32).toInt = (v5.toInt + 1) := e18; omega) (by have q0 : ((v5 + 1) : Int32).toInt = (v5.toInt + 1) := e18; omega)
  refine sg_X7_findFewest_0 hc _ _ _ _ _ ?_
  refine sp_X7_begin hB0 hR0 (fun x19 y24 I20 J21 hB22 p23 => ?_)
  refine ⟨fun c25 => ?_, fun c25 => ?_⟩
  · skip
    rw [lg_cmp_eq] at c25
    have d26 : ¬ (((v2 : Int64).toInt) : Int) = (0) := cl_ne rfl rfl c25
    exact (L 1000000) _ _ _ _ hB22 (Or.inl rfl) (by have q0 : (1 : Int32).toInt = 1 := rfl; omega) (by have q0 : (1 : Int32).toInt = 1 := rfl; omega)
  · skip
    rw [lg_cmp_eq] at c25
    have d27 : (((v2 : Int64).toInt) : Int) = (0) := cl_eq rfl rfl c25
    exact (L 1000000) _ _ _ _ hB22 (Or.inr rfl) (by have q0 : (1 : Int32).toInt = 1 := rfl; omega) (by have q0 : (1 : Int32).toInt = 1 := rfl; omega)
set_option maxHeartbeats 2000000 in
theorem sp_X7_findKindest {d : Nat} {Q : Qt} {v1 : Int32} {v2 : Int64} {I : Im} {J : Jm} {R : Rm} (hB0 : Bd I) (hR0 : RI R) (hQ : ∀ (x : Int32) (y : Int64) (I2 : Im) (J2 : Jm), Bd I2 → (True) → Q x y I2 J2 R) : AM (d + 13) 77 112 [.ref 35, .int v1, .long v2] I J R Q := by
  have i_v1 := i32 v1
  have i_v2 := i64 v2
  refine am_X7_findKindest (fun P hc => ?_)
  have L : ∀ n : Nat, (∀ (v4 : Int32) (M : Im) (JM : Jm), Bd M → (1 ≤ v4.toInt ∧ v4.toInt ≤ 6) → 10 - v4.toInt < (n : Int) → P 9 112 [(0, .ref 35), (2, .long v2), (4, .int v4)] [] M JM R) := by
    intro n
    induction n with
    | zero =>
      exact fun v4 M J _ hi hm => absurd hm (by omega)
    | succ n ih =>
      intro v4 M JM hB hi hm
      have i_v2 := i64 v2
      have i_v4 := i32 v4
      refine sg_X7_findKindest_9 hc _ _ _ _ _ ?_
      refine ⟨fun c1 => ?_, fun c1 => ?_⟩
      · skip
        have d2 : ((5) : Int) < (v4.toInt) := ci_lt rfl rfl c1
        refine ⟨fun c3 => ?_, fun c3 => ?_⟩
        · skip
          have b4 := Bd.o hB io9_112_35_7 bd9_7_5
          have d5 : (((M 35 5).toInt) : Int) ≤ (0) := ci_le rfl rfl c3
          refine ⟨Or.inl rfl, ?_⟩
          exact hQ _ _ _ _ hB trivial
        · skip
          have b6 := Bd.o hB io9_112_35_7 bd9_7_5
          have d7 : ((0) : Int) < ((M 35 5).toInt) := ci_nle rfl rfl c3
          refine ⟨Or.inr rfl, ?_⟩
          exact hQ _ _ _ _ hB trivial
      · skip
        have d8 : ((v4.toInt) : Int) ≤ (5) := ci_nlt rfl rfl c1
        refine sp_X7_seekRowsOf hB hR0 (by have z : (v4 : Int32).toInt = v4.toInt := rfl; omega) (fun x9 y14 I10 J11 hB12 p13 => ?_)
        intro o15
        have i16 := i32 x9
        have e17 : ((v4 + 1) : Int32).toInt = (v4.toInt) + (1) := ti_add rfl rfl (by omega)
        exact ih _ _ _ hB12 (by have q0 : ((v4 + 1) : Int32).toInt = (v4.toInt + 1) := e17; omega) (by have q0 : ((v4 + 1) : Int32).toInt = (v4.toInt + 1) := e17; omega)
  refine sg_X7_findKindest_0 hc _ _ _ _ _ ?_
  refine sp_X7_begin hB0 hR0 (fun x18 y23 I19 J20 hB21 p22 => ?_)
  exact (L 1000000) _ _ _ hB21 (by have q0 : (1 : Int32).toInt = 1 := rfl; omega) (by have q0 : (1 : Int32).toInt = 1 := rfl; omega)
set_option maxHeartbeats 2000000 in
theorem sp_X7_countAll {d : Nat} {Q : Qt} {v1 : Int32} {v2 : Int64} {v4 : Int32} {I : Im} {J : Jm} {R : Rm} (hB0 : Bd I) (hR0 : RI R) (hv4 : 0 ≤ v4.toInt ∧ v4.toInt ≤ 5) (hQ : ∀ (x : Int32) (y : Int64) (I2 : Im) (J2 : Jm), Bd I2 → (True) → Q x y I2 J2 R) : AM (d + 13) 78 112 [.ref 35, .int v1, .long v2, .int v4] I J R Q := by
  have i_v1 := i32 v1
  have i_v2 := i64 v2
  have i_v4 := i32 v4
  refine w_X7_countAll ?_
  refine sp_X7_begin hB0 hR0 (fun x1 y6 I2 J3 hB4 p5 => ?_)
  refine sp_X7_seekRowsOf hB4 hR0 (by have z : (v4 : Int32).toInt = v4.toInt := rfl; omega) (fun x7 y12 I8 J9 hB10 p11 => ?_)
  intro o13
  have i14 := i32 x7
  exact hQ _ _ _ _ hB10 trivial
set_option maxHeartbeats 2000000 in
theorem sp_X7_bestQuestion {d : Nat} {Q : Qt} {v1 : Int32} {I : Im} {J : Jm} {R : Rm} (hB0 : Bd I) (hR0 : RI R) (hQ : ∀ (x : Int32) (y : Int64) (I2 : Im) (J2 : Jm), Bd I2 → (True) → Q x y I2 J2 R) : AM (d + 2) 81 112 [.ref 35, .int v1] I J R Q := by
  have i_v1 := i32 v1
  refine am_X7_bestQuestion (fun P hc => ?_)
  have L : ∀ n : Nat, (∀ (v2 : Int32) (v3 : Int32) (v4 : Int32) (M : Im) (JM : Jm), Bd M → (1 ≤ v4.toInt ∧ v4.toInt ≤ 31) → 40 - v4.toInt < (n : Int) → P 12 112 [(0, .ref 35), (1, .int v1), (2, .int v2), (3, .int v3), (4, .int v4)] [] M JM R) := by
    intro n
    induction n with
    | zero =>
      exact fun v2 v3 v4 M J _ hi hm => absurd hm (by omega)
    | succ n ih =>
      intro v2 v3 v4 M JM hB hi hm
      have i_v1 := i32 v1
      have i_v2 := i32 v2
      have i_v3 := i32 v3
      have i_v4 := i32 v4
      refine sg_X7_bestQuestion_12 hc _ _ _ _ _ _ _ ?_
      refine ⟨fun c1 => ?_, fun c1 => ?_⟩
      · skip
        have d2 : ((30) : Int) < (v4.toInt) := ci_lt rfl rfl c1
        exact hQ _ _ _ _ hB trivial
      · skip
        have d3 : ((v4.toInt) : Int) ≤ (30) := ci_nlt rfl rfl c1
        refine ⟨vp_of (a := v4.toInt) rfl (by omega) (by omega), ?_⟩
        refine ⟨vp_of (a := v4.toInt) rfl (by omega) (by omega), ?_⟩
        refine w_X11_isIn ?_
        refine ⟨fun c4 => ?_, fun c4 => ?_⟩
        · skip
          have d5 : ((((v1 &&& (1 <<< ((v4 - 1) &&& 31))) : Int32).toInt) : Int) = (0) := ci_eq rfl rfl c4
          refine ⟨Or.inl rfl, ?_⟩
          intro o6
          refine ⟨fun c7 => ?_, fun c7 => ?_⟩
          · skip
            have e8 : ((v4 + 1) : Int32).toInt = (v4.toInt) + (1) := ti_add rfl rfl (by omega)
            exact ih _ _ _ _ _ hB (by have q0 : ((v4 + 1) : Int32).toInt = (v4.toInt + 1) := e8; omega) (by have q0 : ((v4 + 1) : Int32).toInt = (v4.toInt + 1) := e8; omega)
          · exact absurd c7 (by decide)
        · skip
          have d9 : ¬ ((((v1 &&& (1 <<< ((v4 - 1) &&& 31))) : Int32).toInt) : Int) = (0) := ci_ne rfl rfl c4
          refine ⟨Or.inr rfl, ?_⟩
          intro o10
          refine ⟨fun c11 => ?_, fun c11 => ?_⟩
          · exact absurd c11 (by decide)
          · skip
            refine ⟨fun c12 => ?_, fun c12 => ?_⟩
            · skip
              have e13 : ((if ((M 38 (Int32.toNatClampNeg v4)) : Int32) < ((M 35 6) - (M 38 (Int32.toNatClampNeg v4))) then ((M 35 6) - (M 38 (Int32.toNatClampNeg v4))) else (M 38 (Int32.toNatClampNeg v4))) : Int32).toInt = max ((M 38 (Int32.toNatClampNeg v4)).toInt) ((((M 35 6) - (M 38 (Int32.toNatClampNeg v4))) : Int32).toInt) := ti_max rfl rfl
              have d14 : ((v3.toInt) : Int) ≤ ((max ((M 38 (Int32.toNatClampNeg v4)).toInt) ((((M 35 6) - (M 38 (Int32.toNatClampNeg v4))) : Int32).toInt))) := ci_le rfl e13 c12
              have e15 : ((v4 + 1) : Int32).toInt = (v4.toInt) + (1) := ti_add rfl rfl (by omega)
              exact ih _ _ _ _ _ hB (by have q0 : ((v4 + 1) : Int32).toInt = (v4.toInt + 1) := e15; omega) (by have q0 : ((v4 + 1) : Int32).toInt = (v4.toInt + 1) := e15; omega)
            · skip
              have e16 : ((if ((M 38 (Int32.toNatClampNeg v4)) : Int32) < ((M 35 6) - (M 38 (Int32.toNatClampNeg v4))) then ((M 35 6) - (M 38 (Int32.toNatClampNeg v4))) else (M 38 (Int32.toNatClampNeg v4))) : Int32).toInt = max ((M 38 (Int32.toNatClampNeg v4)).toInt) ((((M 35 6) - (M 38 (Int32.toNatClampNeg v4))) : Int32).toInt) := ti_max rfl rfl
              have d17 : (((max ((M 38 (Int32.toNatClampNeg v4)).toInt) ((((M 35 6) - (M 38 (Int32.toNatClampNeg v4))) : Int32).toInt))) : Int) < (v3.toInt) := ci_nle rfl e16 c12
              have e18 : ((v4 + 1) : Int32).toInt = (v4.toInt) + (1) := ti_add rfl rfl (by omega)
              exact ih _ _ _ _ _ hB (by have q0 : ((v4 + 1) : Int32).toInt = (v4.toInt + 1) := e18; omega) (by have q0 : ((v4 + 1) : Int32).toInt = (v4.toInt + 1) := e18; omega)
  refine sg_X7_bestQuestion_0 hc _ _ _ _ ?_
  exact (L 1000000) _ _ _ _ _ hB0 (by have q0 : (1 : Int32).toInt = 1 := rfl; omega) (by have q0 : (1 : Int32).toInt = 1 := rfl; omega)
set_option maxHeartbeats 2000000 in
theorem sp_X8_fixAt {d : Nat} {Q : Qt} {v0 : Nat} {v1 : Int32} {v2 : Int32} {v3 : Int32} {v4 : Int64} {I : Im} {J : Jm} {R : Rm} (hB0 : Bd I) (hR0 : RI R) (ho0 : isO 112 v0 10 = true) (hQ : ∀ (x : Int32) (y : Int64) (I2 : Im) (J2 : Jm), Bd I2 → (I2 39 2 = I 39 2) → Q x y I2 J2 R) : AM (d + 2) 87 112 [.ref v0, .int v1, .int v2, .int v3, .long v4] I J R Q := by
  have i_v1 := i32 v1
  have i_v2 := i32 v2
  have i_v3 := i32 v3
  have i_v4 := i64 v4
  refine am_X8_fixAt (fun P hc => ?_)
  have L : ∀ n : Nat, (∀ (v6 : Int32) (v7 : Int64) (v9 : Int32) (M : Im) (JM : Jm), Bd M → (M 39 2 = I 39 2) → (0 ≤ v9.toInt ∧ v9.toInt ≤ 60) → 100 - v9.toInt < (n : Int) → P 10 112 [(0, .ref v0), (1, .int v1), (2, .int v2), (6, .int v6), (7, .long v7), (9, .int v9)] [] M JM R) ∧ (∀ (v6 : Int32) (v7 : Int64) (M : Im) (JM : Jm), Bd M → (M 39 2 = I 39 2) → (True) → 1 < (n : Int) → P 80 112 [(6, .int v6), (7, .long v7)] [] M JM R) := by
    intro n
    induction n with
    | zero =>
      exact ⟨fun v6 v7 v9 M J _ _ hi hm => absurd hm (by omega), fun v6 v7 M J _ _ hi hm => absurd hm (by omega)⟩
    | succ n ih =>
      refine ⟨?_, ?_⟩
      · skip
        intro v6 v7 v9 M JM hB hk_39_2 hi hm
        have i_v1 := i32 v1
        have i_v2 := i32 v2
        have i_v6 := i32 v6
        have i_v7 := i64 v7
        have i_v9 := i32 v9
        refine sg_X8_fixAt_10 hc _ _ _ _ _ _ _ _ _ ?_
        refine ⟨fun c1 => ?_, fun c1 => ?_⟩
        · skip
          have d2 : ((v1.toInt) : Int) ≤ (v9.toInt) := ci_le rfl rfl c1
          exact ih.2 _ _ _ _ hB hk_39_2 trivial (by omega)
        · skip
          have d3 : ((v9.toInt) : Int) < (v1.toInt) := ci_nle rfl rfl c1
          refine ⟨fun c4 => ?_, fun c4 => ?_⟩
          · skip
            have d5 : ((60) : Int) ≤ (v9.toInt) := ci_le rfl rfl c4
            exact ih.2 _ _ _ _ hB hk_39_2 trivial (by omega)
          · skip
            have d6 : ((v9.toInt) : Int) < (60) := ci_nle rfl rfl c4
            refine ⟨fun c7 => ?_, fun c7 => ?_⟩
            · skip
              have d8 : ((v9.toInt) : Int) = (v2.toInt) := ci_eq rfl rfl c7
              have e9 : ((v9 + 1) : Int32).toInt = (v9.toInt) + (1) := ti_add rfl rfl (by omega)
              exact ih.1 _ _ _ _ _ hB hk_39_2 (by have q0 : ((v9 + 1) : Int32).toInt = (v9.toInt + 1) := e9; omega) (by have q0 : ((v9 + 1) : Int32).toInt = (v9.toInt + 1) := e9; omega)
            · skip
              have d10 : ¬ ((v9.toInt) : Int) = (v2.toInt) := ci_ne rfl rfl c7
              refine bif_t ho0 ?_
              refine bif_t (fa_10_2 ho0).1 ?_
              refine ⟨by rw [(fa_10_2 ho0).2.1]; exact vp_of (a := v9.toInt) rfl (by omega) (by omega), ?_⟩
              refine w_X11_isIn ?_
              refine ⟨fun c11 => ?_, fun c11 => ?_⟩
              · skip
                have d12 : ((((v6 &&& (1 <<< (((Int64.toInt32 (JM (v0 + 1) (Int32.toNatClampNeg v9))) - 1) &&& 31))) : Int32).toInt) : Int) = (0) := ci_eq rfl rfl c11
                refine ⟨Or.inl rfl, ?_⟩
                intro o13
                refine ⟨fun c14 => ?_, fun c14 => ?_⟩
                · exact absurd c14 (by decide)
                · skip
                  exact hQ _ _ _ _ hB hk_39_2
              · skip
                have d15 : ¬ ((((v6 &&& (1 <<< (((Int64.toInt32 (JM (v0 + 1) (Int32.toNatClampNeg v9))) - 1) &&& 31))) : Int32).toInt) : Int) = (0) := ci_ne rfl rfl c11
                refine ⟨Or.inr rfl, ?_⟩
                intro o16
                refine ⟨fun c17 => ?_, fun c17 => ?_⟩
                · skip
                  refine w_X11_bit ?_
                  refine w_X11_crumbs ?_
                  refine ⟨fun c18 => ?_, fun c18 => ?_⟩
                  · skip
                    have d19 : ((1) : Int) ≤ (((Int64.toInt32 (JM (v0 + 1) (Int32.toNatClampNeg v9))) : Int32).toInt) := ci_le rfl rfl c18
                    have i20 := i32 ((Int64.toInt32 (JM (v0 + 1) (Int32.toNatClampNeg v9))))
                    refine ⟨(fun z => by have z2 : (((Int64.toInt32 (JM (v0 + 1) (Int32.toNatClampNeg v9))) : Int32).toInt : Int) = 0 := cl_eq (tl_i2l rfl) rfl z; omega), ?_⟩
                    have e21 : ((v9 + 1) : Int32).toInt = (v9.toInt) + (1) := ti_add rfl rfl (by omega)
                    exact ih.1 _ _ _ _ _ hB hk_39_2 (by have q0 : ((v9 + 1) : Int32).toInt = (v9.toInt + 1) := e21; omega) (by have q0 : ((v9 + 1) : Int32).toInt = (v9.toInt + 1) := e21; omega)
                  · skip
                    have d22 : ((((Int64.toInt32 (JM (v0 + 1) (Int32.toNatClampNeg v9))) : Int32).toInt) : Int) < (1) := ci_nle rfl rfl c18
                    have e23 : ((v9 + 1) : Int32).toInt = (v9.toInt) + (1) := ti_add rfl rfl (by omega)
                    exact ih.1 _ _ _ _ _ hB hk_39_2 (by have q0 : ((v9 + 1) : Int32).toInt = (v9.toInt + 1) := e23; omega) (by have q0 : ((v9 + 1) : Int32).toInt = (v9.toInt + 1) := e23; omega)
                · exact absurd c17 (by decide)
      · skip
        intro v6 v7 M JM hB hk_39_2 hi hm
        have i_v6 := i32 v6
        have i_v7 := i64 v7
        refine sg_X8_fixAt_80 hc _ _ _ _ _ ?_
        refine ⟨fun c24 => ?_, fun c24 => ?_⟩
        · skip
          rw [lg_cmp_lt] at c24
          have d25 : (((v7 : Int64).toInt) : Int) < (1) := cl_lt rfl rfl c24
          exact hQ _ _ _ _ hB hk_39_2
        · skip
          rw [lg_cmp_lt] at c24
          have d26 : ((1) : Int) ≤ ((v7 : Int64).toInt) := cl_nlt rfl rfl c24
          refine ⟨(fun z => by have z2 : ((v7 : Int64).toInt : Int) = 0 := cl_eq rfl rfl z; omega), ?_⟩
          refine ⟨fun c27 => ?_, fun c27 => ?_⟩
          · skip
            rw [lg_cmp_eq] at c27
            have d28 : ¬ ((((2329089562800 - 2329089562800 / v7 * v7) : Int64).toInt) : Int) = (0) := cl_ne rfl rfl c27
            exact hQ _ _ _ _ hB hk_39_2
          · skip
            rw [lg_cmp_eq] at c27
            have d29 : ((((2329089562800 - 2329089562800 / v7 * v7) : Int64).toInt) : Int) = (0) := cl_eq rfl rfl c27
            refine ⟨(fun z => by have z2 : ((v7 : Int64).toInt : Int) = 0 := cl_eq rfl rfl z; omega), ?_⟩
            refine ⟨fun c30 => ?_, fun c30 => ?_⟩
            · skip
              rw [lg_cmp_le] at c30
              have d31 : ((((2329089562800 / v7) : Int64).toInt) : Int) ≤ (30) := cl_le rfl rfl c30
              refine ⟨(fun z => by have z2 : ((v7 : Int64).toInt : Int) = 0 := cl_eq rfl rfl z; omega), ?_⟩
              refine w_X11_isIn ?_
              refine ⟨fun c32 => ?_, fun c32 => ?_⟩
              · skip
                have d33 : ((((v6 &&& (1 <<< (((Int64.toInt32 (2329089562800 / v7)) - 1) &&& 31))) : Int32).toInt) : Int) = (0) := ci_eq rfl rfl c32
                refine ⟨Or.inl rfl, ?_⟩
                intro o34
                refine ⟨fun c35 => ?_, fun c35 => ?_⟩
                · skip
                  exact hQ _ _ _ _ hB hk_39_2
                · exact absurd c35 (by decide)
              · skip
                have d36 : ¬ ((((v6 &&& (1 <<< (((Int64.toInt32 (2329089562800 / v7)) - 1) &&& 31))) : Int32).toInt) : Int) = (0) := ci_ne rfl rfl c32
                refine ⟨Or.inr rfl, ?_⟩
                intro o37
                refine ⟨fun c38 => ?_, fun c38 => ?_⟩
                · exact absurd c38 (by decide)
                · skip
                  exact hQ _ _ _ _ hB hk_39_2
            · skip
              rw [lg_cmp_le] at c30
              have d39 : ((30) : Int) < (((2329089562800 / v7) : Int64).toInt) := cl_nle rfl rfl c30
              exact hQ _ _ _ _ hB hk_39_2
  refine sg_X8_fixAt_0 hc _ _ _ _ _ _ _ _ ?_
  exact (L 1000000).1 _ _ _ _ _ hB0 rfl (by have q0 : (0 : Int32).toInt = 0 := rfl; omega) (by have q0 : (0 : Int32).toInt = 0 := rfl; omega)
set_option maxHeartbeats 2000000 in
theorem sp_X8_findAll {d : Nat} {Q : Qt} {v1 : Nat} {v2 : Int32} {v3 : Int32} {v4 : Int64} {I : Im} {J : Jm} {R : Rm} (hB0 : Bd I) (hR0 : RI R) (ho1 : isO 112 v1 10 = true) (hQ : ∀ (x : Int32) (y : Int64) (I2 : Im) (J2 : Jm), Bd I2 → (True) → Q x y I2 J2 R) : AM (d + 3) 86 112 [.ref 39, .ref v1, .int v2, .int v3, .long v4] I J R Q := by
  have i_v2 := i32 v2
  have i_v3 := i32 v3
  have i_v4 := i64 v4
  refine am_X8_findAll (fun P hc => ?_)
  have L : ∀ n : Nat, (∀ (v6 : Int32) (M : Im) (JM : Jm), Bd M → (0 ≤ v6.toInt ∧ v6.toInt ≤ 8 ∧ (M 39 2).toInt ≤ v6.toInt) → 10 - v6.toInt < (n : Int) → P 8 112 [(0, .ref 39), (1, .ref v1), (2, .int v2), (3, .int v3), (4, .long v4), (6, .int v6)] [] M JM R) := by
    intro n
    induction n with
    | zero =>
      exact fun v6 M J _ hi hm => absurd hm (by omega)
    | succ n ih =>
      intro v6 M JM hB hi hm
      have i_v2 := i32 v2
      have i_v3 := i32 v3
      have i_v4 := i64 v4
      have i_v6 := i32 v6
      refine sg_X8_findAll_8 hc _ _ _ _ _ _ _ _ ?_
      have b1 := Bd.o hB io9_112_39_8 bd9_8_2
      refine ⟨fun c2 => ?_, fun c2 => ?_⟩
      · skip
        have d3 : ((v2.toInt) : Int) ≤ (v6.toInt) := ci_le rfl rfl c2
        exact hQ _ _ _ _ hB trivial
      · skip
        have d4 : ((v6.toInt) : Int) < (v2.toInt) := ci_nle rfl rfl c2
        refine ⟨fun c5 => ?_, fun c5 => ?_⟩
        · skip
          have d6 : ((8) : Int) ≤ (v6.toInt) := ci_le rfl rfl c5
          exact hQ _ _ _ _ hB trivial
        · skip
          have d7 : ((v6.toInt) : Int) < (8) := ci_nle rfl rfl c5
          refine sp_X8_fixAt hB hR0 ho1 (fun x8 y13 I9 J10 hB11 p12 => ?_)
          have i14 := i32 x8
          refine ⟨fun c15 => ?_, fun c15 => ?_⟩
          · skip
            have d16 : ((x8.toInt) : Int) = ((-1)) := ci_eq rfl rfl c15
            have e17 : ((v6 + 1) : Int32).toInt = (v6.toInt) + (1) := ti_add rfl rfl (by omega)
            have e18 : ((I9 39 2) : Int32).toInt = (M 39 2).toInt := Eq.trans (congrArg Int32.toInt p12) rfl
            exact ih _ _ _ hB11 (by have q0 : ((v6 + 1) : Int32).toInt = (v6.toInt + 1) := e17; have q1 : ((I9 39 2) : Int32).toInt = (M 39 2).toInt := e18; omega) (by have q0 : ((v6 + 1) : Int32).toInt = (v6.toInt + 1) := e17; omega)
          · skip
            have d19 : ¬ ((x8.toInt) : Int) = ((-1)) := ci_ne rfl rfl c15
            refine bif_t ho1 ?_
            refine bif_t (fa_10_2 ho1).1 ?_
            refine ⟨by rw [(fa_10_2 ho1).2.1]; exact vp_of (a := v6.toInt) rfl (by omega) (by omega), ?_⟩
            refine ⟨fun c20 => ?_, fun c20 => ?_⟩
            · skip
              rw [lg_cmp_eq] at c20
              have d21 : ((x8.toInt) : Int) = (((J10 (v1 + 1) (Int32.toNatClampNeg v6)) : Int64).toInt) := cl_eq (tl_i2l rfl) rfl c20
              have e22 : ((v6 + 1) : Int32).toInt = (v6.toInt) + (1) := ti_add rfl rfl (by omega)
              have e23 : ((I9 39 2) : Int32).toInt = (M 39 2).toInt := Eq.trans (congrArg Int32.toInt p12) rfl
              exact ih _ _ _ hB11 (by have q0 : ((v6 + 1) : Int32).toInt = (v6.toInt + 1) := e22; have q1 : ((I9 39 2) : Int32).toInt = (M 39 2).toInt := e23; omega) (by have q0 : ((v6 + 1) : Int32).toInt = (v6.toInt + 1) := e22; omega)
            · skip
              rw [lg_cmp_eq] at c20
              have d24 : ¬ ((x8.toInt) : Int) = (((J10 (v1 + 1) (Int32.toNatClampNeg v6)) : Int64).toInt) := cl_ne (tl_i2l rfl) rfl c20
              have e25 : ((I9 39 2) : Int32).toInt = (M 39 2).toInt := Eq.trans (congrArg Int32.toInt p12) rfl
              refine ⟨vp_of (a := (M 39 2).toInt) e25 (by omega) (by omega), ?_⟩
              have hB26 : Bd (uI I9 40 (Int32.toNatClampNeg (I9 39 2)) v6) := Bd.a0 hB11 (show isA 112 40 0 = true from rfl) (show bna 40 = none from rfl)
              have e27 : (((uI I9 40 (Int32.toNatClampNeg (I9 39 2)) v6) 39 2) : Int32).toInt = (M 39 2).toInt := Eq.trans (congrArg Int32.toInt (Eq.trans (rd_ne (by first | decide | omega)) p12)) rfl
              refine ⟨vp_of (a := (M 39 2).toInt) e27 (by omega) (by omega), ?_⟩
              have hB28 : Bd (uI (uI I9 40 (Int32.toNatClampNeg (I9 39 2)) v6) 41 (Int32.toNatClampNeg ((uI I9 40 (Int32.toNatClampNeg (I9 39 2)) v6) 39 2)) x8) := Bd.a0 hB26 (show isA 112 41 0 = true from rfl) (show bna 41 = none from rfl)
              have e30 : (((uI (uI I9 40 (Int32.toNatClampNeg (I9 39 2)) v6) 41 (Int32.toNatClampNeg ((uI I9 40 (Int32.toNatClampNeg (I9 39 2)) v6) 39 2)) x8) 39 2) : Int32).toInt = (M 39 2).toInt := Eq.trans (congrArg Int32.toInt (Eq.trans (Eq.trans (rd_ne (by first | decide | omega)) (rd_ne (by first | decide | omega))) p12)) rfl
              have e31 : ((((uI (uI I9 40 (Int32.toNatClampNeg (I9 39 2)) v6) 41 (Int32.toNatClampNeg ((uI I9 40 (Int32.toNatClampNeg (I9 39 2)) v6) 39 2)) x8) 39 2) + 1) : Int32).toInt = ((M 39 2).toInt) + (1) := ti_add e30 rfl (by omega)
              have hB29 : Bd (uI (uI (uI I9 40 (Int32.toNatClampNeg (I9 39 2)) v6) 41 (Int32.toNatClampNeg ((uI I9 40 (Int32.toNatClampNeg (I9 39 2)) v6) 39 2)) x8) 39 2 (((uI (uI I9 40 (Int32.toNatClampNeg (I9 39 2)) v6) 41 (Int32.toNatClampNeg ((uI I9 40 (Int32.toNatClampNeg (I9 39 2)) v6) 39 2)) x8) 39 2) + 1)) := Bd.o1 hB28 io9_112_39_8 (by decide) bd9_8_2 (show ((((uI (uI I9 40 (Int32.toNatClampNeg (I9 39 2)) v6) 41 (Int32.toNatClampNeg ((uI I9 40 (Int32.toNatClampNeg (I9 39 2)) v6) 39 2)) x8) 39 2) + 1) : Int32).toInt = ((M 39 2).toInt + 1) from e31) (by omega)
              have e32 : ((v6 + 1) : Int32).toInt = (v6.toInt) + (1) := ti_add rfl rfl (by omega)
              have e33 : (((uI (uI (uI I9 40 (Int32.toNatClampNeg (I9 39 2)) v6) 41 (Int32.toNatClampNeg ((uI I9 40 (Int32.toNatClampNeg (I9 39 2)) v6) 39 2)) x8) 39 2 (((uI (uI I9 40 (Int32.toNatClampNeg (I9 39 2)) v6) 41 (Int32.toNatClampNeg ((uI I9 40 (Int32.toNatClampNeg (I9 39 2)) v6) 39 2)) x8) 39 2) + 1)) 39 2) : Int32).toInt = ((M 39 2).toInt + 1) := Eq.trans (congrArg Int32.toInt rd_eq) e31
              exact ih _ _ _ hB29 (by have q0 : ((v6 + 1) : Int32).toInt = (v6.toInt + 1) := e32; have q1 : (((uI (uI (uI I9 40 (Int32.toNatClampNeg (I9 39 2)) v6) 41 (Int32.toNatClampNeg ((uI I9 40 (Int32.toNatClampNeg (I9 39 2)) v6) 39 2)) x8) 39 2 (((uI (uI I9 40 (Int32.toNatClampNeg (I9 39 2)) v6) 41 (Int32.toNatClampNeg ((uI I9 40 (Int32.toNatClampNeg (I9 39 2)) v6) 39 2)) x8) 39 2) + 1)) 39 2) : Int32).toInt = ((M 39 2).toInt + 1) := e33; omega) (by have q0 : ((v6 + 1) : Int32).toInt = (v6.toInt + 1) := e32; omega)
  refine sg_X8_findAll_0 hc _ _ _ _ _ _ _ ?_
  have hB34 : Bd (uI I 39 2 0) := Bd.o1 hB0 io9_112_39_8 (by decide) bd9_8_2 (show (0 : Int32).toInt = 0 from rfl) (by omega)
  have e35 : (((uI I 39 2 0) 39 2) : Int32).toInt = 0 := Eq.trans (congrArg Int32.toInt rd_eq) rfl
  exact (L 1000000) _ _ _ hB34 (by have q0 : (0 : Int32).toInt = 0 := rfl; have q1 : (((uI I 39 2 0) 39 2) : Int32).toInt = 0 := e35; omega) (by have q0 : (0 : Int32).toInt = 0 := rfl; omega)
set_option maxHeartbeats 2000000 in
theorem sp_X9_addSlice {d : Nat} {Q : Qt} {v1 : Int32} {I : Im} {J : Jm} {R : Rm} (hB0 : Bd I) (hR0 : RI R) (hs : (I 45 1).toInt ≤ 11) (hQ : ∀ (x : Int32) (y : Int64) (I2 : Im) (J2 : Jm), Bd I2 → (True) → Q x y I2 J2 R) : AM (d + 2) 90 112 [.ref 45, .int v1] I J R Q := by
  have i_v1 := i32 v1
  refine am_X9_addSlice (fun P hc => ?_)
  have L : ∀ n : Nat, (∀ (v2 : Int32) (v3 : Int32) (M : Im) (JM : Jm), Bd M → (1 ≤ v2.toInt ∧ v2.toInt ≤ 2048 ∧ 0 ≤ v3.toInt ∧ v3.toInt ≤ v2.toInt ∧ (M 45 1).toInt ≤ 11) → 5000 - v3.toInt < (n : Int) → P 9 112 [(0, .ref 45), (1, .int v1), (2, .int v2), (3, .int v3)] [] M JM R) := by
    intro n
    induction n with
    | zero =>
      exact fun v2 v3 M J _ hi hm => absurd hm (by omega)
    | succ n ih =>
      intro v2 v3 M JM hB hi hm
      have i_v1 := i32 v1
      have i_v2 := i32 v2
      have i_v3 := i32 v3
      refine sg_X9_addSlice_9 hc _ _ _ _ _ _ ?_
      have b1 := Bd.o hB io9_112_45_9 bd9_9_1
      refine ⟨fun c2 => ?_, fun c2 => ?_⟩
      · skip
        have d3 : ((v2.toInt) : Int) ≤ (v3.toInt) := ci_le rfl rfl c2
        refine ⟨vp_of (a := (M 45 1).toInt) rfl (by omega) (by omega), ?_⟩
        have hB4 : Bd (uI M 46 (Int32.toNatClampNeg (M 45 1)) v1) := Bd.a0 hB (show isA 112 46 0 = true from rfl) (show bna 46 = none from rfl)
        have e6 : (((uI M 46 (Int32.toNatClampNeg (M 45 1)) v1) 45 1) : Int32).toInt = (M 45 1).toInt := Eq.trans (congrArg Int32.toInt (rd_ne (by first | decide | omega))) rfl
        have e7 : ((((uI M 46 (Int32.toNatClampNeg (M 45 1)) v1) 45 1) + 1) : Int32).toInt = ((M 45 1).toInt) + (1) := ti_add e6 rfl (by omega)
        have hB5 : Bd (uI (uI M 46 (Int32.toNatClampNeg (M 45 1)) v1) 45 1 (((uI M 46 (Int32.toNatClampNeg (M 45 1)) v1) 45 1) + 1)) := Bd.o1 hB4 io9_112_45_9 (by decide) bd9_9_1 (show ((((uI M 46 (Int32.toNatClampNeg (M 45 1)) v1) 45 1) + 1) : Int32).toInt = ((M 45 1).toInt + 1) from e7) (by omega)
        exact hQ _ _ _ _ hB5 trivial
      · skip
        have d8 : ((v3.toInt) : Int) < (v2.toInt) := ci_nle rfl rfl c2
        refine ⟨vp_of (a := v3.toInt) rfl (by omega) (by omega), ?_⟩
        refine w_X11_crumbs ?_
        refine ⟨fun c9 => ?_, fun c9 => ?_⟩
        · skip
          have d10 : ((1) : Int) ≤ (v1.toInt) := ci_le rfl rfl c9
          refine ⟨(fun z => by have z2 : (v1.toInt : Int) = 0 := cl_eq (tl_i2l rfl) rfl z; omega), ?_⟩
          have e11 : ((v2 + v3) : Int32).toInt = (v2.toInt) + (v3.toInt) := ti_add rfl rfl (by omega)
          refine ⟨vp_of (a := (v2.toInt + v3.toInt)) e11 (by omega) (by omega), ?_⟩
          have e12 : ((v3 + 1) : Int32).toInt = (v3.toInt) + (1) := ti_add rfl rfl (by omega)
          exact ih _ _ _ _ hB (by have q0 : (v2 : Int32).toInt = v2.toInt := rfl; have q1 : ((v3 + 1) : Int32).toInt = (v3.toInt + 1) := e12; have q2 : ((M 45 1) : Int32).toInt = (M 45 1).toInt := rfl; omega) (by have q0 : ((v3 + 1) : Int32).toInt = (v3.toInt + 1) := e12; omega)
        · skip
          have d13 : ((v1.toInt) : Int) < (1) := ci_nle rfl rfl c9
          have e14 : ((v2 + v3) : Int32).toInt = (v2.toInt) + (v3.toInt) := ti_add rfl rfl (by omega)
          refine ⟨vp_of (a := (v2.toInt + v3.toInt)) e14 (by omega) (by omega), ?_⟩
          have e15 : ((v3 + 1) : Int32).toInt = (v3.toInt) + (1) := ti_add rfl rfl (by omega)
          exact ih _ _ _ _ hB (by have q0 : (v2 : Int32).toInt = v2.toInt := rfl; have q1 : ((v3 + 1) : Int32).toInt = (v3.toInt + 1) := e15; have q2 : ((M 45 1) : Int32).toInt = (M 45 1).toInt := rfl; omega) (by have q0 : ((v3 + 1) : Int32).toInt = (v3.toInt + 1) := e15; omega)
  refine sg_X9_addSlice_0 hc _ _ _ _ ?_
  have b16 := Bd.o hB0 io9_112_45_9 bd9_9_1
  have s17 := shl1 (show ((I 45 1) : Int32).toInt = (I 45 1).toInt from rfl) (by omega)
  exact (L 1000000) _ _ _ _ hB0 (by have q0 : ((1 <<< ((I 45 1) &&& 31)) : Int32).toInt = ((1 <<< ((I 45 1) &&& 31)) : Int32).toInt := rfl; have q1 : (0 : Int32).toInt = 0 := rfl; have q2 : ((I 45 1) : Int32).toInt = (I 45 1).toInt := rfl; omega) (by have q0 : (0 : Int32).toInt = 0 := rfl; omega)
set_option maxHeartbeats 2000000 in
theorem sp_X9_lay {d : Nat} {Q : Qt} {v1 : Int32} {I : Im} {J : Jm} {R : Rm} (hB0 : Bd I) (hR0 : RI R) (hQ : ∀ (x : Int32) (y : Int64) (I2 : Im) (J2 : Jm), Bd I2 → (True) → Q x y I2 J2 R) : AM (d + 3) 89 112 [.ref 45, .int v1] I J R Q := by
  have i_v1 := i32 v1
  refine am_X9_lay (fun P hc => ?_)
  have L : ∀ n : Nat, (∀ (v2 : Int32) (M : Im) (JM : Jm), Bd M → (1 ≤ v2.toInt ∧ v2.toInt ≤ 31) → 40 - v2.toInt < (n : Int) → P 7 112 [(0, .ref 45), (1, .int v1), (2, .int v2)] [] M JM R) := by
    intro n
    induction n with
    | zero =>
      exact fun v2 M J _ hi hm => absurd hm (by omega)
    | succ n ih =>
      intro v2 M JM hB hi hm
      have i_v1 := i32 v1
      have i_v2 := i32 v2
      refine sg_X9_lay_7 hc _ _ _ _ _ ?_
      refine ⟨fun c1 => ?_, fun c1 => ?_⟩
      · skip
        have d2 : ((30) : Int) < (v2.toInt) := ci_lt rfl rfl c1
        exact hQ _ _ _ _ hB trivial
      · skip
        have d3 : ((v2.toInt) : Int) ≤ (30) := ci_nlt rfl rfl c1
        refine ⟨fun c4 => ?_, fun c4 => ?_⟩
        · skip
          have b5 := Bd.o hB io9_112_45_9 bd9_9_1
          have d6 : ((12) : Int) ≤ ((M 45 1).toInt) := ci_le rfl rfl c4
          exact hQ _ _ _ _ hB trivial
        · skip
          have b7 := Bd.o hB io9_112_45_9 bd9_9_1
          have d8 : (((M 45 1).toInt) : Int) < (12) := ci_nle rfl rfl c4
          refine w_X11_isIn ?_
          refine ⟨fun c9 => ?_, fun c9 => ?_⟩
          · skip
            have d10 : ((((v1 &&& (1 <<< ((v2 - 1) &&& 31))) : Int32).toInt) : Int) = (0) := ci_eq rfl rfl c9
            refine ⟨Or.inl rfl, ?_⟩
            intro o11
            refine ⟨fun c12 => ?_, fun c12 => ?_⟩
            · skip
              have e13 : ((v2 + 1) : Int32).toInt = (v2.toInt) + (1) := ti_add rfl rfl (by omega)
              exact ih _ _ _ hB (by have q0 : ((v2 + 1) : Int32).toInt = (v2.toInt + 1) := e13; omega) (by have q0 : ((v2 + 1) : Int32).toInt = (v2.toInt + 1) := e13; omega)
            · exact absurd c12 (by decide)
          · skip
            have d14 : ¬ ((((v1 &&& (1 <<< ((v2 - 1) &&& 31))) : Int32).toInt) : Int) = (0) := ci_ne rfl rfl c9
            refine ⟨Or.inr rfl, ?_⟩
            intro o15
            refine ⟨fun c16 => ?_, fun c16 => ?_⟩
            · exact absurd c16 (by decide)
            · skip
              refine sp_X9_addSlice hB hR0 (by have z : ((M 45 1) : Int32).toInt = (M 45 1).toInt := rfl; omega) (fun x17 y22 I18 J19 hB20 p21 => ?_)
              have e23 : ((v2 + 1) : Int32).toInt = (v2.toInt) + (1) := ti_add rfl rfl (by omega)
              exact ih _ _ _ hB20 (by have q0 : ((v2 + 1) : Int32).toInt = (v2.toInt + 1) := e23; omega) (by have q0 : ((v2 + 1) : Int32).toInt = (v2.toInt + 1) := e23; omega)
  refine sg_X9_lay_0 hc _ _ _ _ ?_
  have hB24 : Bd (uI I 45 1 0) := Bd.o1 hB0 io9_112_45_9 (by decide) bd9_9_1 (show (0 : Int32).toInt = 0 from rfl) (by omega)
  exact (L 1000000) _ _ _ hB24 (by have q0 : (1 : Int32).toInt = 1 := rfl; omega) (by have q0 : (1 : Int32).toInt = 1 := rfl; omega)
set_option maxHeartbeats 2000000 in
theorem sp_X9_winningPlace {d : Nat} {Q : Qt} {v1 : Int32} {I : Im} {J : Jm} {R : Rm} (hB0 : Bd I) (hR0 : RI R) (hv1 : 0 ≤ v1.toInt ∧ v1.toInt ≤ 4095) (hQ : ∀ (x : Int32) (y : Int64) (I2 : Im) (J2 : Jm), Bd I2 → ((x.toInt = -1 ∨ (0 ≤ x.toInt ∧ x.toInt ≤ 11))) → Q x y I2 J2 R) : AM (d + 1) 92 112 [.ref 45, .int v1] I J R Q := by
  have i_v1 := i32 v1
  refine am_X9_winningPlace (fun P hc => ?_)
  have L : ∀ n : Nat, (∀ (v2 : Int32) (M : Im) (JM : Jm), Bd M → (0 ≤ v1.toInt ∧ v1.toInt ≤ 4095 ∧ 0 ≤ v2.toInt ∧ v2.toInt ≤ 12) → 20 - v2.toInt < (n : Int) → P 2 112 [(0, .ref 45), (1, .int v1), (2, .int v2)] [] M JM R) := by
    intro n
    induction n with
    | zero =>
      exact fun v2 M J _ hi hm => absurd hm (by omega)
    | succ n ih =>
      intro v2 M JM hB hi hm
      have i_v1 := i32 v1
      have i_v2 := i32 v2
      refine sg_X9_winningPlace_2 hc _ _ _ _ _ ?_
      refine ⟨fun c1 => ?_, fun c1 => ?_⟩
      · skip
        have b2 := Bd.o hB io9_112_45_9 bd9_9_1
        have d3 : (((M 45 1).toInt) : Int) ≤ (v2.toInt) := ci_le rfl rfl c1
        exact hQ _ _ _ _ hB (by have q0 : ((-1) : Int32).toInt = (-1) := rfl; omega)
      · skip
        have b4 := Bd.o hB io9_112_45_9 bd9_9_1
        have d5 : ((v2.toInt) : Int) < ((M 45 1).toInt) := ci_nle rfl rfl c1
        refine ⟨fun c6 => ?_, fun c6 => ?_⟩
        · skip
          have s7 := shl1 (show (v2 : Int32).toInt = v2.toInt from rfl) (by omega)
          have s8 := or12 (show (v1 : Int32).toInt = v1.toInt from rfl) (show ((1 <<< (v2 &&& 31)) : Int32).toInt = ((1 <<< (v2 &&& 31)) : Int32).toInt from rfl) (by omega) (by omega)
          have d9 : ((((v1 ||| (1 <<< (v2 &&& 31))) : Int32).toInt) : Int) = (v1.toInt) := ci_eq rfl rfl c6
          have e10 : ((v2 + 1) : Int32).toInt = (v2.toInt) + (1) := ti_add rfl rfl (by omega)
          exact ih _ _ _ hB (by have q0 : ((v2 + 1) : Int32).toInt = (v2.toInt + 1) := e10; omega) (by have q0 : ((v2 + 1) : Int32).toInt = (v2.toInt + 1) := e10; omega)
        · skip
          have s11 := shl1 (show (v2 : Int32).toInt = v2.toInt from rfl) (by omega)
          have s12 := or12 (show (v1 : Int32).toInt = v1.toInt from rfl) (show ((1 <<< (v2 &&& 31)) : Int32).toInt = ((1 <<< (v2 &&& 31)) : Int32).toInt from rfl) (by omega) (by omega)
          have d13 : ¬ ((((v1 ||| (1 <<< (v2 &&& 31))) : Int32).toInt) : Int) = (v1.toInt) := ci_ne rfl rfl c6
          refine ⟨vp_of (a := ((v1 ||| (1 <<< (v2 &&& 31))) : Int32).toInt) rfl (by omega) (by omega), ?_⟩
          refine ⟨fun c14 => ?_, fun c14 => ?_⟩
          · skip
            rw [lg_cmp_gt] at c14
            have d15 : ((2329089562800) : Int) < (((JM 47 (Int32.toNatClampNeg (v1 ||| (1 <<< (v2 &&& 31))))) : Int64).toInt) := cl_lt rfl rfl c14
            have e16 : ((v2 + 1) : Int32).toInt = (v2.toInt) + (1) := ti_add rfl rfl (by omega)
            exact ih _ _ _ hB (by have q0 : ((v2 + 1) : Int32).toInt = (v2.toInt + 1) := e16; omega) (by have q0 : ((v2 + 1) : Int32).toInt = (v2.toInt + 1) := e16; omega)
          · skip
            rw [lg_cmp_gt] at c14
            have d17 : ((((JM 47 (Int32.toNatClampNeg (v1 ||| (1 <<< (v2 &&& 31))))) : Int64).toInt) : Int) ≤ (2329089562800) := cl_nlt rfl rfl c14
            refine ⟨vp_of (a := ((v1 ||| (1 <<< (v2 &&& 31))) : Int32).toInt) rfl (by omega) (by omega), ?_⟩
            refine ⟨fun c18 => ?_, fun c18 => ?_⟩
            · skip
              have d19 : ¬ (((M 48 (Int32.toNatClampNeg (v1 ||| (1 <<< (v2 &&& 31))))).toInt) : Int) = (0) := ci_ne rfl rfl c18
              have e20 : ((v2 + 1) : Int32).toInt = (v2.toInt) + (1) := ti_add rfl rfl (by omega)
              exact ih _ _ _ hB (by have q0 : ((v2 + 1) : Int32).toInt = (v2.toInt + 1) := e20; omega) (by have q0 : ((v2 + 1) : Int32).toInt = (v2.toInt + 1) := e20; omega)
            · skip
              have d21 : (((M 48 (Int32.toNatClampNeg (v1 ||| (1 <<< (v2 &&& 31))))).toInt) : Int) = (0) := ci_eq rfl rfl c18
              exact hQ _ _ _ _ hB (by have q0 : (v2 : Int32).toInt = v2.toInt := rfl; omega)
  refine sg_X9_winningPlace_0 hc _ _ _ _ ?_
  exact (L 1000000) _ _ _ hB0 (by have q0 : (0 : Int32).toInt = 0 := rfl; omega) (by have q0 : (0 : Int32).toInt = 0 := rfl; omega)
set_option maxHeartbeats 2000000 in
theorem sp_X9_firstWinning {d : Nat} {Q : Qt} {I : Im} {J : Jm} {R : Rm} (hB0 : Bd I) (hR0 : RI R) (hQ : ∀ (x : Int32) (y : Int64) (I2 : Im) (J2 : Jm), Bd I2 → ((x.toInt = -1 ∨ (0 ≤ x.toInt ∧ x.toInt ≤ 11))) → Q x y I2 J2 R) : AM (d + 2) 91 112 [.ref 45] I J R Q := by
  refine am_X9_firstWinning (fun P hc => ?_)
  have L : ∀ n : Nat, (∀ (v1 : Int32) (M : Im) (JM : Jm), Bd M → (0 ≤ v1.toInt ∧ v1.toInt ≤ 4095) → v1.toInt < (n : Int) → P 9 112 [(0, .ref 45), (1, .int v1)] [] M JM R) := by
    intro n
    induction n with
    | zero =>
      exact fun v1 M J _ hi hm => absurd hm (by omega)
    | succ n ih =>
      intro v1 M JM hB hi hm
      have i_v1 := i32 v1
      refine sg_X9_firstWinning_9 hc _ _ _ _ ?_
      refine ⟨fun c1 => ?_, fun c1 => ?_⟩
      · skip
        have d2 : ((v1.toInt) : Int) ≤ (0) := ci_le rfl rfl c1
        refine sp_X9_winningPlace hB hR0 (by have z : (0 : Int32).toInt = 0 := rfl; omega) (fun x3 y8 I4 J5 hB6 p7 => ?_)
        have q9 : (0 : Int32).toInt = 0 := rfl
        have i10 := i32 x3
        exact hQ _ _ _ _ hB6 (by have q0 : (x3 : Int32).toInt = x3.toInt := rfl; omega)
      · skip
        have d11 : ((0) : Int) < (v1.toInt) := ci_nle rfl rfl c1
        refine ⟨vp_of (a := v1.toInt) rfl (by omega) (by omega), ?_⟩
        refine ⟨fun c12 => ?_, fun c12 => ?_⟩
        · skip
          rw [lg_cmp_gt] at c12
          have d13 : ((2329089562800) : Int) < (((JM 47 (Int32.toNatClampNeg v1)) : Int64).toInt) := cl_lt rfl rfl c12
          have e14 : ((v1 + (-1)) : Int32).toInt = (v1.toInt) + ((-1)) := ti_add rfl rfl (by omega)
          exact ih _ _ _ hB (by have q0 : ((v1 + (-1)) : Int32).toInt = (v1.toInt + (-1)) := e14; omega) (by have q0 : ((v1 + (-1)) : Int32).toInt = (v1.toInt + (-1)) := e14; omega)
        · skip
          rw [lg_cmp_gt] at c12
          have d15 : ((((JM 47 (Int32.toNatClampNeg v1)) : Int64).toInt) : Int) ≤ (2329089562800) := cl_nlt rfl rfl c12
          refine sp_X9_winningPlace hB hR0 (by have z : (v1 : Int32).toInt = v1.toInt := rfl; omega) (fun x16 y21 I17 J18 hB19 p20 => ?_)
          have i22 := i32 x16
          refine ⟨fun c23 => ?_, fun c23 => ?_⟩
          · skip
            have d24 : ¬ ((x16.toInt) : Int) = ((-1)) := ci_ne rfl rfl c23
            refine ⟨vp_of (a := v1.toInt) rfl (by omega) (by omega), ?_⟩
            have hB25 : Bd (uI I17 48 (Int32.toNatClampNeg v1) (Int32.toInt8 (Int32.toInt8 1).toInt32).toInt32) := Bd.a0 hB19 (show isA 112 48 2 = true from rfl) (show bna 48 = none from rfl)
            have e26 : ((v1 + (-1)) : Int32).toInt = (v1.toInt) + ((-1)) := ti_add rfl rfl (by omega)
            exact ih _ _ _ hB25 (by have q0 : ((v1 + (-1)) : Int32).toInt = (v1.toInt + (-1)) := e26; omega) (by have q0 : ((v1 + (-1)) : Int32).toInt = (v1.toInt + (-1)) := e26; omega)
          · skip
            have d27 : ((x16.toInt) : Int) = ((-1)) := ci_eq rfl rfl c23
            refine ⟨vp_of (a := v1.toInt) rfl (by omega) (by omega), ?_⟩
            have hB28 : Bd (uI I17 48 (Int32.toNatClampNeg v1) (Int32.toInt8 (Int32.toInt8 0).toInt32).toInt32) := Bd.a0 hB19 (show isA 112 48 2 = true from rfl) (show bna 48 = none from rfl)
            have e29 : ((v1 + (-1)) : Int32).toInt = (v1.toInt) + ((-1)) := ti_add rfl rfl (by omega)
            exact ih _ _ _ hB28 (by have q0 : ((v1 + (-1)) : Int32).toInt = (v1.toInt + (-1)) := e29; omega) (by have q0 : ((v1 + (-1)) : Int32).toInt = (v1.toInt + (-1)) := e29; omega)
  refine sg_X9_firstWinning_0 hc _ _ _ ?_
  have b30 := Bd.o hB0 io9_112_45_9 bd9_9_1
  have s31 := shl1 (show ((I 45 1) : Int32).toInt = (I 45 1).toInt from rfl) (by omega)
  have e32 : (((1 <<< ((I 45 1) &&& 31)) - 1) : Int32).toInt = (((1 <<< ((I 45 1) &&& 31)) : Int32).toInt) - (1) := ti_sub rfl rfl (by omega)
  exact (L 1000000) _ _ _ hB0 (by have q0 : (((1 <<< ((I 45 1) &&& 31)) - 1) : Int32).toInt = (((1 <<< ((I 45 1) &&& 31)) : Int32).toInt - 1) := e32; omega) (by have q0 : (((1 <<< ((I 45 1) &&& 31)) - 1) : Int32).toInt = (((1 <<< ((I 45 1) &&& 31)) : Int32).toInt - 1) := e32; omega)
set_option maxHeartbeats 2000000 in
theorem sp_X9_countWithin {d : Nat} {Q : Qt} {v1 : Int32} {v2 : Int64} {I : Im} {J : Jm} {R : Rm} (hB0 : Bd I) (hR0 : RI R) (hQ : ∀ (x : Int32) (y : Int64) (I2 : Im) (J2 : Jm), Bd I2 → (True) → Q x y I2 J2 R) : AM (d + 2) 93 112 [.ref 45, .int v1, .long v2] I J R Q := by
  have i_v1 := i32 v1
  have i_v2 := i64 v2
  refine am_X9_countWithin (fun P hc => ?_)
  have L : ∀ n : Nat, (∀ (v4 : Int64) (v6 : Int32) (M : Im) (JM : Jm), Bd M → (0 ≤ v6.toInt ∧ v6.toInt ≤ 4096) → 5000 - v6.toInt < (n : Int) → P 6 112 [(0, .ref 45), (1, .int v1), (2, .long v2), (4, .long v4), (6, .int v6)] [] M JM R) := by
    intro n
    induction n with
    | zero =>
      exact fun v4 v6 M J _ hi hm => absurd hm (by omega)
    | succ n ih =>
      intro v4 v6 M JM hB hi hm
      have i_v1 := i32 v1
      have i_v2 := i64 v2
      have i_v4 := i64 v4
      have i_v6 := i32 v6
      refine sg_X9_countWithin_6 hc _ _ _ _ _ _ _ ?_
      refine ⟨fun c1 => ?_, fun c1 => ?_⟩
      · skip
        have b2 := Bd.o hB io9_112_45_9 bd9_9_1
        have s3 := shl1 (show ((M 45 1) : Int32).toInt = (M 45 1).toInt from rfl) (by omega)
        have d4 : ((((1 <<< ((M 45 1) &&& 31)) : Int32).toInt) : Int) ≤ (v6.toInt) := ci_le rfl rfl c1
        exact hQ _ _ _ _ hB trivial
      · skip
        have b5 := Bd.o hB io9_112_45_9 bd9_9_1
        have s6 := shl1 (show ((M 45 1) : Int32).toInt = (M 45 1).toInt from rfl) (by omega)
        have d7 : ((v6.toInt) : Int) < (((1 <<< ((M 45 1) &&& 31)) : Int32).toInt) := ci_nle rfl rfl c1
        refine w_J6_bitCount_0f7a4 ?_
        refine ⟨fun c8 => ?_, fun c8 => ?_⟩
        · skip
          have d9 : ¬ (((((((((((v6 - ((Int32.toUInt32 v6 >>> (Int32.toUInt32 1 &&& Int32.toUInt32 31)).toInt32 &&& 1431655765)) &&& 858993459) + ((Int32.toUInt32 (v6 - ((Int32.toUInt32 v6 >>> (Int32.toUInt32 1 &&& Int32.toUInt32 31)).toInt32 &&& 1431655765)) >>> (Int32.toUInt32 2 &&& Int32.toUInt32 31)).toInt32 &&& 858993459)) + (Int32.toUInt32 (((v6 - ((Int32.toUInt32 v6 >>> (Int32.toUInt32 1 &&& Int32.toUInt32 31)).toInt32 &&& 1431655765)) &&& 858993459) + ((Int32.toUInt32 (v6 - ((Int32.toUInt32 v6 >>> (Int32.toUInt32 1 &&& Int32.toUInt32 31)).toInt32 &&& 1431655765)) >>> (Int32.toUInt32 2 &&& Int32.toUInt32 31)).toInt32 &&& 858993459)) >>> (Int32.toUInt32 4 &&& Int32.toUInt32 31)).toInt32) &&& 252645135) + (Int32.toUInt32 (((((v6 - ((Int32.toUInt32 v6 >>> (Int32.toUInt32 1 &&& Int32.toUInt32 31)).toInt32 &&& 1431655765)) &&& 858993459) + ((Int32.toUInt32 (v6 - ((Int32.toUInt32 v6 >>> (Int32.toUInt32 1 &&& Int32.toUInt32 31)).toInt32 &&& 1431655765)) >>> (Int32.toUInt32 2 &&& Int32.toUInt32 31)).toInt32 &&& 858993459)) + (Int32.toUInt32 (((v6 - ((Int32.toUInt32 v6 >>> (Int32.toUInt32 1 &&& Int32.toUInt32 31)).toInt32 &&& 1431655765)) &&& 858993459) + ((Int32.toUInt32 (v6 - ((Int32.toUInt32 v6 >>> (Int32.toUInt32 1 &&& Int32.toUInt32 31)).toInt32 &&& 1431655765)) >>> (Int32.toUInt32 2 &&& Int32.toUInt32 31)).toInt32 &&& 858993459)) >>> (Int32.toUInt32 4 &&& Int32.toUInt32 31)).toInt32) &&& 252645135) >>> (Int32.toUInt32 8 &&& Int32.toUInt32 31)).toInt32) + (Int32.toUInt32 ((((((v6 - ((Int32.toUInt32 v6 >>> (Int32.toUInt32 1 &&& Int32.toUInt32 31)).toInt32 &&& 1431655765)) &&& 858993459) + ((Int32.toUInt32 (v6 - ((Int32.toUInt32 v6 >>> (Int32.toUInt32 1 &&& Int32.toUInt32 31)).toInt32 &&& 1431655765)) >>> (Int32.toUInt32 2 &&& Int32.toUInt32 31)).toInt32 &&& 858993459)) + (Int32.toUInt32 (((v6 - ((Int32.toUInt32 v6 >>> (Int32.toUInt32 1 &&& Int32.toUInt32 31)).toInt32 &&& 1431655765)) &&& 858993459) + ((Int32.toUInt32 (v6 - ((Int32.toUInt32 v6 >>> (Int32.toUInt32 1 &&& Int32.toUInt32 31)).toInt32 &&& 1431655765)) >>> (Int32.toUInt32 2 &&& Int32.toUInt32 31)).toInt32 &&& 858993459)) >>> (Int32.toUInt32 4 &&& Int32.toUInt32 31)).toInt32) &&& 252645135) + (Int32.toUInt32 (((((v6 - ((Int32.toUInt32 v6 >>> (Int32.toUInt32 1 &&& Int32.toUInt32 31)).toInt32 &&& 1431655765)) &&& 858993459) + ((Int32.toUInt32 (v6 - ((Int32.toUInt32 v6 >>> (Int32.toUInt32 1 &&& Int32.toUInt32 31)).toInt32 &&& 1431655765)) >>> (Int32.toUInt32 2 &&& Int32.toUInt32 31)).toInt32 &&& 858993459)) + (Int32.toUInt32 (((v6 - ((Int32.toUInt32 v6 >>> (Int32.toUInt32 1 &&& Int32.toUInt32 31)).toInt32 &&& 1431655765)) &&& 858993459) + ((Int32.toUInt32 (v6 - ((Int32.toUInt32 v6 >>> (Int32.toUInt32 1 &&& Int32.toUInt32 31)).toInt32 &&& 1431655765)) >>> (Int32.toUInt32 2 &&& Int32.toUInt32 31)).toInt32 &&& 858993459)) >>> (Int32.toUInt32 4 &&& Int32.toUInt32 31)).toInt32) &&& 252645135) >>> (Int32.toUInt32 8 &&& Int32.toUInt32 31)).toInt32) >>> (Int32.toUInt32 16 &&& Int32.toUInt32 31)).toInt32) &&& 63) : Int32).toInt) : Int) = (v1.toInt) := ci_ne rfl rfl c8
          have e10 : ((v6 + 1) : Int32).toInt = (v6.toInt) + (1) := ti_add rfl rfl (by omega)
          exact ih _ _ _ _ hB (by have q0 : ((v6 + 1) : Int32).toInt = (v6.toInt + 1) := e10; omega) (by have q0 : ((v6 + 1) : Int32).toInt = (v6.toInt + 1) := e10; omega)
        · skip
          have d11 : (((((((((((v6 - ((Int32.toUInt32 v6 >>> (Int32.toUInt32 1 &&& Int32.toUInt32 31)).toInt32 &&& 1431655765)) &&& 858993459) + ((Int32.toUInt32 (v6 - ((Int32.toUInt32 v6 >>> (Int32.toUInt32 1 &&& Int32.toUInt32 31)).toInt32 &&& 1431655765)) >>> (Int32.toUInt32 2 &&& Int32.toUInt32 31)).toInt32 &&& 858993459)) + (Int32.toUInt32 (((v6 - ((Int32.toUInt32 v6 >>> (Int32.toUInt32 1 &&& Int32.toUInt32 31)).toInt32 &&& 1431655765)) &&& 858993459) + ((Int32.toUInt32 (v6 - ((Int32.toUInt32 v6 >>> (Int32.toUInt32 1 &&& Int32.toUInt32 31)).toInt32 &&& 1431655765)) >>> (Int32.toUInt32 2 &&& Int32.toUInt32 31)).toInt32 &&& 858993459)) >>> (Int32.toUInt32 4 &&& Int32.toUInt32 31)).toInt32) &&& 252645135) + (Int32.toUInt32 (((((v6 - ((Int32.toUInt32 v6 >>> (Int32.toUInt32 1 &&& Int32.toUInt32 31)).toInt32 &&& 1431655765)) &&& 858993459) + ((Int32.toUInt32 (v6 - ((Int32.toUInt32 v6 >>> (Int32.toUInt32 1 &&& Int32.toUInt32 31)).toInt32 &&& 1431655765)) >>> (Int32.toUInt32 2 &&& Int32.toUInt32 31)).toInt32 &&& 858993459)) + (Int32.toUInt32 (((v6 - ((Int32.toUInt32 v6 >>> (Int32.toUInt32 1 &&& Int32.toUInt32 31)).toInt32 &&& 1431655765)) &&& 858993459) + ((Int32.toUInt32 (v6 - ((Int32.toUInt32 v6 >>> (Int32.toUInt32 1 &&& Int32.toUInt32 31)).toInt32 &&& 1431655765)) >>> (Int32.toUInt32 2 &&& Int32.toUInt32 31)).toInt32 &&& 858993459)) >>> (Int32.toUInt32 4 &&& Int32.toUInt32 31)).toInt32) &&& 252645135) >>> (Int32.toUInt32 8 &&& Int32.toUInt32 31)).toInt32) + (Int32.toUInt32 ((((((v6 - ((Int32.toUInt32 v6 >>> (Int32.toUInt32 1 &&& Int32.toUInt32 31)).toInt32 &&& 1431655765)) &&& 858993459) + ((Int32.toUInt32 (v6 - ((Int32.toUInt32 v6 >>> (Int32.toUInt32 1 &&& Int32.toUInt32 31)).toInt32 &&& 1431655765)) >>> (Int32.toUInt32 2 &&& Int32.toUInt32 31)).toInt32 &&& 858993459)) + (Int32.toUInt32 (((v6 - ((Int32.toUInt32 v6 >>> (Int32.toUInt32 1 &&& Int32.toUInt32 31)).toInt32 &&& 1431655765)) &&& 858993459) + ((Int32.toUInt32 (v6 - ((Int32.toUInt32 v6 >>> (Int32.toUInt32 1 &&& Int32.toUInt32 31)).toInt32 &&& 1431655765)) >>> (Int32.toUInt32 2 &&& Int32.toUInt32 31)).toInt32 &&& 858993459)) >>> (Int32.toUInt32 4 &&& Int32.toUInt32 31)).toInt32) &&& 252645135) + (Int32.toUInt32 (((((v6 - ((Int32.toUInt32 v6 >>> (Int32.toUInt32 1 &&& Int32.toUInt32 31)).toInt32 &&& 1431655765)) &&& 858993459) + ((Int32.toUInt32 (v6 - ((Int32.toUInt32 v6 >>> (Int32.toUInt32 1 &&& Int32.toUInt32 31)).toInt32 &&& 1431655765)) >>> (Int32.toUInt32 2 &&& Int32.toUInt32 31)).toInt32 &&& 858993459)) + (Int32.toUInt32 (((v6 - ((Int32.toUInt32 v6 >>> (Int32.toUInt32 1 &&& Int32.toUInt32 31)).toInt32 &&& 1431655765)) &&& 858993459) + ((Int32.toUInt32 (v6 - ((Int32.toUInt32 v6 >>> (Int32.toUInt32 1 &&& Int32.toUInt32 31)).toInt32 &&& 1431655765)) >>> (Int32.toUInt32 2 &&& Int32.toUInt32 31)).toInt32 &&& 858993459)) >>> (Int32.toUInt32 4 &&& Int32.toUInt32 31)).toInt32) &&& 252645135) >>> (Int32.toUInt32 8 &&& Int32.toUInt32 31)).toInt32) >>> (Int32.toUInt32 16 &&& Int32.toUInt32 31)).toInt32) &&& 63) : Int32).toInt) : Int) = (v1.toInt) := ci_eq rfl rfl c8
          refine ⟨vp_of (a := v6.toInt) rfl (by omega) (by omega), ?_⟩
          refine ⟨fun c12 => ?_, fun c12 => ?_⟩
          · skip
            rw [lg_cmp_gt] at c12
            have d13 : (((v2 : Int64).toInt) : Int) < (((JM 47 (Int32.toNatClampNeg v6)) : Int64).toInt) := cl_lt rfl rfl c12
            have e14 : ((v6 + 1) : Int32).toInt = (v6.toInt) + (1) := ti_add rfl rfl (by omega)
            exact ih _ _ _ _ hB (by have q0 : ((v6 + 1) : Int32).toInt = (v6.toInt + 1) := e14; omega) (by have q0 : ((v6 + 1) : Int32).toInt = (v6.toInt + 1) := e14; omega)
          · skip
            rw [lg_cmp_gt] at c12
            have d15 : ((((JM 47 (Int32.toNatClampNeg v6)) : Int64).toInt) : Int) ≤ ((v2 : Int64).toInt) := cl_nlt rfl rfl c12
            have e16 : ((v6 + 1) : Int32).toInt = (v6.toInt) + (1) := ti_add rfl rfl (by omega)
            exact ih _ _ _ _ hB (by have q0 : ((v6 + 1) : Int32).toInt = (v6.toInt + 1) := e16; omega) (by have q0 : ((v6 + 1) : Int32).toInt = (v6.toInt + 1) := e16; omega)
  refine sg_X9_countWithin_0 hc _ _ _ _ _ ?_
  exact (L 1000000) _ _ _ _ hB0 (by have q0 : (0 : Int32).toInt = 0 := rfl; omega) (by have q0 : (0 : Int32).toInt = 0 := rfl; omega)
set_option maxHeartbeats 2000000 in
theorem sp_X11_commonDivisor {d : Nat} {Q : Qt} {v0 : Int64} {v2 : Int64} {I : Im} {J : Jm} {R : Rm} (hB0 : Bd I) (hR0 : RI R) (hQ : ∀ (x : Int32) (y : Int64) (I2 : Im) (J2 : Jm), Bd I2 → (True) → Q x y I2 J2 R) : AM (d + 1) 168 112 [.long v0, .long v2] I J R Q := by
  have i_v0 := i64 v0
  have i_v2 := i64 v2
  refine am_X11_commonDivisor (fun P hc => ?_)
  have L : ∀ n : Nat, (∀ (v4 : Int64) (v6 : Int64) (v8 : Int32) (M : Im) (JM : Jm), Bd M → (0 ≤ v8.toInt ∧ v8.toInt ≤ 1000) → 2000 - v8.toInt < (n : Int) → P 9 112 [(4, .long v4), (6, .long v6), (8, .int v8)] [] M JM R) := by
    intro n
    induction n with
    | zero =>
      exact fun v4 v6 v8 M J _ hi hm => absurd hm (by omega)
    | succ n ih =>
      intro v4 v6 v8 M JM hB hi hm
      have i_v4 := i64 v4
      have i_v6 := i64 v6
      have i_v8 := i32 v8
      refine sg_X11_commonDivisor_9 hc _ _ _ _ _ _ ?_
      refine ⟨fun c1 => ?_, fun c1 => ?_⟩
      · skip
        have d2 : ((1000) : Int) ≤ (v8.toInt) := ci_le rfl rfl c1
        exact hQ _ _ _ _ hB trivial
      · skip
        have d3 : ((v8.toInt) : Int) < (1000) := ci_nle rfl rfl c1
        refine ⟨fun c4 => ?_, fun c4 => ?_⟩
        · skip
          rw [lg_cmp_eq] at c4
          have d5 : (((v6 : Int64).toInt) : Int) = (0) := cl_eq rfl rfl c4
          exact hQ _ _ _ _ hB trivial
        · skip
          rw [lg_cmp_eq] at c4
          have d6 : ¬ (((v6 : Int64).toInt) : Int) = (0) := cl_ne rfl rfl c4
          refine ⟨c4, ?_⟩
          have e7 : ((v8 + 1) : Int32).toInt = (v8.toInt) + (1) := ti_add rfl rfl (by omega)
          exact ih _ _ _ _ _ hB (by have q0 : ((v8 + 1) : Int32).toInt = (v8.toInt + 1) := e7; omega) (by have q0 : ((v8 + 1) : Int32).toInt = (v8.toInt + 1) := e7; omega)
  refine sg_X11_commonDivisor_0 hc _ _ _ _ _ ?_
  exact (L 1000000) _ _ _ _ _ hB0 (by have q0 : (0 : Int32).toInt = 0 := rfl; omega) (by have q0 : (0 : Int32).toInt = 0 := rfl; omega)
set_option maxHeartbeats 2000000 in
theorem sp_X11_tell {d : Nat} {Q : Qt} {v1 : Int64} {v3 : Int64} {I : Im} {J : Jm} {R : Rm} (hB0 : Bd I) (hR0 : RI R) (hQ : ∀ (x : Int32) (y : Int64) (I2 : Im) (J2 : Jm), Bd I2 → ((x.toInt = 1)) → Q x y I2 J2 R) : AM (d + 2) 155 112 [.ref 1, .long v1, .long v3] I J R Q := by
  have i_v1 := i64 v1
  have i_v3 := i64 v3
  refine w_X11_tell ?_
  refine sp_X11_commonDivisor hB0 hR0 (fun x1 y6 I2 J3 hB4 p5 => ?_)
  refine ⟨fun c7 => ?_, fun c7 => ?_⟩
  · skip
    rw [lg_cmp_le] at c7
    have d8 : (((y6 : Int64).toInt) : Int) ≤ (0) := cl_le rfl rfl c7
    refine w_X11_allow ?_
    have hB9 : Bd (uI I2 1 0 0) := Bd.o0 hB4 io9_112_1_11 (by decide) bd9_11_0
    refine ⟨Or.inr rfl, ?_⟩
    intro o10
    refine ⟨Or.inr rfl, ?_⟩
    exact hQ _ _ _ _ hB9 (by have q0 : (1 : Int32).toInt = 1 := rfl; omega)
  · skip
    rw [lg_cmp_le] at c7
    have d11 : ((0) : Int) < ((y6 : Int64).toInt) := cl_nle rfl rfl c7
    refine ⟨(fun z => by have z2 : ((y6 : Int64).toInt : Int) = 0 := cl_eq rfl rfl z; omega), ?_⟩
    refine ⟨(fun z => by have z2 : ((y6 : Int64).toInt : Int) = 0 := cl_eq rfl rfl z; omega), ?_⟩
    refine w_X11_allow ?_
    have hB12 : Bd (uI I2 1 0 0) := Bd.o0 hB4 io9_112_1_11 (by decide) bd9_11_0
    refine ⟨Or.inr rfl, ?_⟩
    intro o13
    refine ⟨Or.inr rfl, ?_⟩
    exact hQ _ _ _ _ hB12 (by have q0 : (1 : Int32).toInt = 1 := rfl; omega)
set_option maxHeartbeats 2000000 in
theorem sp_X11_power {d : Nat} {Q : Qt} {v0 : Int32} {v1 : Int32} {I : Im} {J : Jm} {R : Rm} (hB0 : Bd I) (hR0 : RI R) (hv1 : 0 ≤ v1.toInt ∧ v1.toInt ≤ 12) (hQ : ∀ (x : Int32) (y : Int64) (I2 : Im) (J2 : Jm), Bd I2 → (True) → Q x y I2 J2 R) : AM (d + 1) 169 112 [.int v0, .int v1] I J R Q := by
  have i_v0 := i32 v0
  have i_v1 := i32 v1
  refine am_X11_power (fun P hc => ?_)
  have L : ∀ n : Nat, (∀ (v2 : Int64) (v4 : Int32) (M : Im) (JM : Jm), Bd M → (0 ≤ v1.toInt ∧ v1.toInt ≤ 12 ∧ 0 ≤ v4.toInt ∧ v4.toInt ≤ 12) → 20 - v4.toInt < (n : Int) → P 5 112 [(0, .int v0), (1, .int v1), (2, .long v2), (4, .int v4)] [] M JM R) := by
    intro n
    induction n with
    | zero =>
      exact fun v2 v4 M J _ hi hm => absurd hm (by omega)
    | succ n ih =>
      intro v2 v4 M JM hB hi hm
      have i_v0 := i32 v0
      have i_v1 := i32 v1
      have i_v2 := i64 v2
      have i_v4 := i32 v4
      refine sg_X11_power_5 hc _ _ _ _ _ _ _ ?_
      refine ⟨fun c1 => ?_, fun c1 => ?_⟩
      · skip
        have d2 : ((v1.toInt) : Int) ≤ (v4.toInt) := ci_le rfl rfl c1
        exact hQ _ _ _ _ hB trivial
      · skip
        have d3 : ((v4.toInt) : Int) < (v1.toInt) := ci_nle rfl rfl c1
        have e4 : ((v4 + 1) : Int32).toInt = (v4.toInt) + (1) := ti_add rfl rfl (by omega)
        exact ih _ _ _ _ hB (by have q0 : ((v4 + 1) : Int32).toInt = (v4.toInt + 1) := e4; omega) (by have q0 : ((v4 + 1) : Int32).toInt = (v4.toInt + 1) := e4; omega)
  refine sg_X11_power_0 hc _ _ _ _ _ ?_
  exact (L 1000000) _ _ _ _ hB0 (by have q0 : (0 : Int32).toInt = 0 := rfl; omega) (by have q0 : (0 : Int32).toInt = 0 := rfl; omega)
set_option maxHeartbeats 2000000 in
theorem sp_X11_choices {d : Nat} {Q : Qt} {v0 : Int32} {v1 : Int32} {I : Im} {J : Jm} {R : Rm} (hB0 : Bd I) (hR0 : RI R) (hv1 : 0 ≤ v1.toInt ∧ v1.toInt ≤ 12) (hQ : ∀ (x : Int32) (y : Int64) (I2 : Im) (J2 : Jm), Bd I2 → (True) → Q x y I2 J2 R) : AM (d + 1) 170 112 [.int v0, .int v1] I J R Q := by
  have i_v0 := i32 v0
  have i_v1 := i32 v1
  refine am_X11_choices (fun P hc => ?_)
  have L : ∀ n : Nat, (∀ (v2 : Int64) (v4 : Int32) (M : Im) (JM : Jm), Bd M → (0 ≤ v1.toInt ∧ v1.toInt ≤ 12 ∧ 1 ≤ v4.toInt ∧ v4.toInt ≤ 13) → 20 - v4.toInt < (n : Int) → P 5 112 [(0, .int v0), (1, .int v1), (2, .long v2), (4, .int v4)] [] M JM R) := by
    intro n
    induction n with
    | zero =>
      exact fun v2 v4 M J _ hi hm => absurd hm (by omega)
    | succ n ih =>
      intro v2 v4 M JM hB hi hm
      have i_v0 := i32 v0
      have i_v1 := i32 v1
      have i_v2 := i64 v2
      have i_v4 := i32 v4
      refine sg_X11_choices_5 hc _ _ _ _ _ _ _ ?_
      refine ⟨fun c1 => ?_, fun c1 => ?_⟩
      · skip
        have d2 : ((v1.toInt) : Int) < (v4.toInt) := ci_lt rfl rfl c1
        exact hQ _ _ _ _ hB trivial
      · skip
        have d3 : ((v4.toInt) : Int) ≤ (v1.toInt) := ci_nlt rfl rfl c1
        refine ⟨(fun z => by have z2 : (v4.toInt : Int) = 0 := cl_eq (tl_i2l rfl) rfl z; omega), ?_⟩
        have e4 : ((v4 + 1) : Int32).toInt = (v4.toInt) + (1) := ti_add rfl rfl (by omega)
        exact ih _ _ _ _ hB (by have q0 : ((v4 + 1) : Int32).toInt = (v4.toInt + 1) := e4; omega) (by have q0 : ((v4 + 1) : Int32).toInt = (v4.toInt + 1) := e4; omega)
  refine sg_X11_choices_0 hc _ _ _ _ _ ?_
  exact (L 1000000) _ _ _ _ hB0 (by have q0 : (1 : Int32).toInt = 1 := rfl; omega) (by have q0 : (1 : Int32).toInt = 1 := rfl; omega)
set_option maxHeartbeats 2000000 in
theorem sp_X11_greedyNumber {d : Nat} {Q : Qt} {v0 : Int32} {v1 : Int32} {v2 : Int32} {I : Im} {J : Jm} {R : Rm} (hB0 : Bd I) (hR0 : RI R) (hQ : ∀ (x : Int32) (y : Int64) (I2 : Im) (J2 : Jm), Bd I2 → (True) → Q x y I2 J2 R) : AM (d + 2) 171 112 [.int v0, .int v1, .int v2] I J R Q := by
  have i_v0 := i32 v0
  have i_v1 := i32 v1
  have i_v2 := i32 v2
  refine am_X11_greedyNumber (fun P hc => ?_)
  have L : ∀ n : Nat, (∀ (v3 : Int64) (v5 : Int64) (v7 : Int32) (M : Im) (JM : Jm), Bd M → (0 ≤ v7.toInt ∧ v7.toInt ≤ 30) → 40 - v7.toInt < (n : Int) → P 10 112 [(2, .int v2), (3, .long v3), (5, .long v5), (7, .int v7)] [] M JM R) := by
    intro n
    induction n with
    | zero =>
      exact fun v3 v5 v7 M J _ hi hm => absurd hm (by omega)
    | succ n ih =>
      intro v3 v5 v7 M JM hB hi hm
      have i_v2 := i32 v2
      have i_v3 := i64 v3
      have i_v5 := i64 v5
      have i_v7 := i32 v7
      refine sg_X11_greedyNumber_10 hc _ _ _ _ _ _ _ ?_
      refine ⟨fun c1 => ?_, fun c1 => ?_⟩
      · skip
        have d2 : ((30) : Int) ≤ (v7.toInt) := ci_le rfl rfl c1
        exact hQ _ _ _ _ hB trivial
      · skip
        have d3 : ((v7.toInt) : Int) < (30) := ci_nle rfl rfl c1
        refine ⟨fun c4 => ?_, fun c4 => ?_⟩
        · skip
          rw [lg_cmp_le] at c4
          have d5 : (((v3 : Int64).toInt) : Int) ≤ (0) := cl_le rfl rfl c4
          exact hQ _ _ _ _ hB trivial
        · skip
          rw [lg_cmp_le] at c4
          have d6 : ((0) : Int) < ((v3 : Int64).toInt) := cl_nle rfl rfl c4
          refine ⟨(fun z => by have z2 : ((v3 : Int64).toInt : Int) = 0 := cl_eq rfl rfl z; omega), ?_⟩
          refine ⟨fun c7 => ?_, fun c7 => ?_⟩
          · skip
            have d8 : ¬ ((v7.toInt) : Int) = (v2.toInt) := ci_ne rfl rfl c7
            refine ⟨fun c9 => ?_, fun c9 => ?_⟩
            · skip
              rw [lg_cmp_eq] at c9
              have d10 : ¬ (((((v3 * (((v5 + v3) - 1) / v3)) - v5) : Int64).toInt) : Int) = (0) := cl_ne rfl rfl c9
              refine sp_X11_commonDivisor hB hR0 (fun x11 y16 I12 J13 hB14 p15 => ?_)
              refine ⟨fun c17 => ?_, fun c17 => ?_⟩
              · skip
                rw [lg_cmp_ge] at c17
                have d18 : ((1) : Int) ≤ ((y16 : Int64).toInt) := cl_le rfl rfl c17
                refine ⟨(fun z => by have z2 : ((y16 : Int64).toInt : Int) = 0 := cl_eq rfl rfl z; omega), ?_⟩
                refine ⟨(fun z => by have z2 : ((y16 : Int64).toInt : Int) = 0 := cl_eq rfl rfl z; omega), ?_⟩
                have e19 : ((v7 + 1) : Int32).toInt = (v7.toInt) + (1) := ti_add rfl rfl (by omega)
                exact ih _ _ _ _ _ hB14 (by have q0 : ((v7 + 1) : Int32).toInt = (v7.toInt + 1) := e19; omega) (by have q0 : ((v7 + 1) : Int32).toInt = (v7.toInt + 1) := e19; omega)
              · skip
                rw [lg_cmp_ge] at c17
                have d20 : (((y16 : Int64).toInt) : Int) < (1) := cl_nle rfl rfl c17
                exact hQ _ _ _ _ hB14 trivial
            · skip
              rw [lg_cmp_eq] at c9
              have d21 : (((((v3 * (((v5 + v3) - 1) / v3)) - v5) : Int64).toInt) : Int) = (0) := cl_eq rfl rfl c9
              exact hQ _ _ _ _ hB trivial
          · skip
            have d22 : ((v7.toInt) : Int) = (v2.toInt) := ci_eq rfl rfl c7
            exact hQ _ _ _ _ hB trivial
  refine sg_X11_greedyNumber_0 hc _ _ _ _ _ _ ?_
  exact (L 1000000) _ _ _ _ _ hB0 (by have q0 : (0 : Int32).toInt = 0 := rfl; omega) (by have q0 : (0 : Int32).toInt = 0 := rfl; omega)
set_option maxHeartbeats 2000000 in
theorem sp_X11_slipStatus {d : Nat} {Q : Qt} {v1 : Int32} {v2 : Int32} {v3 : Int32} {v4 : Int32} {I : Im} {J : Jm} {R : Rm} (hB0 : Bd I) (hR0 : RI R) (hQ : ∀ (x : Int32) (y : Int64) (I2 : Im) (J2 : Jm), Bd I2 → ((x.toInt = 0 → (0 ≤ v1.toInt ∧ v1.toInt ≤ 3))) → Q x y I2 J2 R) : AM (d + 4) 159 112 [.ref 1, .int v1, .int v2, .int v3, .int v4] I J R Q := by
  have i_v1 := i32 v1
  have i_v2 := i32 v2
  have i_v3 := i32 v3
  have i_v4 := i32 v4
  refine am_X11_slipStatus (fun P hc => ?_)
  have L : ∀ n : Nat, (∀ (v6 : Int32) (M : Im) (JM : Jm), Bd M → (0 ≤ v1.toInt ∧ v1.toInt ≤ 3 ∧ 1 ≤ v2.toInt ∧ v2.toInt ≤ 8 ∧ 0 ≤ v6.toInt ∧ v6.toInt ≤ 8) → 10 - v6.toInt < (n : Int) → P 41 112 [(0, .ref 1), (1, .int v1), (2, .int v2), (6, .int v6)] [] M JM R) := by
    intro n
    induction n with
    | zero =>
      exact fun v6 M J _ hi hm => absurd hm (by omega)
    | succ n ih =>
      intro v6 M JM hB hi hm
      have i_v1 := i32 v1
      have i_v2 := i32 v2
      have i_v6 := i32 v6
      refine sg_X11_slipStatus_41 hc _ _ _ _ _ _ ?_
      refine ⟨fun c1 => ?_, fun c1 => ?_⟩
      · skip
        have d2 : ((v2.toInt) : Int) ≤ (v6.toInt) := ci_le rfl rfl c1
        exact hQ _ _ _ _ hB (by have q0 : (0 : Int32).toInt = 0 := rfl; omega)
      · skip
        have d3 : ((v6.toInt) : Int) < (v2.toInt) := ci_nle rfl rfl c1
        refine ⟨vp_of (a := v1.toInt) rfl (by omega) (by omega), ?_⟩
        have hr4 := RI.tray hR0 (Int32.toNatClampNeg v1) (by rw [tn_of rfl (by omega)]; omega)
        refine ⟨hr4.1, ?_⟩
        refine bif_t hr4.2 ?_
        refine bif_t (fa_10_2 hr4.2).1 ?_
        refine ⟨by rw [(fa_10_2 hr4.2).2.1]; exact vp_of (a := v6.toInt) rfl (by omega) (by omega), ?_⟩
        refine ⟨fun c5 => ?_, fun c5 => ?_⟩
        · skip
          rw [lg_cmp_lt] at c5
          have d6 : ((((JM ((R 2 (Int32.toNatClampNeg v1)) + 1) (Int32.toNatClampNeg v6)) : Int64).toInt) : Int) < (1) := cl_lt rfl rfl c5
          exact hQ _ _ _ _ hB (by have q0 : (5 : Int32).toInt = 5 := rfl; omega)
        · skip
          rw [lg_cmp_lt] at c5
          have d7 : ((1) : Int) ≤ (((JM ((R 2 (Int32.toNatClampNeg v1)) + 1) (Int32.toNatClampNeg v6)) : Int64).toInt) := cl_nlt rfl rfl c5
          refine ⟨fun c8 => ?_, fun c8 => ?_⟩
          · skip
            rw [lg_cmp_le] at c8
            have d9 : ((((JM ((R 2 (Int32.toNatClampNeg v1)) + 1) (Int32.toNatClampNeg v6)) : Int64).toInt) : Int) ≤ (30) := cl_le rfl rfl c8
            have e10 : ((v6 + 1) : Int32).toInt = (v6.toInt) + (1) := ti_add rfl rfl (by omega)
            exact ih _ _ _ hB (by have q0 : ((v6 + 1) : Int32).toInt = (v6.toInt + 1) := e10; omega) (by have q0 : ((v6 + 1) : Int32).toInt = (v6.toInt + 1) := e10; omega)
          · skip
            rw [lg_cmp_le] at c8
            have d11 : ((30) : Int) < (((JM ((R 2 (Int32.toNatClampNeg v1)) + 1) (Int32.toNatClampNeg v6)) : Int64).toInt) := cl_nle rfl rfl c8
            exact hQ _ _ _ _ hB (by have q0 : (5 : Int32).toInt = 5 := rfl; omega)
  refine sg_X11_slipStatus_0 hc _ _ _ _ _ _ _ ?_
  refine w_X11_placesStatus ?_
  refine w_X11_trayStatus ?_
  refine w_X11_isTray ?_
  refine ⟨fun c12 => ?_, fun c12 => ?_⟩
  · skip
    have d13 : ((v1.toInt) : Int) < (0) := ci_lt rfl rfl c12
    refine ⟨Or.inl rfl, ?_⟩
    intro o14
    refine ⟨fun c15 => ?_, fun c15 => ?_⟩
    · exact absurd c15 (by decide)
    · skip
      refine ⟨fun c16 => ?_, fun c16 => ?_⟩
      · exact absurd c16 (by decide)
      · skip
        refine ⟨fun c17 => ?_, fun c17 => ?_⟩
        · exact absurd c17 (by decide)
        · skip
          exact hQ _ _ _ _ hB0 (by have q0 : (1 : Int32).toInt = 1 := rfl; omega)
  · skip
    have d18 : ((0) : Int) ≤ (v1.toInt) := ci_nlt rfl rfl c12
    refine ⟨fun c19 => ?_, fun c19 => ?_⟩
    · skip
      have d20 : ((4) : Int) ≤ (v1.toInt) := ci_le rfl rfl c19
      refine ⟨Or.inl rfl, ?_⟩
      intro o21
      refine ⟨fun c22 => ?_, fun c22 => ?_⟩
      · exact absurd c22 (by decide)
      · skip
        refine ⟨fun c23 => ?_, fun c23 => ?_⟩
        · exact absurd c23 (by decide)
        · skip
          refine ⟨fun c24 => ?_, fun c24 => ?_⟩
          · exact absurd c24 (by decide)
          · skip
            exact hQ _ _ _ _ hB0 (by have q0 : (1 : Int32).toInt = 1 := rfl; omega)
    · skip
      have d25 : ((v1.toInt) : Int) < (4) := ci_nle rfl rfl c19
      refine ⟨Or.inr rfl, ?_⟩
      intro o26
      refine ⟨fun c27 => ?_, fun c27 => ?_⟩
      · skip
        refine ⟨vp_of (a := v1.toInt) rfl (by omega) (by omega), ?_⟩
        have hr28 := RI.tray hR0 (Int32.toNatClampNeg v1) (by rw [tn_of rfl (by omega)]; omega)
        refine ⟨hr28.1, ?_⟩
        refine bif_t hr28.2 ?_
        refine w_X10_isMissing ?_
        refine bif_t hr28.2 ?_
        refine ⟨fun c29 => ?_, fun c29 => ?_⟩
        · skip
          have b30 := Bd.o hB0 hr28.2 bd9_10_1
          have d31 : ((0) : Int) ≤ ((I (R 2 (Int32.toNatClampNeg v1)) 1).toInt) := ci_le rfl rfl c29
          refine ⟨Or.inl rfl, ?_⟩
          intro o32
          refine ⟨fun c33 => ?_, fun c33 => ?_⟩
          · skip
            refine ⟨fun c34 => ?_, fun c34 => ?_⟩
            · skip
              refine ⟨vp_of (a := v1.toInt) rfl (by omega) (by omega), ?_⟩
              have hr35 := RI.tray hR0 (Int32.toNatClampNeg v1) (by rw [tn_of rfl (by omega)]; omega)
              refine ⟨hr35.1, ?_⟩
              refine bif_t hr35.2 ?_
              refine ⟨fun c36 => ?_, fun c36 => ?_⟩
              · skip
                have d37 : ((v2.toInt) : Int) ≤ ((I (R 2 (Int32.toNatClampNeg v1)) 1).toInt) := ci_le rfl rfl c36
                refine ⟨fun c38 => ?_, fun c38 => ?_⟩
                · skip
                  refine ⟨fun c39 => ?_, fun c39 => ?_⟩
                  · skip
                    have d40 : ((v2.toInt) : Int) < (1) := ci_lt rfl rfl c39
                    exact hQ _ _ _ _ hB0 (by have q0 : (5 : Int32).toInt = 5 := rfl; omega)
                  · skip
                    have d41 : ((1) : Int) ≤ (v2.toInt) := ci_nlt rfl rfl c39
                    refine ⟨fun c42 => ?_, fun c42 => ?_⟩
                    · skip
                      have d43 : ((8) : Int) < (v2.toInt) := ci_lt rfl rfl c42
                      exact hQ _ _ _ _ hB0 (by have q0 : (5 : Int32).toInt = 5 := rfl; omega)
                    · skip
                      have d44 : ((v2.toInt) : Int) ≤ (8) := ci_nlt rfl rfl c42
                      refine w_X11_isShare ?_
                      refine ⟨fun c45 => ?_, fun c45 => ?_⟩
                      · skip
                        have d46 : ((v3.toInt) : Int) < (1) := ci_lt rfl rfl c45
                        refine ⟨Or.inl rfl, ?_⟩
                        intro o47
                        refine ⟨fun c48 => ?_, fun c48 => ?_⟩
                        · exact absurd c48 (by decide)
                        · skip
                          exact hQ _ _ _ _ hB0 (by have q0 : (5 : Int32).toInt = 5 := rfl; omega)
                      · skip
                        have d49 : ((1) : Int) ≤ (v3.toInt) := ci_nlt rfl rfl c45
                        refine ⟨fun c50 => ?_, fun c50 => ?_⟩
                        · skip
                          have d51 : ((99) : Int) < (v3.toInt) := ci_lt rfl rfl c50
                          refine ⟨Or.inl rfl, ?_⟩
                          intro o52
                          refine ⟨fun c53 => ?_, fun c53 => ?_⟩
                          · exact absurd c53 (by decide)
                          · skip
                            exact hQ _ _ _ _ hB0 (by have q0 : (5 : Int32).toInt = 5 := rfl; omega)
                        · skip
                          have d54 : ((v3.toInt) : Int) ≤ (99) := ci_nlt rfl rfl c50
                          refine ⟨fun c55 => ?_, fun c55 => ?_⟩
                          · skip
                            have d56 : ((v4.toInt) : Int) < (1) := ci_lt rfl rfl c55
                            refine ⟨Or.inl rfl, ?_⟩
                            intro o57
                            refine ⟨fun c58 => ?_, fun c58 => ?_⟩
                            · exact absurd c58 (by decide)
                            · skip
                              exact hQ _ _ _ _ hB0 (by have q0 : (5 : Int32).toInt = 5 := rfl; omega)
                          · skip
                            have d59 : ((1) : Int) ≤ (v4.toInt) := ci_nlt rfl rfl c55
                            refine ⟨fun c60 => ?_, fun c60 => ?_⟩
                            · skip
                              have d61 : ((30) : Int) < (v4.toInt) := ci_lt rfl rfl c60
                              refine ⟨Or.inl rfl, ?_⟩
                              intro o62
                              refine ⟨fun c63 => ?_, fun c63 => ?_⟩
                              · exact absurd c63 (by decide)
                              · skip
                                exact hQ _ _ _ _ hB0 (by have q0 : (5 : Int32).toInt = 5 := rfl; omega)
                            · skip
                              have d64 : ((v4.toInt) : Int) ≤ (30) := ci_nlt rfl rfl c60
                              refine ⟨Or.inr rfl, ?_⟩
                              intro o65
                              refine ⟨fun c66 => ?_, fun c66 => ?_⟩
                              · skip
                                exact (L 1000000) _ _ _ hB0 (by have q0 : (0 : Int32).toInt = 0 := rfl; omega) (by have q0 : (0 : Int32).toInt = 0 := rfl; omega)
                              · exact absurd c66 (by decide)
                · exact absurd c38 (by decide)
              · skip
                have d67 : (((I (R 2 (Int32.toNatClampNeg v1)) 1).toInt) : Int) < (v2.toInt) := ci_nle rfl rfl c36
                refine ⟨fun c68 => ?_, fun c68 => ?_⟩
                · exact absurd c68 (by decide)
                · skip
                  exact hQ _ _ _ _ hB0 (by have q0 : (4 : Int32).toInt = 4 := rfl; omega)
            · exact absurd c34 (by decide)
          · exact absurd c33 (by decide)
        · skip
          have b69 := Bd.o hB0 hr28.2 bd9_10_1
          have d70 : (((I (R 2 (Int32.toNatClampNeg v1)) 1).toInt) : Int) < (0) := ci_nle rfl rfl c29
          refine ⟨Or.inr rfl, ?_⟩
          intro o71
          refine ⟨fun c72 => ?_, fun c72 => ?_⟩
          · exact absurd c72 (by decide)
          · skip
            refine ⟨fun c73 => ?_, fun c73 => ?_⟩
            · exact absurd c73 (by decide)
            · skip
              refine ⟨fun c74 => ?_, fun c74 => ?_⟩
              · exact absurd c74 (by decide)
              · skip
                exact hQ _ _ _ _ hB0 (by have q0 : (3 : Int32).toInt = 3 := rfl; omega)
      · exact absurd c27 (by decide)
set_option maxHeartbeats 2000000 in
theorem sp_X11_copyStore {d : Nat} {Q : Qt} {v1 : Int32} {v2 : Int32} {I : Im} {J : Jm} {R : Rm} (hB0 : Bd I) (hR0 : RI R) (hQ : ∀ (x : Int32) (y : Int64) (I2 : Im) (J2 : Jm), Bd I2 → (((x.toInt = v2.toInt ∧ 0 ≤ v1.toInt ∧ v1.toInt ≤ 3 ∧ 0 ≤ (I (R 2 (Int32.toNatClampNeg v1)) 1).toInt ∧ 0 ≤ v2.toInt ∧ v2.toInt ≤ 30 ∧ v2.toInt ≤ (I (R 2 (Int32.toNatClampNeg v1)) 1).toInt) ∨ (x.toInt = -1 ∧ (v1.toInt < 0 ∨ 3 < v1.toInt ∨ (I (R 2 (Int32.toNatClampNeg v1)) 1).toInt < 0 ∨ v2.toInt < 0 ∨ 30 < v2.toInt ∨ (I (R 2 (Int32.toNatClampNeg v1)) 1).toInt < v2.toInt)))) → Q x y I2 J2 R) : AM (d + 4) 117 112 [.ref 1, .int v1, .int v2] I J R Q := by
  have i_v1 := i32 v1
  have i_v2 := i32 v2
  refine am_X11_copyStore (fun P hc => ?_)
  have L : ∀ n : Nat, (∀ (v4 : Int32) (M : Im) (JM : Jm), Bd M → (0 ≤ v1.toInt ∧ v1.toInt ≤ 3 ∧ 0 ≤ v2.toInt ∧ v2.toInt ≤ 30 ∧ 0 ≤ (I (R 2 (Int32.toNatClampNeg v1)) 1).toInt ∧ v2.toInt ≤ (I (R 2 (Int32.toNatClampNeg v1)) 1).toInt ∧ 1 ≤ v4.toInt ∧ v4.toInt ≤ 31) → 40 - v4.toInt < (n : Int) → P 36 112 [(0, .ref 1), (1, .int v1), (2, .int v2), (4, .int v4)] [] M JM R) := by
    intro n
    induction n with
    | zero =>
      exact fun v4 M J _ hi hm => absurd hm (by omega)
    | succ n ih =>
      intro v4 M JM hB hi hm
      have i_v1 := i32 v1
      have i_v2 := i32 v2
      have i_v4 := i32 v4
      refine sg_X11_copyStore_36 hc _ _ _ _ _ _ ?_
      refine ⟨fun c1 => ?_, fun c1 => ?_⟩
      · skip
        have d2 : ((v2.toInt) : Int) < (v4.toInt) := ci_lt rfl rfl c1
        refine w_X11_answer ?_
        have hB3 : Bd (uI M 1 0 0) := Bd.o0 hB io9_112_1_11 (by decide) bd9_11_0
        exact hQ _ _ _ _ hB3 (by have q0 : (v2 : Int32).toInt = v2.toInt := rfl; omega)
      · skip
        have d4 : ((v4.toInt) : Int) ≤ (v2.toInt) := ci_nlt rfl rfl c1
        refine ⟨vp_of (a := v1.toInt) rfl (by omega) (by omega), ?_⟩
        have hr5 := RI.tray hR0 (Int32.toNatClampNeg v1) (by rw [tn_of rfl (by omega)]; omega)
        refine ⟨hr5.1, ?_⟩
        refine ⟨(RI.now hR0).2, ?_⟩
        refine bif_t (RI.now hR0).1 ?_
        refine bif_t (fa_0_0 (RI.now hR0).1).1 ?_
        refine ⟨by rw [(fa_0_0 (RI.now hR0).1).2.1]; exact vp_of (a := v4.toInt) rfl (by omega) (by omega), ?_⟩
        refine bif_t hr5.2 ?_
        refine sp_X10_put hB hR0 hr5.2 (fun x6 y11 I7 J8 hB9 p10 => ?_)
        have e12 : ((v4 + 1) : Int32).toInt = (v4.toInt) + (1) := ti_add rfl rfl (by omega)
        exact ih _ _ _ hB9 (by have q0 : ((v4 + 1) : Int32).toInt = (v4.toInt + 1) := e12; omega) (by have q0 : ((v4 + 1) : Int32).toInt = (v4.toInt + 1) := e12; omega)
  refine sg_X11_copyStore_0 hc _ _ _ _ _ ?_
  refine w_X11_placesStatus ?_
  refine w_X11_trayStatus ?_
  refine w_X11_isTray ?_
  refine ⟨fun c13 => ?_, fun c13 => ?_⟩
  · skip
    have d14 : ((v1.toInt) : Int) < (0) := ci_lt rfl rfl c13
    refine ⟨Or.inl rfl, ?_⟩
    intro o15
    refine ⟨fun c16 => ?_, fun c16 => ?_⟩
    · exact absurd c16 (by decide)
    · skip
      refine ⟨fun c17 => ?_, fun c17 => ?_⟩
      · exact absurd c17 (by decide)
      · skip
        refine ⟨fun c18 => ?_, fun c18 => ?_⟩
        · exact absurd c18 (by decide)
        · skip
          refine w_X11_refuse ?_
          have hB19 : Bd (uI I 1 0 1) := Bd.o0 hB0 io9_112_1_11 (by decide) bd9_11_0
          exact hQ _ _ _ _ hB19 (by have q0 : ((-1) : Int32).toInt = (-1) := rfl; omega)
  · skip
    have d20 : ((0) : Int) ≤ (v1.toInt) := ci_nlt rfl rfl c13
    refine ⟨fun c21 => ?_, fun c21 => ?_⟩
    · skip
      have d22 : ((4) : Int) ≤ (v1.toInt) := ci_le rfl rfl c21
      refine ⟨Or.inl rfl, ?_⟩
      intro o23
      refine ⟨fun c24 => ?_, fun c24 => ?_⟩
      · exact absurd c24 (by decide)
      · skip
        refine ⟨fun c25 => ?_, fun c25 => ?_⟩
        · exact absurd c25 (by decide)
        · skip
          refine ⟨fun c26 => ?_, fun c26 => ?_⟩
          · exact absurd c26 (by decide)
          · skip
            refine w_X11_refuse ?_
            have hB27 : Bd (uI I 1 0 1) := Bd.o0 hB0 io9_112_1_11 (by decide) bd9_11_0
            exact hQ _ _ _ _ hB27 (by have q0 : ((-1) : Int32).toInt = (-1) := rfl; omega)
    · skip
      have d28 : ((v1.toInt) : Int) < (4) := ci_nle rfl rfl c21
      refine ⟨Or.inr rfl, ?_⟩
      intro o29
      refine ⟨fun c30 => ?_, fun c30 => ?_⟩
      · skip
        refine ⟨vp_of (a := v1.toInt) rfl (by omega) (by omega), ?_⟩
        have hr31 := RI.tray hR0 (Int32.toNatClampNeg v1) (by rw [tn_of rfl (by omega)]; omega)
        refine ⟨hr31.1, ?_⟩
        refine bif_t hr31.2 ?_
        refine w_X10_isMissing ?_
        refine bif_t hr31.2 ?_
        refine ⟨fun c32 => ?_, fun c32 => ?_⟩
        · skip
          have b33 := Bd.o hB0 hr31.2 bd9_10_1
          have d34 : ((0) : Int) ≤ ((I (R 2 (Int32.toNatClampNeg v1)) 1).toInt) := ci_le rfl rfl c32
          refine ⟨Or.inl rfl, ?_⟩
          intro o35
          refine ⟨fun c36 => ?_, fun c36 => ?_⟩
          · skip
            refine ⟨fun c37 => ?_, fun c37 => ?_⟩
            · skip
              refine ⟨vp_of (a := v1.toInt) rfl (by omega) (by omega), ?_⟩
              have hr38 := RI.tray hR0 (Int32.toNatClampNeg v1) (by rw [tn_of rfl (by omega)]; omega)
              refine ⟨hr38.1, ?_⟩
              refine bif_t hr38.2 ?_
              refine ⟨fun c39 => ?_, fun c39 => ?_⟩
              · skip
                have d40 : ((v2.toInt) : Int) ≤ ((I (R 2 (Int32.toNatClampNeg v1)) 1).toInt) := ci_le rfl rfl c39
                refine ⟨fun c41 => ?_, fun c41 => ?_⟩
                · skip
                  refine ⟨fun c42 => ?_, fun c42 => ?_⟩
                  · skip
                    have d43 : ((v2.toInt) : Int) < (0) := ci_lt rfl rfl c42
                    refine w_X11_refuse ?_
                    have hB44 : Bd (uI I 1 0 5) := Bd.o0 hB0 io9_112_1_11 (by decide) bd9_11_0
                    exact hQ _ _ _ _ hB44 (by have q0 : ((-1) : Int32).toInt = (-1) := rfl; omega)
                  · skip
                    have d45 : ((0) : Int) ≤ (v2.toInt) := ci_nlt rfl rfl c42
                    refine ⟨fun c46 => ?_, fun c46 => ?_⟩
                    · skip
                      have d47 : ((v2.toInt) : Int) ≤ (30) := ci_le rfl rfl c46
                      exact (L 1000000) _ _ _ hB0 (by have q0 : (1 : Int32).toInt = 1 := rfl; omega) (by have q0 : (1 : Int32).toInt = 1 := rfl; omega)
                    · skip
                      have d48 : ((30) : Int) < (v2.toInt) := ci_nle rfl rfl c46
                      refine w_X11_refuse ?_
                      have hB49 : Bd (uI I 1 0 5) := Bd.o0 hB0 io9_112_1_11 (by decide) bd9_11_0
                      exact hQ _ _ _ _ hB49 (by have q0 : ((-1) : Int32).toInt = (-1) := rfl; omega)
                · exact absurd c41 (by decide)
              · skip
                have d50 : (((I (R 2 (Int32.toNatClampNeg v1)) 1).toInt) : Int) < (v2.toInt) := ci_nle rfl rfl c39
                refine ⟨fun c51 => ?_, fun c51 => ?_⟩
                · exact absurd c51 (by decide)
                · skip
                  refine w_X11_refuse ?_
                  have hB52 : Bd (uI I 1 0 4) := Bd.o0 hB0 io9_112_1_11 (by decide) bd9_11_0
                  exact hQ _ _ _ _ hB52 (by have q0 : ((-1) : Int32).toInt = (-1) := rfl; omega)
            · exact absurd c37 (by decide)
          · exact absurd c36 (by decide)
        · skip
          have b53 := Bd.o hB0 hr31.2 bd9_10_1
          have d54 : (((I (R 2 (Int32.toNatClampNeg v1)) 1).toInt) : Int) < (0) := ci_nle rfl rfl c32
          refine ⟨Or.inr rfl, ?_⟩
          intro o55
          refine ⟨fun c56 => ?_, fun c56 => ?_⟩
          · exact absurd c56 (by decide)
          · skip
            refine ⟨fun c57 => ?_, fun c57 => ?_⟩
            · exact absurd c57 (by decide)
            · skip
              refine ⟨fun c58 => ?_, fun c58 => ?_⟩
              · exact absurd c58 (by decide)
              · skip
                refine w_X11_refuse ?_
                have hB59 : Bd (uI I 1 0 3) := Bd.o0 hB0 io9_112_1_11 (by decide) bd9_11_0
                exact hQ _ _ _ _ hB59 (by have q0 : ((-1) : Int32).toInt = (-1) := rfl; omega)
      · exact absurd c30 (by decide)
set_option maxHeartbeats 2000000 in
theorem sp_X11_slipAt {d : Nat} {Q : Qt} {v1 : Int32} {v2 : Int32} {v3 : Int32} {v4 : Int32} {v5 : Int32} {v6 : Int32} {I : Im} {J : Jm} {R : Rm} (hB0 : Bd I) (hR0 : RI R) (hQ : ∀ (x : Int32) (y : Int64) (I2 : Im) (J2 : Jm), Bd I2 → (True) → Q x y I2 J2 R) : AM (d + 5) 135 112 [.ref 1, .int v1, .int v2, .int v3, .int v4, .int v5, .int v6] I J R Q := by
  have i_v1 := i32 v1
  have i_v2 := i32 v2
  have i_v3 := i32 v3
  have i_v4 := i32 v4
  have i_v5 := i32 v5
  have i_v6 := i32 v6
  refine am_X11_slipAt (fun P hc => ?_)
  have L : ∀ n : Nat, (∀ (M : Im) (JM : Jm), Bd M → (0 ≤ v1.toInt ∧ v1.toInt ≤ 3) → 1 < (n : Int) → P 40 112 [(0, .ref 1), (1, .int v1), (2, .int v2), (3, .int v3), (4, .int v4), (5, .int v5), (6, .int v6)] [] M JM R) := by
    intro n
    induction n with
    | zero =>
      exact fun  M J _ hi hm => absurd hm (by omega)
    | succ n ih =>
      intro  M JM hB hi hm
      have i_v1 := i32 v1
      have i_v2 := i32 v2
      have i_v3 := i32 v3
      have i_v4 := i32 v4
      have i_v5 := i32 v5
      have i_v6 := i32 v6
      refine sg_X11_slipAt_40 hc _ _ _ _ _ _ _ _ _ ?_
      refine ⟨vp_of (a := v1.toInt) rfl (by omega) (by omega), ?_⟩
      have hr1 := RI.tray hR0 (Int32.toNatClampNeg v1) (by rw [tn_of rfl (by omega)]; omega)
      refine ⟨hr1.1, ?_⟩
      refine ⟨(RI.now hR0).2, ?_⟩
      refine bif_t (RI.now hR0).1 ?_
      refine w_X11_crumbs ?_
      refine ⟨fun c2 => ?_, fun c2 => ?_⟩
      · skip
        have d3 : ((1) : Int) ≤ (v4.toInt) := ci_le rfl rfl c2
        refine ⟨(fun z => by have z2 : (v4.toInt : Int) = 0 := cl_eq (tl_i2l rfl) rfl z; omega), ?_⟩
        refine sp_X8_findAll hB hR0 hr1.2 (fun x4 y9 I5 J6 hB7 p8 => ?_)
        refine ⟨fun c10 => ?_, fun c10 => ?_⟩
        · skip
          have d11 : ((v5.toInt) : Int) < (0) := ci_lt rfl rfl c10
          refine w_X11_refuse ?_
          have hB12 : Bd (uI I5 1 0 8) := Bd.o0 hB7 io9_112_1_11 (by decide) bd9_11_0
          exact hQ _ _ _ _ hB12 trivial
        · skip
          have d13 : ((0) : Int) ≤ (v5.toInt) := ci_nlt rfl rfl c10
          refine ⟨fun c14 => ?_, fun c14 => ?_⟩
          · skip
            have b15 := Bd.o hB7 io9_112_39_8 bd9_8_2
            have d16 : ((v5.toInt) : Int) < ((I5 39 2).toInt) := ci_lt rfl rfl c14
            refine ⟨fun c17 => ?_, fun c17 => ?_⟩
            · skip
              have d18 : ¬ ((v6.toInt) : Int) = (0) := ci_ne rfl rfl c17
              refine ⟨vp_of (a := v5.toInt) rfl (by omega) (by omega), ?_⟩
              refine w_X11_answer ?_
              have hB19 : Bd (uI I5 1 0 0) := Bd.o0 hB7 io9_112_1_11 (by decide) bd9_11_0
              exact hQ _ _ _ _ hB19 trivial
            · skip
              have d20 : ((v6.toInt) : Int) = (0) := ci_eq rfl rfl c17
              refine ⟨vp_of (a := v5.toInt) rfl (by omega) (by omega), ?_⟩
              refine w_X11_answer ?_
              have hB21 : Bd (uI I5 1 0 0) := Bd.o0 hB7 io9_112_1_11 (by decide) bd9_11_0
              exact hQ _ _ _ _ hB21 trivial
          · skip
            have b22 := Bd.o hB7 io9_112_39_8 bd9_8_2
            have d23 : (((I5 39 2).toInt) : Int) ≤ (v5.toInt) := ci_nlt rfl rfl c14
            refine w_X11_refuse ?_
            have hB24 : Bd (uI I5 1 0 8) := Bd.o0 hB7 io9_112_1_11 (by decide) bd9_11_0
            exact hQ _ _ _ _ hB24 trivial
      · skip
        have d25 : ((v4.toInt) : Int) < (1) := ci_nle rfl rfl c2
        refine sp_X8_findAll hB hR0 hr1.2 (fun x26 y31 I27 J28 hB29 p30 => ?_)
        refine ⟨fun c32 => ?_, fun c32 => ?_⟩
        · skip
          have d33 : ((v5.toInt) : Int) < (0) := ci_lt rfl rfl c32
          refine w_X11_refuse ?_
          have hB34 : Bd (uI I27 1 0 8) := Bd.o0 hB29 io9_112_1_11 (by decide) bd9_11_0
          exact hQ _ _ _ _ hB34 trivial
        · skip
          have d35 : ((0) : Int) ≤ (v5.toInt) := ci_nlt rfl rfl c32
          refine ⟨fun c36 => ?_, fun c36 => ?_⟩
          · skip
            have b37 := Bd.o hB29 io9_112_39_8 bd9_8_2
            have d38 : ((v5.toInt) : Int) < ((I27 39 2).toInt) := ci_lt rfl rfl c36
            refine ⟨fun c39 => ?_, fun c39 => ?_⟩
            · skip
              have d40 : ¬ ((v6.toInt) : Int) = (0) := ci_ne rfl rfl c39
              refine ⟨vp_of (a := v5.toInt) rfl (by omega) (by omega), ?_⟩
              refine w_X11_answer ?_
              have hB41 : Bd (uI I27 1 0 0) := Bd.o0 hB29 io9_112_1_11 (by decide) bd9_11_0
              exact hQ _ _ _ _ hB41 trivial
            · skip
              have d42 : ((v6.toInt) : Int) = (0) := ci_eq rfl rfl c39
              refine ⟨vp_of (a := v5.toInt) rfl (by omega) (by omega), ?_⟩
              refine w_X11_answer ?_
              have hB43 : Bd (uI I27 1 0 0) := Bd.o0 hB29 io9_112_1_11 (by decide) bd9_11_0
              exact hQ _ _ _ _ hB43 trivial
          · skip
            have b44 := Bd.o hB29 io9_112_39_8 bd9_8_2
            have d45 : (((I27 39 2).toInt) : Int) ≤ (v5.toInt) := ci_nlt rfl rfl c36
            refine w_X11_refuse ?_
            have hB46 : Bd (uI I27 1 0 8) := Bd.o0 hB29 io9_112_1_11 (by decide) bd9_11_0
            exact hQ _ _ _ _ hB46 trivial
  refine sg_X11_slipAt_0 hc _ _ _ _ _ _ _ _ _ ?_
  refine sp_X11_slipStatus hB0 hR0 (fun x47 y52 I48 J49 hB50 p51 => ?_)
  have i53 := i32 x47
  refine ⟨fun c54 => ?_, fun c54 => ?_⟩
  · skip
    have d55 : ((x47.toInt) : Int) = (0) := ci_eq rfl rfl c54
    refine ⟨fun c56 => ?_, fun c56 => ?_⟩
    · skip
      have d57 : ((v6.toInt) : Int) = (0) := ci_eq rfl rfl c56
      exact (L 1000000) _ _ hB50 (by omega) (by omega)
    · skip
      have d58 : ¬ ((v6.toInt) : Int) = (0) := ci_ne rfl rfl c56
      refine ⟨fun c59 => ?_, fun c59 => ?_⟩
      · skip
        have d60 : ((v6.toInt) : Int) = (1) := ci_eq rfl rfl c59
        exact (L 1000000) _ _ hB50 (by omega) (by omega)
      · skip
        have d61 : ¬ ((v6.toInt) : Int) = (1) := ci_ne rfl rfl c59
        refine w_X11_refuse ?_
        have hB62 : Bd (uI I48 1 0 5) := Bd.o0 hB50 io9_112_1_11 (by decide) bd9_11_0
        exact hQ _ _ _ _ hB62 trivial
  · skip
    have d63 : ¬ ((x47.toInt) : Int) = (0) := ci_ne rfl rfl c54
    refine w_X11_refuse ?_
    have hB64 : Bd (uI I48 1 0 x47) := Bd.o0 hB50 io9_112_1_11 (by decide) bd9_11_0
    exact hQ _ _ _ _ hB64 trivial
set_option maxHeartbeats 2000000 in
theorem sp_X11_isPlateSet {d : Nat} {Q : Qt} {v0 : Int32} {I : Im} {J : Jm} {R : Rm} (hB0 : Bd I) (hR0 : RI R) (hQ : ∀ (x : Int32) (y : Int64) (I2 : Im) (J2 : Jm), Bd I2 → (I = I2 ∧ (0 ≤ x.toInt ∧ x.toInt ≤ 1 ∧ (x.toInt = 1 → 0 ≤ v0.toInt ∧ v0.toInt ≤ 1073741823 ∧ pcn v0 30 ≤ 12) ∧ (0 ≤ v0.toInt ∧ v0.toInt ≤ 1073741823 ∧ pcn v0 30 ≤ 12 → x.toInt = 1))) → Q x y I2 J2 R) : AM (d + 2) 164 112 [.int v0] I J R Q := by
  have i_v0 := i32 v0
  refine w_X11_isPlateSet ?_
  refine ⟨fun c1 => ?_, fun c1 => ?_⟩
  · skip
    have d2 : ((v0.toInt) : Int) < (0) := ci_lt rfl rfl c1
    refine ⟨Or.inl rfl, ?_⟩
    exact hQ _ _ _ _ hB0 ⟨rfl, (by have q0 : (0 : Int32).toInt = 0 := rfl; omega)⟩
  · skip
    have d3 : ((0) : Int) ≤ (v0.toInt) := ci_nlt rfl rfl c1
    refine ⟨fun c4 => ?_, fun c4 => ?_⟩
    · skip
      have d5 : ((1073741823) : Int) < (v0.toInt) := ci_lt rfl rfl c4
      refine ⟨Or.inl rfl, ?_⟩
      exact hQ _ _ _ _ hB0 ⟨rfl, (by have q0 : (0 : Int32).toInt = 0 := rfl; omega)⟩
    · skip
      have d6 : ((v0.toInt) : Int) ≤ (1073741823) := ci_nlt rfl rfl c4
      refine sp_J6_bitCount_0f7a4 hB0 hR0 (fun x7 y12 I8 J9 hB10 p11 => ?_)
      obtain ⟨heI8, p11⟩ := p11
      subst heI8
      have i13 := i32 x7
      refine ⟨fun c14 => ?_, fun c14 => ?_⟩
      · skip
        have d15 : ((12) : Int) < (x7.toInt) := ci_lt rfl rfl c14
        refine ⟨Or.inl rfl, ?_⟩
        exact hQ _ _ _ _ hB0 ⟨rfl, (by have q0 : (0 : Int32).toInt = 0 := rfl; omega)⟩
      · skip
        have d16 : ((x7.toInt) : Int) ≤ (12) := ci_nlt rfl rfl c14
        refine ⟨Or.inr rfl, ?_⟩
        exact hQ _ _ _ _ hB0 ⟨rfl, (by have q0 : (1 : Int32).toInt = 1 := rfl; omega)⟩
set_option maxHeartbeats 2000000 in
theorem sp_X11_burnt {d : Nat} {Q : Qt} {v1 : Int32} {v2 : Int32} {I : Im} {J : Jm} {R : Rm} (hB0 : Bd I) (hR0 : RI R) (hQ : ∀ (x : Int32) (y : Int64) (I2 : Im) (J2 : Jm), Bd I2 → ((0 ≤ x.toInt ∧ x.toInt ≤ 1 ∧ (x.toInt = 1 → 0 ≤ v1.toInt ∧ v1.toInt ≤ 12 ∧ 0 ≤ v2.toInt ∧ v2.toInt ≤ 12) ∧ (0 ≤ v1.toInt ∧ v1.toInt ≤ 12 ∧ 0 ≤ v2.toInt ∧ v2.toInt ≤ 12 → x.toInt = 1))) → Q x y I2 J2 R) : AM (d + 3) 143 112 [.ref 1, .int v1, .int v2] I J R Q := by
  have i_v1 := i32 v1
  have i_v2 := i32 v2
  refine am_X11_burnt (fun P hc => ?_)
  have L : ∀ n : Nat, (∀ (v3 : Int64) (v5 : Int32) (M : Im) (JM : Jm), Bd M → (0 ≤ v1.toInt ∧ v1.toInt ≤ 12 ∧ 0 ≤ v2.toInt ∧ v2.toInt ≤ 12 ∧ 0 ≤ v5.toInt ∧ v5.toInt ≤ 13) → 20 - v5.toInt < (n : Int) → P 31 112 [(0, .ref 1), (1, .int v1), (3, .long v3), (5, .int v5)] [] M JM R) := by
    intro n
    induction n with
    | zero =>
      exact fun v3 v5 M J _ hi hm => absurd hm (by omega)
    | succ n ih =>
      intro v3 v5 M JM hB hi hm
      have i_v1 := i32 v1
      have i_v3 := i64 v3
      have i_v5 := i32 v5
      refine sg_X11_burnt_31 hc _ _ _ _ _ _ ?_
      refine ⟨fun c1 => ?_, fun c1 => ?_⟩
      · skip
        have d2 : ((v1.toInt) : Int) < (v5.toInt) := ci_lt rfl rfl c1
        refine sp_X11_power hB hR0 (by have z : (v1 : Int32).toInt = v1.toInt := rfl; omega) (fun x3 y8 I4 J5 hB6 p7 => ?_)
        refine sp_X11_tell hB6 hR0 (fun x9 y14 I10 J11 hB12 p13 => ?_)
        intro o15
        have i16 := i32 x9
        refine ⟨o15, ?_⟩
        exact hQ _ _ _ _ hB12 (by have q0 : (x9 : Int32).toInt = x9.toInt := rfl; omega)
      · skip
        have d17 : ((v5.toInt) : Int) ≤ (v1.toInt) := ci_nlt rfl rfl c1
        refine sp_X11_choices hB hR0 (by have z : (v5 : Int32).toInt = v5.toInt := rfl; omega) (fun x18 y23 I19 J20 hB21 p22 => ?_)
        refine ⟨(RI.now hR0).2, ?_⟩
        refine bif_t (RI.now hR0).1 ?_
        refine sp_X11_power hB21 hR0 (by have z : (v5 : Int32).toInt = v5.toInt := rfl; omega) (fun x24 y29 I25 J26 hB27 p28 => ?_)
        refine ⟨(RI.now hR0).2, ?_⟩
        refine bif_t (RI.now hR0).1 ?_
        have e30 : ((v1 - v5) : Int32).toInt = (v1.toInt) - (v5.toInt) := ti_sub rfl rfl (by omega)
        refine sp_X11_power hB27 hR0 (by have z : ((v1 - v5) : Int32).toInt = (v1.toInt - v5.toInt) := e30; omega) (fun x31 y36 I32 J33 hB34 p35 => ?_)
        have e37 : ((v5 + 1) : Int32).toInt = (v5.toInt) + (1) := ti_add rfl rfl (by omega)
        exact ih _ _ _ _ hB34 (by have q0 : ((v5 + 1) : Int32).toInt = (v5.toInt + 1) := e37; omega) (by have q0 : ((v5 + 1) : Int32).toInt = (v5.toInt + 1) := e37; omega)
  refine sg_X11_burnt_0 hc _ _ _ _ _ ?_
  refine ⟨fun c38 => ?_, fun c38 => ?_⟩
  · skip
    have d39 : ((v1.toInt) : Int) < (0) := ci_lt rfl rfl c38
    refine w_X11_deny ?_
    have hB40 : Bd (uI I 1 0 5) := Bd.o0 hB0 io9_112_1_11 (by decide) bd9_11_0
    refine ⟨Or.inl rfl, ?_⟩
    intro o41
    refine ⟨Or.inl rfl, ?_⟩
    exact hQ _ _ _ _ hB40 (by have q0 : (0 : Int32).toInt = 0 := rfl; omega)
  · skip
    have d42 : ((0) : Int) ≤ (v1.toInt) := ci_nlt rfl rfl c38
    refine ⟨fun c43 => ?_, fun c43 => ?_⟩
    · skip
      have d44 : ((12) : Int) < (v1.toInt) := ci_lt rfl rfl c43
      refine w_X11_deny ?_
      have hB45 : Bd (uI I 1 0 5) := Bd.o0 hB0 io9_112_1_11 (by decide) bd9_11_0
      refine ⟨Or.inl rfl, ?_⟩
      intro o46
      refine ⟨Or.inl rfl, ?_⟩
      exact hQ _ _ _ _ hB45 (by have q0 : (0 : Int32).toInt = 0 := rfl; omega)
    · skip
      have d47 : ((v1.toInt) : Int) ≤ (12) := ci_nlt rfl rfl c43
      refine ⟨fun c48 => ?_, fun c48 => ?_⟩
      · skip
        have d49 : ((v2.toInt) : Int) < (0) := ci_lt rfl rfl c48
        refine w_X11_deny ?_
        have hB50 : Bd (uI I 1 0 5) := Bd.o0 hB0 io9_112_1_11 (by decide) bd9_11_0
        refine ⟨Or.inl rfl, ?_⟩
        intro o51
        refine ⟨Or.inl rfl, ?_⟩
        exact hQ _ _ _ _ hB50 (by have q0 : (0 : Int32).toInt = 0 := rfl; omega)
      · skip
        have d52 : ((0) : Int) ≤ (v2.toInt) := ci_nlt rfl rfl c48
        refine ⟨fun c53 => ?_, fun c53 => ?_⟩
        · skip
          have d54 : ((v2.toInt) : Int) ≤ (12) := ci_le rfl rfl c53
          exact (L 1000000) _ _ _ _ hB0 (by have q0 : (v2 : Int32).toInt = v2.toInt := rfl; omega) (by have q0 : (v2 : Int32).toInt = v2.toInt := rfl; omega)
        · skip
          have d55 : ((12) : Int) < (v2.toInt) := ci_nle rfl rfl c53
          refine w_X11_deny ?_
          have hB56 : Bd (uI I 1 0 5) := Bd.o0 hB0 io9_112_1_11 (by decide) bd9_11_0
          refine ⟨Or.inl rfl, ?_⟩
          intro o57
          refine ⟨Or.inl rfl, ?_⟩
          exact hQ _ _ _ _ hB56 (by have q0 : (0 : Int32).toInt = 0 := rfl; omega)
set_option maxHeartbeats 2000000 in
theorem sp_X11_mean {d : Nat} {Q : Qt} {v1 : Int32} {v2 : Int32} {I : Im} {J : Jm} {R : Rm} (hB0 : Bd I) (hR0 : RI R) (hQ : ∀ (x : Int32) (y : Int64) (I2 : Im) (J2 : Jm), Bd I2 → (True) → Q x y I2 J2 R) : AM (d + 7) 146 112 [.ref 1, .int v1, .int v2] I J R Q := by
  have i_v1 := i32 v1
  have i_v2 := i32 v2
  refine am_X11_mean (fun P hc => ?_)
  have L : ∀ n : Nat, (∀ (v3 : Int64) (v5 : Int32) (M : Im) (JM : Jm), Bd M → (0 ≤ v1.toInt ∧ v1.toInt ≤ 9999 ∧ 1 ≤ v2.toInt ∧ v2.toInt ≤ 20 ∧ 0 ≤ v5.toInt ∧ v5.toInt ≤ 20) → 30 - v5.toInt < (n : Int) → P 61 112 [(0, .ref 1), (1, .int v1), (2, .int v2), (3, .long v3), (5, .int v5)] [] M JM R) := by
    intro n
    induction n with
    | zero =>
      exact fun v3 v5 M J _ hi hm => absurd hm (by omega)
    | succ n ih =>
      intro v3 v5 M JM hB hi hm
      have i_v1 := i32 v1
      have i_v2 := i32 v2
      have i_v3 := i64 v3
      have i_v5 := i32 v5
      refine sg_X11_mean_61 hc _ _ _ _ _ _ _ ?_
      refine ⟨fun c1 => ?_, fun c1 => ?_⟩
      · skip
        have d2 : ((v2.toInt) : Int) ≤ (v5.toInt) := ci_le rfl rfl c1
        refine sp_X11_tell hB hR0 (fun x3 y8 I4 J5 hB6 p7 => ?_)
        intro o9
        have i10 := i32 x3
        refine ⟨o9, ?_⟩
        exact hQ _ _ _ _ hB6 trivial
      · skip
        have d11 : ((v5.toInt) : Int) < (v2.toInt) := ci_nle rfl rfl c1
        refine ⟨(RI.spare hR0).2, ?_⟩
        refine ⟨(RI.now hR0).2, ?_⟩
        refine bif_t (RI.spare hR0).1 ?_
        refine sp_X0_copyFrom hB hR0 (RI.spare hR0).1 (RI.now hR0).1 (fun x12 y17 I13 J14 hB15 p16 => ?_)
        refine ⟨(RI.spare hR0).2, ?_⟩
        refine ⟨(RI.plan hR0).2, ?_⟩
        refine sp_X4_run hB15 hR0 io9_112_51_4 (RI.spare hR0).1 (RI.plan hR0).1 (fun x18 y23 I19 J20 hB21 p22 => ?_)
        refine ⟨(RI.spare hR0).2, ?_⟩
        refine bif_t (RI.spare hR0).1 ?_
        refine sp_X0_allHoldings hB21 hR0 (RI.spare hR0).1 (fun x24 y29 I25 J26 hB27 p28 => ?_)
        have e30 : ((v5 + 1) : Int32).toInt = (v5.toInt) + (1) := ti_add rfl rfl (by omega)
        exact ih _ _ _ _ hB27 (by have q0 : ((v5 + 1) : Int32).toInt = (v5.toInt + 1) := e30; omega) (by have q0 : ((v5 + 1) : Int32).toInt = (v5.toInt + 1) := e30; omega)
  refine sg_X11_mean_0 hc _ _ _ _ _ ?_
  refine ⟨fun c31 => ?_, fun c31 => ?_⟩
  · skip
    have d32 : ((v1.toInt) : Int) < (0) := ci_lt rfl rfl c31
    refine w_X11_deny ?_
    have hB33 : Bd (uI I 1 0 5) := Bd.o0 hB0 io9_112_1_11 (by decide) bd9_11_0
    refine ⟨Or.inl rfl, ?_⟩
    intro o34
    refine ⟨Or.inl rfl, ?_⟩
    exact hQ _ _ _ _ hB33 trivial
  · skip
    have d35 : ((0) : Int) ≤ (v1.toInt) := ci_nlt rfl rfl c31
    refine ⟨fun c36 => ?_, fun c36 => ?_⟩
    · skip
      have d37 : ((9999) : Int) < (v1.toInt) := ci_lt rfl rfl c36
      refine w_X11_deny ?_
      have hB38 : Bd (uI I 1 0 5) := Bd.o0 hB0 io9_112_1_11 (by decide) bd9_11_0
      refine ⟨Or.inl rfl, ?_⟩
      intro o39
      refine ⟨Or.inl rfl, ?_⟩
      exact hQ _ _ _ _ hB38 trivial
    · skip
      have d40 : ((v1.toInt) : Int) ≤ (9999) := ci_nlt rfl rfl c36
      refine ⟨fun c41 => ?_, fun c41 => ?_⟩
      · skip
        have d42 : ((v2.toInt) : Int) < (1) := ci_lt rfl rfl c41
        refine w_X11_deny ?_
        have hB43 : Bd (uI I 1 0 5) := Bd.o0 hB0 io9_112_1_11 (by decide) bd9_11_0
        refine ⟨Or.inl rfl, ?_⟩
        intro o44
        refine ⟨Or.inl rfl, ?_⟩
        exact hQ _ _ _ _ hB43 trivial
      · skip
        have d45 : ((1) : Int) ≤ (v2.toInt) := ci_nlt rfl rfl c41
        refine ⟨fun c46 => ?_, fun c46 => ?_⟩
        · skip
          have d47 : ((20) : Int) < (v2.toInt) := ci_lt rfl rfl c46
          refine w_X11_deny ?_
          have hB48 : Bd (uI I 1 0 5) := Bd.o0 hB0 io9_112_1_11 (by decide) bd9_11_0
          refine ⟨Or.inl rfl, ?_⟩
          intro o49
          refine ⟨Or.inl rfl, ?_⟩
          exact hQ _ _ _ _ hB48 trivial
        · skip
          have d50 : ((v2.toInt) : Int) ≤ (20) := ci_nlt rfl rfl c46
          refine ⟨fun c51 => ?_, fun c51 => ?_⟩
          · skip
            have e52 : ((v1 + v2) : Int32).toInt = (v1.toInt) + (v2.toInt) := ti_add rfl rfl (by omega)
            have e53 : (((v1 + v2) - 1) : Int32).toInt = ((v1.toInt + v2.toInt)) - (1) := ti_sub e52 rfl (by omega)
            have d54 : ((((v1.toInt + v2.toInt) - 1)) : Int) ≤ (9999) := ci_le e53 rfl c51
            refine ⟨(RI.plan hR0).2, ?_⟩
            refine bif_t (RI.plan hR0).1 ?_
            refine ⟨fun c55 => ?_, fun c55 => ?_⟩
            · skip
              have b56 := Bd.o hB0 (RI.plan hR0).1 bd9_2_0
              have d57 : ¬ (((I (R 1 9) 0).toInt) : Int) = (0) := ci_ne rfl rfl c55
              exact (L 1000000) _ _ _ _ hB0 (by have q0 : (0 : Int32).toInt = 0 := rfl; omega) (by have q0 : (0 : Int32).toInt = 0 := rfl; omega)
            · skip
              have b58 := Bd.o hB0 (RI.plan hR0).1 bd9_2_0
              have d59 : (((I (R 1 9) 0).toInt) : Int) = (0) := ci_eq rfl rfl c55
              refine w_X11_deny ?_
              have hB60 : Bd (uI I 1 0 8) := Bd.o0 hB0 io9_112_1_11 (by decide) bd9_11_0
              refine ⟨Or.inl rfl, ?_⟩
              intro o61
              refine ⟨Or.inl rfl, ?_⟩
              exact hQ _ _ _ _ hB60 trivial
          · skip
            have e62 : ((v1 + v2) : Int32).toInt = (v1.toInt) + (v2.toInt) := ti_add rfl rfl (by omega)
            have e63 : (((v1 + v2) - 1) : Int32).toInt = ((v1.toInt + v2.toInt)) - (1) := ti_sub e62 rfl (by omega)
            have d64 : ((9999) : Int) < (((v1.toInt + v2.toInt) - 1)) := ci_nle e63 rfl c51
            refine w_X11_deny ?_
            have hB65 : Bd (uI I 1 0 5) := Bd.o0 hB0 io9_112_1_11 (by decide) bd9_11_0
            refine ⟨Or.inl rfl, ?_⟩
            intro o66
            refine ⟨Or.inl rfl, ?_⟩
            exact hQ _ _ _ _ hB65 trivial
set_option maxHeartbeats 2000000 in
theorem sp_X11_status {d : Nat} {Q : Qt} {I : Im} {J : Jm} {R : Rm} (hB0 : Bd I) (hR0 : RI R) (hQ : ∀ (x : Int32) (y : Int64) (I2 : Im) (J2 : Jm), Bd I2 → (True) → Q x y I2 J2 R) : AM (d + 1) 100 112 [.ref 1] I J R Q := by
  refine w_X11_status ?_
  exact hQ _ _ _ _ hB0 trivial
set_option maxHeartbeats 2000000 in
theorem sp_X11_top {d : Nat} {Q : Qt} {I : Im} {J : Jm} {R : Rm} (hB0 : Bd I) (hR0 : RI R) (hQ : ∀ (x : Int32) (y : Int64) (I2 : Im) (J2 : Jm), Bd I2 → (True) → Q x y I2 J2 R) : AM (d + 1) 101 112 [.ref 1] I J R Q := by
  refine w_X11_top ?_
  exact hQ _ _ _ _ hB0 trivial
set_option maxHeartbeats 2000000 in
theorem sp_X11_bottom {d : Nat} {Q : Qt} {I : Im} {J : Jm} {R : Rm} (hB0 : Bd I) (hR0 : RI R) (hQ : ∀ (x : Int32) (y : Int64) (I2 : Im) (J2 : Jm), Bd I2 → (True) → Q x y I2 J2 R) : AM (d + 1) 102 112 [.ref 1] I J R Q := by
  refine w_X11_bottom ?_
  exact hQ _ _ _ _ hB0 trivial
set_option maxHeartbeats 2000000 in
theorem sp_X11_tray {d : Nat} {Q : Qt} {v1 : Int32} {v2 : Int32} {v3 : Int32} {I : Im} {J : Jm} {R : Rm} (hB0 : Bd I) (hR0 : RI R) (hQ : ∀ (x : Int32) (y : Int64) (I2 : Im) (J2 : Jm), Bd I2 → (((0 ≤ x.toInt ∧ x.toInt ≤ 1 ∧ (x.toInt = 1 → 0 ≤ v1.toInt ∧ v1.toInt ≤ 3 ∧ 0 ≤ v2.toInt ∧ v2.toInt ≤ 3 ∧ 0 ≤ v3.toInt ∧ v3.toInt ≤ 60) ∧ (0 ≤ v1.toInt ∧ v1.toInt ≤ 3 ∧ 0 ≤ v2.toInt ∧ v2.toInt ≤ 3 ∧ 0 ≤ v3.toInt ∧ v3.toInt ≤ 60 → x.toInt = 1)) ∧ ((x.toInt = 1 ∧ TL I I2 (R 2 (Int32.toNatClampNeg v1)) v2 v3) ∨ (x.toInt = 0 ∧ KT I I2)))) → Q x y I2 J2 R) : AM (d + 3) 103 112 [.ref 1, .int v1, .int v2, .int v3] I J R Q := by
  have i_v1 := i32 v1
  have i_v2 := i32 v2
  have i_v3 := i32 v3
  refine w_X11_tray ?_
  refine w_X11_isTray ?_
  refine ⟨fun c1 => ?_, fun c1 => ?_⟩
  · skip
    have d2 : ((v1.toInt) : Int) < (0) := ci_lt rfl rfl c1
    refine ⟨Or.inl rfl, ?_⟩
    intro o3
    refine ⟨fun c4 => ?_, fun c4 => ?_⟩
    · skip
      refine w_X11_deny ?_
      have hB5 : Bd (uI I 1 0 1) := Bd.o0 hB0 io9_112_1_11 (by decide) bd9_11_0
      refine ⟨Or.inl rfl, ?_⟩
      intro o6
      refine ⟨Or.inl rfl, ?_⟩
      exact hQ _ _ _ _ hB5 ⟨(by have q0 : (0 : Int32).toInt = 0 := rfl; omega), Or.inr ⟨rfl, fun c hc => uI_ne (TC1 c hc)⟩⟩
    · exact absurd c4 (by decide)
  · skip
    have d7 : ((0) : Int) ≤ (v1.toInt) := ci_nlt rfl rfl c1
    refine ⟨fun c8 => ?_, fun c8 => ?_⟩
    · skip
      have d9 : ((4) : Int) ≤ (v1.toInt) := ci_le rfl rfl c8
      refine ⟨Or.inl rfl, ?_⟩
      intro o10
      refine ⟨fun c11 => ?_, fun c11 => ?_⟩
      · skip
        refine w_X11_deny ?_
        have hB12 : Bd (uI I 1 0 1) := Bd.o0 hB0 io9_112_1_11 (by decide) bd9_11_0
        refine ⟨Or.inl rfl, ?_⟩
        intro o13
        refine ⟨Or.inl rfl, ?_⟩
        exact hQ _ _ _ _ hB12 ⟨(by have q0 : (0 : Int32).toInt = 0 := rfl; omega), Or.inr ⟨rfl, fun c hc => uI_ne (TC1 c hc)⟩⟩
      · exact absurd c11 (by decide)
    · skip
      have d14 : ((v1.toInt) : Int) < (4) := ci_nle rfl rfl c8
      refine ⟨Or.inr rfl, ?_⟩
      intro o15
      refine ⟨fun c16 => ?_, fun c16 => ?_⟩
      · exact absurd c16 (by decide)
      · skip
        refine ⟨fun c17 => ?_, fun c17 => ?_⟩
        · skip
          have d18 : ((v2.toInt) : Int) < (0) := ci_lt rfl rfl c17
          refine w_X11_deny ?_
          have hB19 : Bd (uI I 1 0 1) := Bd.o0 hB0 io9_112_1_11 (by decide) bd9_11_0
          refine ⟨Or.inl rfl, ?_⟩
          intro o20
          refine ⟨Or.inl rfl, ?_⟩
          exact hQ _ _ _ _ hB19 ⟨(by have q0 : (0 : Int32).toInt = 0 := rfl; omega), Or.inr ⟨rfl, fun c hc => uI_ne (TC1 c hc)⟩⟩
        · skip
          have d21 : ((0) : Int) ≤ (v2.toInt) := ci_nlt rfl rfl c17
          refine ⟨fun c22 => ?_, fun c22 => ?_⟩
          · skip
            have d23 : ((v2.toInt) : Int) ≤ (3) := ci_le rfl rfl c22
            refine ⟨fun c24 => ?_, fun c24 => ?_⟩
            · skip
              have d25 : ((v3.toInt) : Int) ≤ (60) := ci_le rfl rfl c24
              refine ⟨fun c26 => ?_, fun c26 => ?_⟩
              · skip
                have d27 : ((0) : Int) ≤ (v3.toInt) := ci_le rfl rfl c26
                refine ⟨vp_of (a := v1.toInt) rfl (by omega) (by omega), ?_⟩
                have hr28 := RI.tray hR0 (Int32.toNatClampNeg v1) (by rw [tn_of rfl (by omega)]; omega)
                refine ⟨hr28.1, ?_⟩
                refine bif_t hr28.2 ?_
                refine sp_X10_lay hB0 hR0 hr28.2 (by have z : (v3 : Int32).toInt = v3.toInt := rfl; omega) (fun x29 y34 I30 J31 hB32 p33 => ?_)
                refine w_X11_allow ?_
                have hB35 : Bd (uI I30 1 0 0) := Bd.o0 hB32 io9_112_1_11 (by decide) bd9_11_0
                refine ⟨Or.inr rfl, ?_⟩
                intro o36
                refine ⟨Or.inr rfl, ?_⟩
                exact hQ _ _ _ _ hB35 ⟨(by have q0 : (1 : Int32).toInt = 1 := rfl; omega), Or.inl ⟨rfl, fun c hc => (uI_ne (TC1 c hc)).trans (p33 c hc)⟩⟩
              · skip
                have d37 : ((v3.toInt) : Int) < (0) := ci_nle rfl rfl c26
                refine w_X11_deny ?_
                have hB38 : Bd (uI I 1 0 6) := Bd.o0 hB0 io9_112_1_11 (by decide) bd9_11_0
                refine ⟨Or.inl rfl, ?_⟩
                intro o39
                refine ⟨Or.inl rfl, ?_⟩
                exact hQ _ _ _ _ hB38 ⟨(by have q0 : (0 : Int32).toInt = 0 := rfl; omega), Or.inr ⟨rfl, fun c hc => uI_ne (TC1 c hc)⟩⟩
            · skip
              have d40 : ((60) : Int) < (v3.toInt) := ci_nle rfl rfl c24
              refine w_X11_deny ?_
              have hB41 : Bd (uI I 1 0 5) := Bd.o0 hB0 io9_112_1_11 (by decide) bd9_11_0
              refine ⟨Or.inl rfl, ?_⟩
              intro o42
              refine ⟨Or.inl rfl, ?_⟩
              exact hQ _ _ _ _ hB41 ⟨(by have q0 : (0 : Int32).toInt = 0 := rfl; omega), Or.inr ⟨rfl, fun c hc => uI_ne (TC1 c hc)⟩⟩
          · skip
            have d43 : ((3) : Int) < (v2.toInt) := ci_nle rfl rfl c22
            refine w_X11_deny ?_
            have hB44 : Bd (uI I 1 0 1) := Bd.o0 hB0 io9_112_1_11 (by decide) bd9_11_0
            refine ⟨Or.inl rfl, ?_⟩
            intro o45
            refine ⟨Or.inl rfl, ?_⟩
            exact hQ _ _ _ _ hB44 ⟨(by have q0 : (0 : Int32).toInt = 0 := rfl; omega), Or.inr ⟨rfl, fun c hc => uI_ne (TC1 c hc)⟩⟩
set_option maxHeartbeats 2000000 in
theorem sp_X11_write {d : Nat} {Q : Qt} {v1 : Int32} {v2 : Int32} {v3 : Int64} {I : Im} {J : Jm} {R : Rm} (hB0 : Bd I) (hR0 : RI R) (hQ : ∀ (x : Int32) (y : Int64) (I2 : Im) (J2 : Jm), Bd I2 → (((x.toInt = 1 ∧ 0 ≤ v1.toInt ∧ v1.toInt ≤ 3 ∧ 0 ≤ v2.toInt ∧ v2.toInt < (I (R 2 (Int32.toNatClampNeg v1)) 1).toInt) ∨ (x.toInt = 0 ∧ (v1.toInt < 0 ∨ 3 < v1.toInt ∨ v2.toInt < 0 ∨ (I (R 2 (Int32.toNatClampNeg v1)) 1).toInt ≤ v2.toInt)))) → Q x y I2 J2 R) : AM (d + 4) 104 112 [.ref 1, .int v1, .int v2, .long v3] I J R Q := by
  have i_v1 := i32 v1
  have i_v2 := i32 v2
  have i_v3 := i64 v3
  refine w_X11_write ?_
  refine w_X11_placeStatus ?_
  refine w_X11_trayStatus ?_
  refine w_X11_isTray ?_
  refine ⟨fun c1 => ?_, fun c1 => ?_⟩
  · skip
    have d2 : ((v1.toInt) : Int) < (0) := ci_lt rfl rfl c1
    refine ⟨Or.inl rfl, ?_⟩
    intro o3
    refine ⟨fun c4 => ?_, fun c4 => ?_⟩
    · exact absurd c4 (by decide)
    · skip
      refine ⟨fun c5 => ?_, fun c5 => ?_⟩
      · exact absurd c5 (by decide)
      · skip
        refine ⟨fun c6 => ?_, fun c6 => ?_⟩
        · exact absurd c6 (by decide)
        · skip
          refine w_X11_deny ?_
          have hB7 : Bd (uI I 1 0 1) := Bd.o0 hB0 io9_112_1_11 (by decide) bd9_11_0
          refine ⟨Or.inl rfl, ?_⟩
          intro o8
          refine ⟨Or.inl rfl, ?_⟩
          exact hQ _ _ _ _ hB7 (by have q0 : (0 : Int32).toInt = 0 := rfl; omega)
  · skip
    have d9 : ((0) : Int) ≤ (v1.toInt) := ci_nlt rfl rfl c1
    refine ⟨fun c10 => ?_, fun c10 => ?_⟩
    · skip
      have d11 : ((4) : Int) ≤ (v1.toInt) := ci_le rfl rfl c10
      refine ⟨Or.inl rfl, ?_⟩
      intro o12
      refine ⟨fun c13 => ?_, fun c13 => ?_⟩
      · exact absurd c13 (by decide)
      · skip
        refine ⟨fun c14 => ?_, fun c14 => ?_⟩
        · exact absurd c14 (by decide)
        · skip
          refine ⟨fun c15 => ?_, fun c15 => ?_⟩
          · exact absurd c15 (by decide)
          · skip
            refine w_X11_deny ?_
            have hB16 : Bd (uI I 1 0 1) := Bd.o0 hB0 io9_112_1_11 (by decide) bd9_11_0
            refine ⟨Or.inl rfl, ?_⟩
            intro o17
            refine ⟨Or.inl rfl, ?_⟩
            exact hQ _ _ _ _ hB16 (by have q0 : (0 : Int32).toInt = 0 := rfl; omega)
    · skip
      have d18 : ((v1.toInt) : Int) < (4) := ci_nle rfl rfl c10
      refine ⟨Or.inr rfl, ?_⟩
      intro o19
      refine ⟨fun c20 => ?_, fun c20 => ?_⟩
      · skip
        refine ⟨vp_of (a := v1.toInt) rfl (by omega) (by omega), ?_⟩
        have hr21 := RI.tray hR0 (Int32.toNatClampNeg v1) (by rw [tn_of rfl (by omega)]; omega)
        refine ⟨hr21.1, ?_⟩
        refine bif_t hr21.2 ?_
        refine w_X10_isMissing ?_
        refine bif_t hr21.2 ?_
        refine ⟨fun c22 => ?_, fun c22 => ?_⟩
        · skip
          have b23 := Bd.o hB0 hr21.2 bd9_10_1
          have d24 : ((0) : Int) ≤ ((I (R 2 (Int32.toNatClampNeg v1)) 1).toInt) := ci_le rfl rfl c22
          refine ⟨Or.inl rfl, ?_⟩
          intro o25
          refine ⟨fun c26 => ?_, fun c26 => ?_⟩
          · skip
            refine ⟨fun c27 => ?_, fun c27 => ?_⟩
            · skip
              refine ⟨vp_of (a := v1.toInt) rfl (by omega) (by omega), ?_⟩
              have hr28 := RI.tray hR0 (Int32.toNatClampNeg v1) (by rw [tn_of rfl (by omega)]; omega)
              refine ⟨hr28.1, ?_⟩
              refine bif_t hr28.2 ?_
              refine w_X10_hasPlaces ?_
              refine ⟨fun c29 => ?_, fun c29 => ?_⟩
              · skip
                have d30 : ((v2.toInt) : Int) < (0) := ci_lt rfl rfl c29
                refine ⟨Or.inl rfl, ?_⟩
                intro o31
                refine ⟨fun c32 => ?_, fun c32 => ?_⟩
                · skip
                  refine ⟨fun c33 => ?_, fun c33 => ?_⟩
                  · exact absurd c33 (by decide)
                  · skip
                    refine w_X11_deny ?_
                    have hB34 : Bd (uI I 1 0 4) := Bd.o0 hB0 io9_112_1_11 (by decide) bd9_11_0
                    refine ⟨Or.inl rfl, ?_⟩
                    intro o35
                    refine ⟨Or.inl rfl, ?_⟩
                    exact hQ _ _ _ _ hB34 (by have q0 : (0 : Int32).toInt = 0 := rfl; omega)
                · exact absurd c32 (by decide)
              · skip
                have d36 : ((0) : Int) ≤ (v2.toInt) := ci_nlt rfl rfl c29
                refine ⟨fun c37 => ?_, fun c37 => ?_⟩
                · exact absurd c37 (by decide)
                · skip
                  refine bif_t hr28.2 ?_
                  refine ⟨fun c38 => ?_, fun c38 => ?_⟩
                  · skip
                    rw [lg_cmp_gt] at c38
                    have e39 : (((Int32.toInt64 v2) + (Int32.toInt64 1)) : Int64).toInt = (v2.toInt) + (1) := tl_add (tl_i2l rfl) (tl_i2l rfl) (by omega)
                    have i40 := i32 ((I (R 2 (Int32.toNatClampNeg v1)) 1))
                    have d41 : (((I (R 2 (Int32.toNatClampNeg v1)) 1).toInt) : Int) < ((v2.toInt + 1)) := cl_lt (tl_i2l rfl) e39 c38
                    refine ⟨Or.inl rfl, ?_⟩
                    intro o42
                    refine ⟨fun c43 => ?_, fun c43 => ?_⟩
                    · skip
                      refine ⟨fun c44 => ?_, fun c44 => ?_⟩
                      · exact absurd c44 (by decide)
                      · skip
                        refine w_X11_deny ?_
                        have hB45 : Bd (uI I 1 0 4) := Bd.o0 hB0 io9_112_1_11 (by decide) bd9_11_0
                        refine ⟨Or.inl rfl, ?_⟩
                        intro o46
                        refine ⟨Or.inl rfl, ?_⟩
                        exact hQ _ _ _ _ hB45 (by have q0 : (0 : Int32).toInt = 0 := rfl; omega)
                    · exact absurd c43 (by decide)
                  · skip
                    rw [lg_cmp_gt] at c38
                    have e47 : (((Int32.toInt64 v2) + (Int32.toInt64 1)) : Int64).toInt = (v2.toInt) + (1) := tl_add (tl_i2l rfl) (tl_i2l rfl) (by omega)
                    have i48 := i32 ((I (R 2 (Int32.toNatClampNeg v1)) 1))
                    have d49 : (((v2.toInt + 1)) : Int) ≤ ((I (R 2 (Int32.toNatClampNeg v1)) 1).toInt) := cl_nlt (tl_i2l rfl) e47 c38
                    refine ⟨Or.inr rfl, ?_⟩
                    intro o50
                    refine ⟨fun c51 => ?_, fun c51 => ?_⟩
                    · exact absurd c51 (by decide)
                    · skip
                      refine ⟨fun c52 => ?_, fun c52 => ?_⟩
                      · skip
                        refine ⟨vp_of (a := v1.toInt) rfl (by omega) (by omega), ?_⟩
                        have hr53 := RI.tray hR0 (Int32.toNatClampNeg v1) (by rw [tn_of rfl (by omega)]; omega)
                        refine ⟨hr53.1, ?_⟩
                        refine bif_t hr53.2 ?_
                        refine sp_X10_put hB0 hR0 hr53.2 (fun x54 y59 I55 J56 hB57 p58 => ?_)
                        refine w_X11_allow ?_
                        have hB60 : Bd (uI I55 1 0 0) := Bd.o0 hB57 io9_112_1_11 (by decide) bd9_11_0
                        refine ⟨Or.inr rfl, ?_⟩
                        intro o61
                        refine ⟨Or.inr rfl, ?_⟩
                        exact hQ _ _ _ _ hB60 (by have q0 : (1 : Int32).toInt = 1 := rfl; omega)
                      · exact absurd c52 (by decide)
            · exact absurd c27 (by decide)
          · exact absurd c26 (by decide)
        · skip
          have b62 := Bd.o hB0 hr21.2 bd9_10_1
          have d63 : (((I (R 2 (Int32.toNatClampNeg v1)) 1).toInt) : Int) < (0) := ci_nle rfl rfl c22
          refine ⟨Or.inr rfl, ?_⟩
          intro o64
          refine ⟨fun c65 => ?_, fun c65 => ?_⟩
          · exact absurd c65 (by decide)
          · skip
            refine ⟨fun c66 => ?_, fun c66 => ?_⟩
            · exact absurd c66 (by decide)
            · skip
              refine ⟨fun c67 => ?_, fun c67 => ?_⟩
              · exact absurd c67 (by decide)
              · skip
                refine w_X11_deny ?_
                have hB68 : Bd (uI I 1 0 3) := Bd.o0 hB0 io9_112_1_11 (by decide) bd9_11_0
                refine ⟨Or.inl rfl, ?_⟩
                intro o69
                refine ⟨Or.inl rfl, ?_⟩
                exact hQ _ _ _ _ hB68 (by have q0 : (0 : Int32).toInt = 0 := rfl; omega)
      · exact absurd c20 (by decide)
set_option maxHeartbeats 2000000 in
theorem sp_X11_read {d : Nat} {Q : Qt} {v1 : Int32} {v2 : Int32} {I : Im} {J : Jm} {R : Rm} (hB0 : Bd I) (hR0 : RI R) (hQ : ∀ (x : Int32) (y : Int64) (I2 : Im) (J2 : Jm), Bd I2 → (True) → Q x y I2 J2 R) : AM (d + 4) 105 112 [.ref 1, .int v1, .int v2] I J R Q := by
  have i_v1 := i32 v1
  have i_v2 := i32 v2
  refine w_X11_read ?_
  refine w_X11_placeStatus ?_
  refine w_X11_trayStatus ?_
  refine w_X11_isTray ?_
  refine ⟨fun c1 => ?_, fun c1 => ?_⟩
  · skip
    have d2 : ((v1.toInt) : Int) < (0) := ci_lt rfl rfl c1
    refine ⟨Or.inl rfl, ?_⟩
    intro o3
    refine ⟨fun c4 => ?_, fun c4 => ?_⟩
    · exact absurd c4 (by decide)
    · skip
      refine ⟨fun c5 => ?_, fun c5 => ?_⟩
      · exact absurd c5 (by decide)
      · skip
        refine ⟨fun c6 => ?_, fun c6 => ?_⟩
        · exact absurd c6 (by decide)
        · skip
          refine w_X11_refuse ?_
          have hB7 : Bd (uI I 1 0 1) := Bd.o0 hB0 io9_112_1_11 (by decide) bd9_11_0
          exact hQ _ _ _ _ hB7 trivial
  · skip
    have d8 : ((0) : Int) ≤ (v1.toInt) := ci_nlt rfl rfl c1
    refine ⟨fun c9 => ?_, fun c9 => ?_⟩
    · skip
      have d10 : ((4) : Int) ≤ (v1.toInt) := ci_le rfl rfl c9
      refine ⟨Or.inl rfl, ?_⟩
      intro o11
      refine ⟨fun c12 => ?_, fun c12 => ?_⟩
      · exact absurd c12 (by decide)
      · skip
        refine ⟨fun c13 => ?_, fun c13 => ?_⟩
        · exact absurd c13 (by decide)
        · skip
          refine ⟨fun c14 => ?_, fun c14 => ?_⟩
          · exact absurd c14 (by decide)
          · skip
            refine w_X11_refuse ?_
            have hB15 : Bd (uI I 1 0 1) := Bd.o0 hB0 io9_112_1_11 (by decide) bd9_11_0
            exact hQ _ _ _ _ hB15 trivial
    · skip
      have d16 : ((v1.toInt) : Int) < (4) := ci_nle rfl rfl c9
      refine ⟨Or.inr rfl, ?_⟩
      intro o17
      refine ⟨fun c18 => ?_, fun c18 => ?_⟩
      · skip
        refine ⟨vp_of (a := v1.toInt) rfl (by omega) (by omega), ?_⟩
        have hr19 := RI.tray hR0 (Int32.toNatClampNeg v1) (by rw [tn_of rfl (by omega)]; omega)
        refine ⟨hr19.1, ?_⟩
        refine bif_t hr19.2 ?_
        refine w_X10_isMissing ?_
        refine bif_t hr19.2 ?_
        refine ⟨fun c20 => ?_, fun c20 => ?_⟩
        · skip
          have b21 := Bd.o hB0 hr19.2 bd9_10_1
          have d22 : ((0) : Int) ≤ ((I (R 2 (Int32.toNatClampNeg v1)) 1).toInt) := ci_le rfl rfl c20
          refine ⟨Or.inl rfl, ?_⟩
          intro o23
          refine ⟨fun c24 => ?_, fun c24 => ?_⟩
          · skip
            refine ⟨fun c25 => ?_, fun c25 => ?_⟩
            · skip
              refine ⟨vp_of (a := v1.toInt) rfl (by omega) (by omega), ?_⟩
              have hr26 := RI.tray hR0 (Int32.toNatClampNeg v1) (by rw [tn_of rfl (by omega)]; omega)
              refine ⟨hr26.1, ?_⟩
              refine bif_t hr26.2 ?_
              refine w_X10_hasPlaces ?_
              refine ⟨fun c27 => ?_, fun c27 => ?_⟩
              · skip
                have d28 : ((v2.toInt) : Int) < (0) := ci_lt rfl rfl c27
                refine ⟨Or.inl rfl, ?_⟩
                intro o29
                refine ⟨fun c30 => ?_, fun c30 => ?_⟩
                · skip
                  refine ⟨fun c31 => ?_, fun c31 => ?_⟩
                  · exact absurd c31 (by decide)
                  · skip
                    refine w_X11_refuse ?_
                    have hB32 : Bd (uI I 1 0 4) := Bd.o0 hB0 io9_112_1_11 (by decide) bd9_11_0
                    exact hQ _ _ _ _ hB32 trivial
                · exact absurd c30 (by decide)
              · skip
                have d33 : ((0) : Int) ≤ (v2.toInt) := ci_nlt rfl rfl c27
                refine ⟨fun c34 => ?_, fun c34 => ?_⟩
                · exact absurd c34 (by decide)
                · skip
                  refine bif_t hr26.2 ?_
                  refine ⟨fun c35 => ?_, fun c35 => ?_⟩
                  · skip
                    rw [lg_cmp_gt] at c35
                    have e36 : (((Int32.toInt64 v2) + (Int32.toInt64 1)) : Int64).toInt = (v2.toInt) + (1) := tl_add (tl_i2l rfl) (tl_i2l rfl) (by omega)
                    have i37 := i32 ((I (R 2 (Int32.toNatClampNeg v1)) 1))
                    have d38 : (((I (R 2 (Int32.toNatClampNeg v1)) 1).toInt) : Int) < ((v2.toInt + 1)) := cl_lt (tl_i2l rfl) e36 c35
                    refine ⟨Or.inl rfl, ?_⟩
                    intro o39
                    refine ⟨fun c40 => ?_, fun c40 => ?_⟩
                    · skip
                      refine ⟨fun c41 => ?_, fun c41 => ?_⟩
                      · exact absurd c41 (by decide)
                      · skip
                        refine w_X11_refuse ?_
                        have hB42 : Bd (uI I 1 0 4) := Bd.o0 hB0 io9_112_1_11 (by decide) bd9_11_0
                        exact hQ _ _ _ _ hB42 trivial
                    · exact absurd c40 (by decide)
                  · skip
                    rw [lg_cmp_gt] at c35
                    have e43 : (((Int32.toInt64 v2) + (Int32.toInt64 1)) : Int64).toInt = (v2.toInt) + (1) := tl_add (tl_i2l rfl) (tl_i2l rfl) (by omega)
                    have i44 := i32 ((I (R 2 (Int32.toNatClampNeg v1)) 1))
                    have d45 : (((v2.toInt + 1)) : Int) ≤ ((I (R 2 (Int32.toNatClampNeg v1)) 1).toInt) := cl_nlt (tl_i2l rfl) e43 c35
                    refine ⟨Or.inr rfl, ?_⟩
                    intro o46
                    refine ⟨fun c47 => ?_, fun c47 => ?_⟩
                    · exact absurd c47 (by decide)
                    · skip
                      refine ⟨fun c48 => ?_, fun c48 => ?_⟩
                      · skip
                        have hB49 : Bd (uI I 1 0 0) := Bd.o0 hB0 io9_112_1_11 (by decide) bd9_11_0
                        refine ⟨vp_of (a := v1.toInt) rfl (by omega) (by omega), ?_⟩
                        have hr50 := RI.tray hR0 (Int32.toNatClampNeg v1) (by rw [tn_of rfl (by omega)]; omega)
                        refine ⟨hr50.1, ?_⟩
                        refine bif_t hr50.2 ?_
                        refine bif_t (fa_10_2 hr50.2).1 ?_
                        refine ⟨by rw [(fa_10_2 hr50.2).2.1]; exact vp_of (a := v2.toInt) rfl (by omega) (by omega), ?_⟩
                        exact hQ _ _ _ _ hB49 trivial
                      · exact absurd c48 (by decide)
            · exact absurd c25 (by decide)
          · exact absurd c24 (by decide)
        · skip
          have b51 := Bd.o hB0 hr19.2 bd9_10_1
          have d52 : (((I (R 2 (Int32.toNatClampNeg v1)) 1).toInt) : Int) < (0) := ci_nle rfl rfl c20
          refine ⟨Or.inr rfl, ?_⟩
          intro o53
          refine ⟨fun c54 => ?_, fun c54 => ?_⟩
          · exact absurd c54 (by decide)
          · skip
            refine ⟨fun c55 => ?_, fun c55 => ?_⟩
            · exact absurd c55 (by decide)
            · skip
              refine ⟨fun c56 => ?_, fun c56 => ?_⟩
              · exact absurd c56 (by decide)
              · skip
                refine w_X11_refuse ?_
                have hB57 : Bd (uI I 1 0 3) := Bd.o0 hB0 io9_112_1_11 (by decide) bd9_11_0
                exact hQ _ _ _ _ hB57 trivial
      · exact absurd c18 (by decide)
set_option maxHeartbeats 2000000 in
theorem sp_X11_pour {d : Nat} {Q : Qt} {v1 : Int32} {v2 : Int32} {v3 : Int32} {v4 : Int32} {v5 : Int32} {I : Im} {J : Jm} {R : Rm} (hB0 : Bd I) (hR0 : RI R) (hQ : ∀ (x : Int32) (y : Int64) (I2 : Im) (J2 : Jm), Bd I2 → (((x.toInt = 1 ∧ 0 ≤ v1.toInt ∧ v1.toInt ≤ 3 ∧ 0 ≤ v3.toInt ∧ v3.toInt ≤ 3 ∧ 0 ≤ (I (R 2 (Int32.toNatClampNeg v1)) 1).toInt ∧ 0 ≤ (I (R 2 (Int32.toNatClampNeg v3)) 1).toInt ∧ (I (R 2 (Int32.toNatClampNeg v1)) 0).toInt = (I (R 2 (Int32.toNatClampNeg v3)) 0).toInt ∧ 0 ≤ v5.toInt ∧ 0 ≤ v2.toInt ∧ 0 ≤ v4.toInt ∧ v2.toInt + v5.toInt ≤ (I (R 2 (Int32.toNatClampNeg v1)) 1).toInt ∧ v4.toInt + v5.toInt ≤ (I (R 2 (Int32.toNatClampNeg v3)) 1).toInt) ∨ (x.toInt = 0 ∧ (v1.toInt < 0 ∨ 3 < v1.toInt ∨ v3.toInt < 0 ∨ 3 < v3.toInt ∨ (I (R 2 (Int32.toNatClampNeg v1)) 1).toInt < 0 ∨ (I (R 2 (Int32.toNatClampNeg v3)) 1).toInt < 0 ∨ ¬ (I (R 2 (Int32.toNatClampNeg v1)) 0).toInt = (I (R 2 (Int32.toNatClampNeg v3)) 0).toInt ∨ v5.toInt < 0 ∨ v2.toInt < 0 ∨ v4.toInt < 0 ∨ (I (R 2 (Int32.toNatClampNeg v1)) 1).toInt < v2.toInt + v5.toInt ∨ (I (R 2 (Int32.toNatClampNeg v3)) 1).toInt < v4.toInt + v5.toInt)))) → Q x y I2 J2 R) : AM (d + 2) 106 112 [.ref 1, .int v1, .int v2, .int v3, .int v4, .int v5] I J R Q := by
  have i_v1 := i32 v1
  have i_v2 := i32 v2
  have i_v3 := i32 v3
  have i_v4 := i32 v4
  have i_v5 := i32 v5
  refine w_X11_pour ?_
  refine w_X11_isTray ?_
  refine ⟨fun c1 => ?_, fun c1 => ?_⟩
  · skip
    have d2 : ((v1.toInt) : Int) < (0) := ci_lt rfl rfl c1
    refine ⟨Or.inl rfl, ?_⟩
    intro o3
    refine ⟨fun c4 => ?_, fun c4 => ?_⟩
    · skip
      refine w_X11_deny ?_
      have hB5 : Bd (uI I 1 0 1) := Bd.o0 hB0 io9_112_1_11 (by decide) bd9_11_0
      refine ⟨Or.inl rfl, ?_⟩
      intro o6
      refine ⟨Or.inl rfl, ?_⟩
      exact hQ _ _ _ _ hB5 (by have q0 : (0 : Int32).toInt = 0 := rfl; omega)
    · exact absurd c4 (by decide)
  · skip
    have d7 : ((0) : Int) ≤ (v1.toInt) := ci_nlt rfl rfl c1
    refine ⟨fun c8 => ?_, fun c8 => ?_⟩
    · skip
      have d9 : ((4) : Int) ≤ (v1.toInt) := ci_le rfl rfl c8
      refine ⟨Or.inl rfl, ?_⟩
      intro o10
      refine ⟨fun c11 => ?_, fun c11 => ?_⟩
      · skip
        refine w_X11_deny ?_
        have hB12 : Bd (uI I 1 0 1) := Bd.o0 hB0 io9_112_1_11 (by decide) bd9_11_0
        refine ⟨Or.inl rfl, ?_⟩
        intro o13
        refine ⟨Or.inl rfl, ?_⟩
        exact hQ _ _ _ _ hB12 (by have q0 : (0 : Int32).toInt = 0 := rfl; omega)
      · exact absurd c11 (by decide)
    · skip
      have d14 : ((v1.toInt) : Int) < (4) := ci_nle rfl rfl c8
      refine ⟨Or.inr rfl, ?_⟩
      intro o15
      refine ⟨fun c16 => ?_, fun c16 => ?_⟩
      · exact absurd c16 (by decide)
      · skip
        refine w_X11_isTray ?_
        refine ⟨fun c17 => ?_, fun c17 => ?_⟩
        · skip
          have d18 : ((v3.toInt) : Int) < (0) := ci_lt rfl rfl c17
          refine ⟨Or.inl rfl, ?_⟩
          intro o19
          refine ⟨fun c20 => ?_, fun c20 => ?_⟩
          · exact absurd c20 (by decide)
          · skip
            refine w_X11_deny ?_
            have hB21 : Bd (uI I 1 0 1) := Bd.o0 hB0 io9_112_1_11 (by decide) bd9_11_0
            refine ⟨Or.inl rfl, ?_⟩
            intro o22
            refine ⟨Or.inl rfl, ?_⟩
            exact hQ _ _ _ _ hB21 (by have q0 : (0 : Int32).toInt = 0 := rfl; omega)
        · skip
          have d23 : ((0) : Int) ≤ (v3.toInt) := ci_nlt rfl rfl c17
          refine ⟨fun c24 => ?_, fun c24 => ?_⟩
          · skip
            have d25 : ((4) : Int) ≤ (v3.toInt) := ci_le rfl rfl c24
            refine ⟨Or.inl rfl, ?_⟩
            intro o26
            refine ⟨fun c27 => ?_, fun c27 => ?_⟩
            · exact absurd c27 (by decide)
            · skip
              refine w_X11_deny ?_
              have hB28 : Bd (uI I 1 0 1) := Bd.o0 hB0 io9_112_1_11 (by decide) bd9_11_0
              refine ⟨Or.inl rfl, ?_⟩
              intro o29
              refine ⟨Or.inl rfl, ?_⟩
              exact hQ _ _ _ _ hB28 (by have q0 : (0 : Int32).toInt = 0 := rfl; omega)
          · skip
            have d30 : ((v3.toInt) : Int) < (4) := ci_nle rfl rfl c24
            refine ⟨Or.inr rfl, ?_⟩
            intro o31
            refine ⟨fun c32 => ?_, fun c32 => ?_⟩
            · skip
              refine ⟨vp_of (a := v1.toInt) rfl (by omega) (by omega), ?_⟩
              have hr33 := RI.tray hR0 (Int32.toNatClampNeg v1) (by rw [tn_of rfl (by omega)]; omega)
              refine ⟨hr33.1, ?_⟩
              refine ⟨vp_of (a := v3.toInt) rfl (by omega) (by omega), ?_⟩
              have hr34 := RI.tray hR0 (Int32.toNatClampNeg v3) (by rw [tn_of rfl (by omega)]; omega)
              refine ⟨hr34.1, ?_⟩
              refine bif_t hr33.2 ?_
              refine w_X10_isMissing ?_
              refine bif_t hr33.2 ?_
              refine ⟨fun c35 => ?_, fun c35 => ?_⟩
              · skip
                have b36 := Bd.o hB0 hr33.2 bd9_10_1
                have d37 : ((0) : Int) ≤ ((I (R 2 (Int32.toNatClampNeg v1)) 1).toInt) := ci_le rfl rfl c35
                refine ⟨Or.inl rfl, ?_⟩
                intro o38
                refine ⟨fun c39 => ?_, fun c39 => ?_⟩
                · exact absurd c39 (by decide)
                · skip
                  refine bif_t hr34.2 ?_
                  refine w_X10_isMissing ?_
                  refine bif_t hr34.2 ?_
                  refine ⟨fun c40 => ?_, fun c40 => ?_⟩
                  · skip
                    have b41 := Bd.o hB0 hr34.2 bd9_10_1
                    have d42 : ((0) : Int) ≤ ((I (R 2 (Int32.toNatClampNeg v3)) 1).toInt) := ci_le rfl rfl c40
                    refine ⟨Or.inl rfl, ?_⟩
                    intro o43
                    refine ⟨fun c44 => ?_, fun c44 => ?_⟩
                    · skip
                      refine bif_t hr33.2 ?_
                      refine bif_t hr34.2 ?_
                      refine ⟨fun c45 => ?_, fun c45 => ?_⟩
                      · skip
                        have d46 : (((I (R 2 (Int32.toNatClampNeg v1)) 0).toInt) : Int) = ((I (R 2 (Int32.toNatClampNeg v3)) 0).toInt) := ci_eq rfl rfl c45
                        refine ⟨fun c47 => ?_, fun c47 => ?_⟩
                        · skip
                          have d48 : ((0) : Int) ≤ (v5.toInt) := ci_le rfl rfl c47
                          refine bif_t hr33.2 ?_
                          refine w_X10_hasPlaces ?_
                          refine ⟨fun c49 => ?_, fun c49 => ?_⟩
                          · skip
                            have d50 : ((v2.toInt) : Int) < (0) := ci_lt rfl rfl c49
                            refine ⟨Or.inl rfl, ?_⟩
                            intro o51
                            refine ⟨fun c52 => ?_, fun c52 => ?_⟩
                            · skip
                              refine w_X11_deny ?_
                              have hB53 : Bd (uI I 1 0 4) := Bd.o0 hB0 io9_112_1_11 (by decide) bd9_11_0
                              refine ⟨Or.inl rfl, ?_⟩
                              intro o54
                              refine ⟨Or.inl rfl, ?_⟩
                              exact hQ _ _ _ _ hB53 (by have q0 : (0 : Int32).toInt = 0 := rfl; omega)
                            · exact absurd c52 (by decide)
                          · skip
                            have d55 : ((0) : Int) ≤ (v2.toInt) := ci_nlt rfl rfl c49
                            refine ⟨fun c56 => ?_, fun c56 => ?_⟩
                            · skip
                              have d57 : ((v5.toInt) : Int) < (0) := ci_lt rfl rfl c56
                              refine ⟨Or.inl rfl, ?_⟩
                              intro o58
                              refine ⟨fun c59 => ?_, fun c59 => ?_⟩
                              · skip
                                refine w_X11_deny ?_
                                have hB60 : Bd (uI I 1 0 4) := Bd.o0 hB0 io9_112_1_11 (by decide) bd9_11_0
                                refine ⟨Or.inl rfl, ?_⟩
                                intro o61
                                refine ⟨Or.inl rfl, ?_⟩
                                exact hQ _ _ _ _ hB60 (by have q0 : (0 : Int32).toInt = 0 := rfl; omega)
                              · exact absurd c59 (by decide)
                            · skip
                              have d62 : ((0) : Int) ≤ (v5.toInt) := ci_nlt rfl rfl c56
                              refine bif_t hr33.2 ?_
                              refine ⟨fun c63 => ?_, fun c63 => ?_⟩
                              · skip
                                rw [lg_cmp_gt] at c63
                                have e64 : (((Int32.toInt64 v2) + (Int32.toInt64 v5)) : Int64).toInt = (v2.toInt) + (v5.toInt) := tl_add (tl_i2l rfl) (tl_i2l rfl) (by omega)
                                have i65 := i32 ((I (R 2 (Int32.toNatClampNeg v1)) 1))
                                have d66 : (((I (R 2 (Int32.toNatClampNeg v1)) 1).toInt) : Int) < ((v2.toInt + v5.toInt)) := cl_lt (tl_i2l rfl) e64 c63
                                refine ⟨Or.inl rfl, ?_⟩
                                intro o67
                                refine ⟨fun c68 => ?_, fun c68 => ?_⟩
                                · skip
                                  refine w_X11_deny ?_
                                  have hB69 : Bd (uI I 1 0 4) := Bd.o0 hB0 io9_112_1_11 (by decide) bd9_11_0
                                  refine ⟨Or.inl rfl, ?_⟩
                                  intro o70
                                  refine ⟨Or.inl rfl, ?_⟩
                                  exact hQ _ _ _ _ hB69 (by have q0 : (0 : Int32).toInt = 0 := rfl; omega)
                                · exact absurd c68 (by decide)
                              · skip
                                rw [lg_cmp_gt] at c63
                                have e71 : (((Int32.toInt64 v2) + (Int32.toInt64 v5)) : Int64).toInt = (v2.toInt) + (v5.toInt) := tl_add (tl_i2l rfl) (tl_i2l rfl) (by omega)
                                have i72 := i32 ((I (R 2 (Int32.toNatClampNeg v1)) 1))
                                have d73 : (((v2.toInt + v5.toInt)) : Int) ≤ ((I (R 2 (Int32.toNatClampNeg v1)) 1).toInt) := cl_nlt (tl_i2l rfl) e71 c63
                                refine ⟨Or.inr rfl, ?_⟩
                                intro o74
                                refine ⟨fun c75 => ?_, fun c75 => ?_⟩
                                · exact absurd c75 (by decide)
                                · skip
                                  refine bif_t hr34.2 ?_
                                  refine w_X10_hasPlaces ?_
                                  refine ⟨fun c76 => ?_, fun c76 => ?_⟩
                                  · skip
                                    have d77 : ((v4.toInt) : Int) < (0) := ci_lt rfl rfl c76
                                    refine ⟨Or.inl rfl, ?_⟩
                                    intro o78
                                    refine ⟨fun c79 => ?_, fun c79 => ?_⟩
                                    · exact absurd c79 (by decide)
                                    · skip
                                      refine w_X11_deny ?_
                                      have hB80 : Bd (uI I 1 0 4) := Bd.o0 hB0 io9_112_1_11 (by decide) bd9_11_0
                                      refine ⟨Or.inl rfl, ?_⟩
                                      intro o81
                                      refine ⟨Or.inl rfl, ?_⟩
                                      exact hQ _ _ _ _ hB80 (by have q0 : (0 : Int32).toInt = 0 := rfl; omega)
                                  · skip
                                    have d82 : ((0) : Int) ≤ (v4.toInt) := ci_nlt rfl rfl c76
                                    refine ⟨fun c83 => ?_, fun c83 => ?_⟩
                                    · skip
                                      have d84 : ((v5.toInt) : Int) < (0) := ci_lt rfl rfl c83
                                      refine ⟨Or.inl rfl, ?_⟩
                                      intro o85
                                      refine ⟨fun c86 => ?_, fun c86 => ?_⟩
                                      · exact absurd c86 (by decide)
                                      · skip
                                        refine w_X11_deny ?_
                                        have hB87 : Bd (uI I 1 0 4) := Bd.o0 hB0 io9_112_1_11 (by decide) bd9_11_0
                                        refine ⟨Or.inl rfl, ?_⟩
                                        intro o88
                                        refine ⟨Or.inl rfl, ?_⟩
                                        exact hQ _ _ _ _ hB87 (by have q0 : (0 : Int32).toInt = 0 := rfl; omega)
                                    · skip
                                      have d89 : ((0) : Int) ≤ (v5.toInt) := ci_nlt rfl rfl c83
                                      refine bif_t hr34.2 ?_
                                      refine ⟨fun c90 => ?_, fun c90 => ?_⟩
                                      · skip
                                        rw [lg_cmp_gt] at c90
                                        have e91 : (((Int32.toInt64 v4) + (Int32.toInt64 v5)) : Int64).toInt = (v4.toInt) + (v5.toInt) := tl_add (tl_i2l rfl) (tl_i2l rfl) (by omega)
                                        have i92 := i32 ((I (R 2 (Int32.toNatClampNeg v3)) 1))
                                        have d93 : (((I (R 2 (Int32.toNatClampNeg v3)) 1).toInt) : Int) < ((v4.toInt + v5.toInt)) := cl_lt (tl_i2l rfl) e91 c90
                                        refine ⟨Or.inl rfl, ?_⟩
                                        intro o94
                                        refine ⟨fun c95 => ?_, fun c95 => ?_⟩
                                        · exact absurd c95 (by decide)
                                        · skip
                                          refine w_X11_deny ?_
                                          have hB96 : Bd (uI I 1 0 4) := Bd.o0 hB0 io9_112_1_11 (by decide) bd9_11_0
                                          refine ⟨Or.inl rfl, ?_⟩
                                          intro o97
                                          refine ⟨Or.inl rfl, ?_⟩
                                          exact hQ _ _ _ _ hB96 (by have q0 : (0 : Int32).toInt = 0 := rfl; omega)
                                      · skip
                                        rw [lg_cmp_gt] at c90
                                        have e98 : (((Int32.toInt64 v4) + (Int32.toInt64 v5)) : Int64).toInt = (v4.toInt) + (v5.toInt) := tl_add (tl_i2l rfl) (tl_i2l rfl) (by omega)
                                        have i99 := i32 ((I (R 2 (Int32.toNatClampNeg v3)) 1))
                                        have d100 : (((v4.toInt + v5.toInt)) : Int) ≤ ((I (R 2 (Int32.toNatClampNeg v3)) 1).toInt) := cl_nlt (tl_i2l rfl) e98 c90
                                        refine ⟨Or.inr rfl, ?_⟩
                                        intro o101
                                        refine ⟨fun c102 => ?_, fun c102 => ?_⟩
                                        · skip
                                          refine bif_t hr33.2 ?_
                                          refine bif_t hr34.2 ?_
                                          refine bif_t2 (fa_10_2 hr33.2).1 (fa_10_2 hr34.2).1 ?_
                                          refine ⟨⟨(fun z => by have z2 : (v2.toInt : Int) < 0 := ci_lt rfl rfl z; omega), (fun z => by have z2 : (v4.toInt : Int) < 0 := ci_lt rfl rfl z; omega), (fun z => by have z2 : (v5.toInt : Int) < 0 := ci_lt rfl rfl z; omega), (by (try rw [(fa_10_2 hr33.2).2.1]); have z1 := tn_of (show (v5 : Int32).toInt = v5.toInt from rfl) (by omega); have z2 := tn_of (show (v2 : Int32).toInt = v2.toInt from rfl) (by omega); omega), (by (try rw [(fa_10_2 hr34.2).2.1]); have z1 := tn_of (show (v5 : Int32).toInt = v5.toInt from rfl) (by omega); have z2 := tn_of (show (v4 : Int32).toInt = v4.toInt from rfl) (by omega); omega)⟩, ?_⟩
                                          refine w_X11_allow ?_
                                          have hB103 : Bd (uI I 1 0 0) := Bd.o0 hB0 io9_112_1_11 (by decide) bd9_11_0
                                          refine ⟨Or.inr rfl, ?_⟩
                                          intro o104
                                          refine ⟨Or.inr rfl, ?_⟩
                                          exact hQ _ _ _ _ hB103 (by have q0 : (1 : Int32).toInt = 1 := rfl; omega)
                                        · exact absurd c102 (by decide)
                        · skip
                          have d105 : ((v5.toInt) : Int) < (0) := ci_nle rfl rfl c47
                          refine w_X11_deny ?_
                          have hB106 : Bd (uI I 1 0 6) := Bd.o0 hB0 io9_112_1_11 (by decide) bd9_11_0
                          refine ⟨Or.inl rfl, ?_⟩
                          intro o107
                          refine ⟨Or.inl rfl, ?_⟩
                          exact hQ _ _ _ _ hB106 (by have q0 : (0 : Int32).toInt = 0 := rfl; omega)
                      · skip
                        have d108 : ¬ (((I (R 2 (Int32.toNatClampNeg v1)) 0).toInt) : Int) = ((I (R 2 (Int32.toNatClampNeg v3)) 0).toInt) := ci_ne rfl rfl c45
                        refine w_X11_deny ?_
                        have hB109 : Bd (uI I 1 0 11) := Bd.o0 hB0 io9_112_1_11 (by decide) bd9_11_0
                        refine ⟨Or.inl rfl, ?_⟩
                        intro o110
                        refine ⟨Or.inl rfl, ?_⟩
                        exact hQ _ _ _ _ hB109 (by have q0 : (0 : Int32).toInt = 0 := rfl; omega)
                    · exact absurd c44 (by decide)
                  · skip
                    have b111 := Bd.o hB0 hr34.2 bd9_10_1
                    have d112 : (((I (R 2 (Int32.toNatClampNeg v3)) 1).toInt) : Int) < (0) := ci_nle rfl rfl c40
                    refine ⟨Or.inr rfl, ?_⟩
                    intro o113
                    refine ⟨fun c114 => ?_, fun c114 => ?_⟩
                    · exact absurd c114 (by decide)
                    · skip
                      refine w_X11_deny ?_
                      have hB115 : Bd (uI I 1 0 3) := Bd.o0 hB0 io9_112_1_11 (by decide) bd9_11_0
                      refine ⟨Or.inl rfl, ?_⟩
                      intro o116
                      refine ⟨Or.inl rfl, ?_⟩
                      exact hQ _ _ _ _ hB115 (by have q0 : (0 : Int32).toInt = 0 := rfl; omega)
              · skip
                have b117 := Bd.o hB0 hr33.2 bd9_10_1
                have d118 : (((I (R 2 (Int32.toNatClampNeg v1)) 1).toInt) : Int) < (0) := ci_nle rfl rfl c35
                refine ⟨Or.inr rfl, ?_⟩
                intro o119
                refine ⟨fun c120 => ?_, fun c120 => ?_⟩
                · skip
                  refine w_X11_deny ?_
                  have hB121 : Bd (uI I 1 0 3) := Bd.o0 hB0 io9_112_1_11 (by decide) bd9_11_0
                  refine ⟨Or.inl rfl, ?_⟩
                  intro o122
                  refine ⟨Or.inl rfl, ?_⟩
                  exact hQ _ _ _ _ hB121 (by have q0 : (0 : Int32).toInt = 0 := rfl; omega)
                · exact absurd c120 (by decide)
            · exact absurd c32 (by decide)
set_option maxHeartbeats 2000000 in
theorem sp_X11_feed {d : Nat} {Q : Qt} {v1 : Int32} {v2 : Int32} {v3 : Int32} {v4 : Int32} {v5 : Int32} {I : Im} {J : Jm} {R : Rm} (hB0 : Bd I) (hR0 : RI R) (hQ : ∀ (x : Int32) (y : Int64) (I2 : Im) (J2 : Jm), Bd I2 → ((((I 3 1).toInt ≤ 880 ∧ x.toInt = (I 3 1).toInt + 20 ∧ (I2 3 1).toInt = (I 3 1).toInt + 20) ∨ (880 < (I 3 1).toInt ∧ x.toInt = -1 ∧ (I2 3 1).toInt = (I 3 1).toInt))) → Q x y I2 J2 R) : AM (d + 3) 107 112 [.ref 1, .int v1, .int v2, .int v3, .int v4, .int v5] I J R Q := by
  have i_v1 := i32 v1
  have i_v2 := i32 v2
  have i_v3 := i32 v3
  have i_v4 := i32 v4
  have i_v5 := i32 v5
  refine w_X11_feed ?_
  refine w_X6_hasRoom ?_
  refine ⟨fun c1 => ?_, fun c1 => ?_⟩
  · skip
    have b2 := Bd.o hB0 io9_112_3_6 bd9_6_1
    have e3 : (((I 3 1) + 20) : Int32).toInt = ((I 3 1).toInt) + (20) := ti_add rfl rfl (by omega)
    have d4 : ((900) : Int) < (((I 3 1).toInt + 20)) := ci_lt rfl e3 c1
    refine ⟨Or.inl rfl, ?_⟩
    intro o5
    refine ⟨fun c6 => ?_, fun c6 => ?_⟩
    · exact absurd c6 (by decide)
    · skip
      exact hQ _ _ _ _ hB0 (by have q2 : ((I 3 1) : Int32).toInt = (I 3 1).toInt := rfl; have q0 : ((-1) : Int32).toInt = (-1) := rfl; omega)
  · skip
    have b7 := Bd.o hB0 io9_112_3_6 bd9_6_1
    have e8 : (((I 3 1) + 20) : Int32).toInt = ((I 3 1).toInt) + (20) := ti_add rfl rfl (by omega)
    have d9 : ((((I 3 1).toInt + 20)) : Int) ≤ (900) := ci_nlt rfl e8 c1
    refine ⟨Or.inr rfl, ?_⟩
    intro o10
    refine ⟨fun c11 => ?_, fun c11 => ?_⟩
    · skip
      refine sp_X6_append hB0 hR0 (by have z : ((I 3 1) : Int32).toInt = (I 3 1).toInt := rfl; omega) (fun x12 y17 I13 J14 hB15 p16 => ?_)
      have b18 := Bd.o hB15 io9_112_3_6 bd9_6_1
      refine sp_X6_append hB15 hR0 (by have z : ((I13 3 1) : Int32).toInt = (I13 3 1).toInt := rfl; omega) (fun x19 y24 I20 J21 hB22 p23 => ?_)
      have b25 := Bd.o hB22 io9_112_3_6 bd9_6_1
      refine sp_X6_append hB22 hR0 (by have z : ((I20 3 1) : Int32).toInt = (I20 3 1).toInt := rfl; omega) (fun x26 y31 I27 J28 hB29 p30 => ?_)
      have b32 := Bd.o hB29 io9_112_3_6 bd9_6_1
      refine sp_X6_append hB29 hR0 (by have z : ((I27 3 1) : Int32).toInt = (I27 3 1).toInt := rfl; omega) (fun x33 y38 I34 J35 hB36 p37 => ?_)
      have b39 := Bd.o hB36 io9_112_3_6 bd9_6_1
      refine sp_X6_append hB36 hR0 (by have z : ((I34 3 1) : Int32).toInt = (I34 3 1).toInt := rfl; omega) (fun x40 y45 I41 J42 hB43 p44 => ?_)
      have b46 := Bd.o hB43 io9_112_3_6 bd9_6_1
      exact hQ _ _ _ _ hB43 (by have q2 : ((I41 3 1) : Int32).toInt = (I41 3 1).toInt := rfl; have q0 : ((I41 3 1) : Int32).toInt = (I41 3 1).toInt := rfl; omega)
    · exact absurd c11 (by decide)
set_option maxHeartbeats 2000000 in
theorem sp_X11_fault {d : Nat} {Q : Qt} {v1 : Int32} {I : Im} {J : Jm} {R : Rm} (hB0 : Bd I) (hR0 : RI R) (hQ : ∀ (x : Int32) (y : Int64) (I2 : Im) (J2 : Jm), Bd I2 → (True) → Q x y I2 J2 R) : AM (d + 1) 110 112 [.ref 1, .int v1] I J R Q := by
  have i_v1 := i32 v1
  refine w_X11_fault ?_
  refine ⟨fun c1 => ?_, fun c1 => ?_⟩
  · skip
    have b2 := Bd.o hB0 io9_112_3_6 bd9_6_3
    have d3 : ¬ (((I 3 3).toInt) : Int) = (0) := ci_ne rfl rfl c1
    refine ⟨fun c4 => ?_, fun c4 => ?_⟩
    · skip
      have d5 : ¬ ((v1.toInt) : Int) = (0) := ci_ne rfl rfl c4
      refine ⟨fun c6 => ?_, fun c6 => ?_⟩
      · skip
        have d7 : ¬ ((v1.toInt) : Int) = (1) := ci_ne rfl rfl c6
        exact hQ _ _ _ _ hB0 trivial
      · skip
        have d8 : ((v1.toInt) : Int) = (1) := ci_eq rfl rfl c6
        exact hQ _ _ _ _ hB0 trivial
    · skip
      have d9 : ((v1.toInt) : Int) = (0) := ci_eq rfl rfl c4
      exact hQ _ _ _ _ hB0 trivial
  · skip
    have b10 := Bd.o hB0 io9_112_3_6 bd9_6_3
    have d11 : (((I 3 3).toInt) : Int) = (0) := ci_eq rfl rfl c1
    exact hQ _ _ _ _ hB0 trivial
set_option maxHeartbeats 2000000 in
theorem sp_X11_many {d : Nat} {Q : Qt} {v1 : Int32} {I : Im} {J : Jm} {R : Rm} (hB0 : Bd I) (hR0 : RI R) (hQ : ∀ (x : Int32) (y : Int64) (I2 : Im) (J2 : Jm), Bd I2 → (True) → Q x y I2 J2 R) : AM (d + 5) 111 112 [.ref 1, .int v1] I J R Q := by
  have i_v1 := i32 v1
  refine w_X11_many ?_
  refine ⟨fun c1 => ?_, fun c1 => ?_⟩
  · skip
    have d2 : ((v1.toInt) : Int) = (0) := ci_eq rfl rfl c1
    refine ⟨(RI.now hR0).2, ?_⟩
    refine bif_t (RI.now hR0).1 ?_
    refine w_X11_answer ?_
    have hB3 : Bd (uI I 1 0 0) := Bd.o0 hB0 io9_112_1_11 (by decide) bd9_11_0
    exact hQ _ _ _ _ hB3 trivial
  · skip
    have d4 : ¬ ((v1.toInt) : Int) = (0) := ci_ne rfl rfl c1
    refine ⟨fun c5 => ?_, fun c5 => ?_⟩
    · skip
      have d6 : ((v1.toInt) : Int) = (1) := ci_eq rfl rfl c5
      refine ⟨(RI.now hR0).2, ?_⟩
      refine bif_t (RI.now hR0).1 ?_
      refine sp_X0_pieces hB0 hR0 (RI.now hR0).1 (fun x7 y12 I8 J9 hB10 p11 => ?_)
      have i13 := i32 x7
      refine w_X11_answer ?_
      have hB14 : Bd (uI I8 1 0 0) := Bd.o0 hB10 io9_112_1_11 (by decide) bd9_11_0
      exact hQ _ _ _ _ hB14 trivial
    · skip
      have d15 : ¬ ((v1.toInt) : Int) = (1) := ci_ne rfl rfl c5
      refine ⟨fun c16 => ?_, fun c16 => ?_⟩
      · skip
        have d17 : ((v1.toInt) : Int) = (2) := ci_eq rfl rfl c16
        refine ⟨(RI.now hR0).2, ?_⟩
        refine bif_t (RI.now hR0).1 ?_
        refine sp_X0_stockSet hB0 hR0 (RI.now hR0).1 (fun x18 y23 I19 J20 hB21 p22 => ?_)
        have i24 := i32 x18
        refine sp_J6_bitCount_0f7a4 hB21 hR0 (fun x25 y30 I26 J27 hB28 p29 => ?_)
        obtain ⟨heI26, p29⟩ := p29
        subst heI26
        have i31 := i32 x25
        refine w_X11_answer ?_
        have hB32 : Bd (uI I19 1 0 0) := Bd.o0 hB21 io9_112_1_11 (by decide) bd9_11_0
        exact hQ _ _ _ _ hB32 trivial
      · skip
        have d33 : ¬ ((v1.toInt) : Int) = (2) := ci_ne rfl rfl c16
        refine ⟨fun c34 => ?_, fun c34 => ?_⟩
        · skip
          have d35 : ((v1.toInt) : Int) = (3) := ci_eq rfl rfl c34
          refine ⟨(RI.now hR0).2, ?_⟩
          refine bif_t (RI.now hR0).1 ?_
          refine w_X11_answer ?_
          have hB36 : Bd (uI I 1 0 0) := Bd.o0 hB0 io9_112_1_11 (by decide) bd9_11_0
          exact hQ _ _ _ _ hB36 trivial
        · skip
          have d37 : ¬ ((v1.toInt) : Int) = (3) := ci_ne rfl rfl c34
          refine ⟨fun c38 => ?_, fun c38 => ?_⟩
          · skip
            have d39 : ((v1.toInt) : Int) = (4) := ci_eq rfl rfl c38
            refine ⟨(RI.now hR0).2, ?_⟩
            refine bif_t (RI.now hR0).1 ?_
            refine w_X11_answer ?_
            have hB40 : Bd (uI I 1 0 0) := Bd.o0 hB0 io9_112_1_11 (by decide) bd9_11_0
            exact hQ _ _ _ _ hB40 trivial
          · skip
            have d41 : ¬ ((v1.toInt) : Int) = (4) := ci_ne rfl rfl c38
            refine ⟨fun c42 => ?_, fun c42 => ?_⟩
            · skip
              have d43 : ((v1.toInt) : Int) = (5) := ci_eq rfl rfl c42
              refine ⟨(RI.now hR0).2, ?_⟩
              refine bif_t (RI.now hR0).1 ?_
              refine w_X11_answer ?_
              have hB44 : Bd (uI I 1 0 0) := Bd.o0 hB0 io9_112_1_11 (by decide) bd9_11_0
              exact hQ _ _ _ _ hB44 trivial
            · skip
              have d45 : ¬ ((v1.toInt) : Int) = (5) := ci_ne rfl rfl c42
              refine ⟨fun c46 => ?_, fun c46 => ?_⟩
              · skip
                have d47 : ((v1.toInt) : Int) = (6) := ci_eq rfl rfl c46
                refine ⟨(RI.now hR0).2, ?_⟩
                refine bif_t (RI.now hR0).1 ?_
                refine sp_X0_evenMen hB0 hR0 (RI.now hR0).1 (fun x48 y53 I49 J50 hB51 p52 => ?_)
                have i54 := i32 x48
                refine w_X11_answer ?_
                have hB55 : Bd (uI I49 1 0 0) := Bd.o0 hB51 io9_112_1_11 (by decide) bd9_11_0
                exact hQ _ _ _ _ hB55 trivial
              · skip
                have d56 : ¬ ((v1.toInt) : Int) = (6) := ci_ne rfl rfl c46
                refine w_X11_refuse ?_
                have hB57 : Bd (uI I 1 0 5) := Bd.o0 hB0 io9_112_1_11 (by decide) bd9_11_0
                exact hQ _ _ _ _ hB57 trivial
set_option maxHeartbeats 2000000 in
theorem sp_X11_store {d : Nat} {Q : Qt} {v1 : Int32} {I : Im} {J : Jm} {R : Rm} (hB0 : Bd I) (hR0 : RI R) (hQ : ∀ (x : Int32) (y : Int64) (I2 : Im) (J2 : Jm), Bd I2 → (True) → Q x y I2 J2 R) : AM (d + 2) 112 112 [.ref 1, .int v1] I J R Q := by
  have i_v1 := i32 v1
  refine w_X11_store ?_
  refine w_X11_isSlice ?_
  refine ⟨fun c1 => ?_, fun c1 => ?_⟩
  · skip
    have d2 : ((v1.toInt) : Int) < (1) := ci_lt rfl rfl c1
    refine ⟨Or.inl rfl, ?_⟩
    intro o3
    refine ⟨fun c4 => ?_, fun c4 => ?_⟩
    · exact absurd c4 (by decide)
    · skip
      refine w_X11_refuse ?_
      have hB5 : Bd (uI I 1 0 2) := Bd.o0 hB0 io9_112_1_11 (by decide) bd9_11_0
      exact hQ _ _ _ _ hB5 trivial
  · skip
    have d6 : ((1) : Int) ≤ (v1.toInt) := ci_nlt rfl rfl c1
    refine ⟨fun c7 => ?_, fun c7 => ?_⟩
    · skip
      have d8 : ((30) : Int) < (v1.toInt) := ci_lt rfl rfl c7
      refine ⟨Or.inl rfl, ?_⟩
      intro o9
      refine ⟨fun c10 => ?_, fun c10 => ?_⟩
      · exact absurd c10 (by decide)
      · skip
        refine w_X11_refuse ?_
        have hB11 : Bd (uI I 1 0 2) := Bd.o0 hB0 io9_112_1_11 (by decide) bd9_11_0
        exact hQ _ _ _ _ hB11 trivial
    · skip
      have d12 : ((v1.toInt) : Int) ≤ (30) := ci_nlt rfl rfl c7
      refine ⟨Or.inr rfl, ?_⟩
      intro o13
      refine ⟨fun c14 => ?_, fun c14 => ?_⟩
      · skip
        refine ⟨(RI.now hR0).2, ?_⟩
        refine bif_t (RI.now hR0).1 ?_
        refine bif_t (fa_0_0 (RI.now hR0).1).1 ?_
        refine ⟨by rw [(fa_0_0 (RI.now hR0).1).2.1]; exact vp_of (a := v1.toInt) rfl (by omega) (by omega), ?_⟩
        refine w_X11_answer ?_
        have hB15 : Bd (uI I 1 0 0) := Bd.o0 hB0 io9_112_1_11 (by decide) bd9_11_0
        exact hQ _ _ _ _ hB15 trivial
      · exact absurd c14 (by decide)
set_option maxHeartbeats 2000000 in
theorem sp_X11_man {d : Nat} {Q : Qt} {v1 : Int32} {v2 : Int32} {I : Im} {J : Jm} {R : Rm} (hB0 : Bd I) (hR0 : RI R) (hQ : ∀ (x : Int32) (y : Int64) (I2 : Im) (J2 : Jm), Bd I2 → (True) → Q x y I2 J2 R) : AM (d + 2) 113 112 [.ref 1, .int v1, .int v2] I J R Q := by
  have i_v1 := i32 v1
  have i_v2 := i32 v2
  refine w_X11_man ?_
  refine ⟨(RI.now hR0).2, ?_⟩
  refine bif_t (RI.now hR0).1 ?_
  refine w_X0_isMan ?_
  refine ⟨fun c1 => ?_, fun c1 => ?_⟩
  · skip
    have d2 : ((v1.toInt) : Int) < (0) := ci_lt rfl rfl c1
    refine ⟨Or.inl rfl, ?_⟩
    intro o3
    refine ⟨fun c4 => ?_, fun c4 => ?_⟩
    · exact absurd c4 (by decide)
    · skip
      refine w_X11_refuse ?_
      have hB5 : Bd (uI I 1 0 2) := Bd.o0 hB0 io9_112_1_11 (by decide) bd9_11_0
      exact hQ _ _ _ _ hB5 trivial
  · skip
    have d6 : ((0) : Int) ≤ (v1.toInt) := ci_nlt rfl rfl c1
    refine bif_t (RI.now hR0).1 ?_
    refine ⟨fun c7 => ?_, fun c7 => ?_⟩
    · skip
      have b8 := Bd.o hB0 (RI.now hR0).1 bd9_0_4
      have d9 : (((I (R 1 7) 4).toInt) : Int) ≤ (v1.toInt) := ci_le rfl rfl c7
      refine ⟨Or.inl rfl, ?_⟩
      intro o10
      refine ⟨fun c11 => ?_, fun c11 => ?_⟩
      · exact absurd c11 (by decide)
      · skip
        refine w_X11_refuse ?_
        have hB12 : Bd (uI I 1 0 2) := Bd.o0 hB0 io9_112_1_11 (by decide) bd9_11_0
        exact hQ _ _ _ _ hB12 trivial
    · skip
      have b13 := Bd.o hB0 (RI.now hR0).1 bd9_0_4
      have d14 : ((v1.toInt) : Int) < ((I (R 1 7) 4).toInt) := ci_nle rfl rfl c7
      refine ⟨Or.inr rfl, ?_⟩
      intro o15
      refine ⟨fun c16 => ?_, fun c16 => ?_⟩
      · skip
        refine ⟨fun c17 => ?_, fun c17 => ?_⟩
        · skip
          have d18 : ((v2.toInt) : Int) = (0) := ci_eq rfl rfl c17
          refine ⟨(RI.now hR0).2, ?_⟩
          refine bif_t (RI.now hR0).1 ?_
          refine bif_t (fa_0_6 (RI.now hR0).1).1 ?_
          refine ⟨by rw [(fa_0_6 (RI.now hR0).1).2.1]; exact vp_of (a := v1.toInt) rfl (by omega) (by omega), ?_⟩
          refine w_X11_answer ?_
          have hB19 : Bd (uI I 1 0 0) := Bd.o0 hB0 io9_112_1_11 (by decide) bd9_11_0
          exact hQ _ _ _ _ hB19 trivial
        · skip
          have d20 : ¬ ((v2.toInt) : Int) = (0) := ci_ne rfl rfl c17
          refine ⟨fun c21 => ?_, fun c21 => ?_⟩
          · skip
            have d22 : ((v2.toInt) : Int) = (1) := ci_eq rfl rfl c21
            refine ⟨(RI.now hR0).2, ?_⟩
            refine bif_t (RI.now hR0).1 ?_
            refine bif_t (fa_0_7 (RI.now hR0).1).1 ?_
            refine ⟨by rw [(fa_0_7 (RI.now hR0).1).2.1]; exact vp_of (a := v1.toInt) rfl (by omega) (by omega), ?_⟩
            refine w_X11_answer ?_
            have hB23 : Bd (uI I 1 0 0) := Bd.o0 hB0 io9_112_1_11 (by decide) bd9_11_0
            exact hQ _ _ _ _ hB23 trivial
          · skip
            have d24 : ¬ ((v2.toInt) : Int) = (1) := ci_ne rfl rfl c21
            refine ⟨fun c25 => ?_, fun c25 => ?_⟩
            · skip
              have d26 : ((v2.toInt) : Int) = (2) := ci_eq rfl rfl c25
              refine ⟨(RI.now hR0).2, ?_⟩
              refine bif_t (RI.now hR0).1 ?_
              refine bif_t (fa_0_8 (RI.now hR0).1).1 ?_
              refine ⟨by rw [(fa_0_8 (RI.now hR0).1).2.1]; exact vp_of (a := v1.toInt) rfl (by omega) (by omega), ?_⟩
              refine w_X11_answer ?_
              have hB27 : Bd (uI I 1 0 0) := Bd.o0 hB0 io9_112_1_11 (by decide) bd9_11_0
              exact hQ _ _ _ _ hB27 trivial
            · skip
              have d28 : ¬ ((v2.toInt) : Int) = (2) := ci_ne rfl rfl c25
              refine w_X11_refuse ?_
              have hB29 : Bd (uI I 1 0 5) := Bd.o0 hB0 io9_112_1_11 (by decide) bd9_11_0
              exact hQ _ _ _ _ hB29 trivial
      · exact absurd c16 (by decide)
set_option maxHeartbeats 2000000 in
theorem sp_X11_has {d : Nat} {Q : Qt} {v1 : Int32} {I : Im} {J : Jm} {R : Rm} (hB0 : Bd I) (hR0 : RI R) (hQ : ∀ (x : Int32) (y : Int64) (I2 : Im) (J2 : Jm), Bd I2 → (True) → Q x y I2 J2 R) : AM (d + 3) 114 112 [.ref 1, .int v1] I J R Q := by
  have i_v1 := i32 v1
  refine w_X11_has ?_
  refine ⟨(RI.now hR0).2, ?_⟩
  refine bif_t (RI.now hR0).1 ?_
  refine w_X0_isMan ?_
  refine ⟨fun c1 => ?_, fun c1 => ?_⟩
  · skip
    have d2 : ((v1.toInt) : Int) < (0) := ci_lt rfl rfl c1
    refine ⟨Or.inl rfl, ?_⟩
    intro o3
    refine ⟨fun c4 => ?_, fun c4 => ?_⟩
    · exact absurd c4 (by decide)
    · skip
      refine w_X11_deny ?_
      have hB5 : Bd (uI I 1 0 2) := Bd.o0 hB0 io9_112_1_11 (by decide) bd9_11_0
      refine ⟨Or.inl rfl, ?_⟩
      intro o6
      refine ⟨Or.inl rfl, ?_⟩
      exact hQ _ _ _ _ hB5 trivial
  · skip
    have d7 : ((0) : Int) ≤ (v1.toInt) := ci_nlt rfl rfl c1
    refine bif_t (RI.now hR0).1 ?_
    refine ⟨fun c8 => ?_, fun c8 => ?_⟩
    · skip
      have b9 := Bd.o hB0 (RI.now hR0).1 bd9_0_4
      have d10 : (((I (R 1 7) 4).toInt) : Int) ≤ (v1.toInt) := ci_le rfl rfl c8
      refine ⟨Or.inl rfl, ?_⟩
      intro o11
      refine ⟨fun c12 => ?_, fun c12 => ?_⟩
      · exact absurd c12 (by decide)
      · skip
        refine w_X11_deny ?_
        have hB13 : Bd (uI I 1 0 2) := Bd.o0 hB0 io9_112_1_11 (by decide) bd9_11_0
        refine ⟨Or.inl rfl, ?_⟩
        intro o14
        refine ⟨Or.inl rfl, ?_⟩
        exact hQ _ _ _ _ hB13 trivial
    · skip
      have b15 := Bd.o hB0 (RI.now hR0).1 bd9_0_4
      have d16 : ((v1.toInt) : Int) < ((I (R 1 7) 4).toInt) := ci_nle rfl rfl c8
      refine ⟨Or.inr rfl, ?_⟩
      intro o17
      refine ⟨fun c18 => ?_, fun c18 => ?_⟩
      · skip
        refine ⟨(RI.now hR0).2, ?_⟩
        refine bif_t (RI.now hR0).1 ?_
        refine sp_X0_holding hB0 hR0 (RI.now hR0).1 (by have z : (v1 : Int32).toInt = v1.toInt := rfl; omega) (fun x19 y24 I20 J21 hB22 p23 => ?_)
        refine sp_X11_tell hB22 hR0 (fun x25 y30 I26 J27 hB28 p29 => ?_)
        intro o31
        have i32 := i32 x25
        refine ⟨o31, ?_⟩
        exact hQ _ _ _ _ hB28 trivial
      · exact absurd c18 (by decide)
set_option maxHeartbeats 2000000 in
theorem sp_X11_lacks {d : Nat} {Q : Qt} {v1 : Int32} {I : Im} {J : Jm} {R : Rm} (hB0 : Bd I) (hR0 : RI R) (hQ : ∀ (x : Int32) (y : Int64) (I2 : Im) (J2 : Jm), Bd I2 → (True) → Q x y I2 J2 R) : AM (d + 4) 115 112 [.ref 1, .int v1] I J R Q := by
  have i_v1 := i32 v1
  refine w_X11_lacks ?_
  refine ⟨(RI.now hR0).2, ?_⟩
  refine bif_t (RI.now hR0).1 ?_
  refine w_X0_isMan ?_
  refine ⟨fun c1 => ?_, fun c1 => ?_⟩
  · skip
    have d2 : ((v1.toInt) : Int) < (0) := ci_lt rfl rfl c1
    refine ⟨Or.inl rfl, ?_⟩
    intro o3
    refine ⟨fun c4 => ?_, fun c4 => ?_⟩
    · exact absurd c4 (by decide)
    · skip
      refine w_X11_deny ?_
      have hB5 : Bd (uI I 1 0 2) := Bd.o0 hB0 io9_112_1_11 (by decide) bd9_11_0
      refine ⟨Or.inl rfl, ?_⟩
      intro o6
      refine ⟨Or.inl rfl, ?_⟩
      exact hQ _ _ _ _ hB5 trivial
  · skip
    have d7 : ((0) : Int) ≤ (v1.toInt) := ci_nlt rfl rfl c1
    refine bif_t (RI.now hR0).1 ?_
    refine ⟨fun c8 => ?_, fun c8 => ?_⟩
    · skip
      have b9 := Bd.o hB0 (RI.now hR0).1 bd9_0_4
      have d10 : (((I (R 1 7) 4).toInt) : Int) ≤ (v1.toInt) := ci_le rfl rfl c8
      refine ⟨Or.inl rfl, ?_⟩
      intro o11
      refine ⟨fun c12 => ?_, fun c12 => ?_⟩
      · exact absurd c12 (by decide)
      · skip
        refine w_X11_deny ?_
        have hB13 : Bd (uI I 1 0 2) := Bd.o0 hB0 io9_112_1_11 (by decide) bd9_11_0
        refine ⟨Or.inl rfl, ?_⟩
        intro o14
        refine ⟨Or.inl rfl, ?_⟩
        exact hQ _ _ _ _ hB13 trivial
    · skip
      have b15 := Bd.o hB0 (RI.now hR0).1 bd9_0_4
      have d16 : ((v1.toInt) : Int) < ((I (R 1 7) 4).toInt) := ci_nle rfl rfl c8
      refine ⟨Or.inr rfl, ?_⟩
      intro o17
      refine ⟨fun c18 => ?_, fun c18 => ?_⟩
      · skip
        refine ⟨(RI.now hR0).2, ?_⟩
        refine bif_t (RI.now hR0).1 ?_
        refine sp_X0_lacking hB0 hR0 (RI.now hR0).1 (by have z : (v1 : Int32).toInt = v1.toInt := rfl; omega) (fun x19 y24 I20 J21 hB22 p23 => ?_)
        refine sp_X11_tell hB22 hR0 (fun x25 y30 I26 J27 hB28 p29 => ?_)
        intro o31
        have i32 := i32 x25
        refine ⟨o31, ?_⟩
        exact hQ _ _ _ _ hB28 trivial
      · exact absurd c18 (by decide)
set_option maxHeartbeats 2000000 in
theorem sp_X11_worth {d : Nat} {Q : Qt} {I : Im} {J : Jm} {R : Rm} (hB0 : Bd I) (hR0 : RI R) (hQ : ∀ (x : Int32) (y : Int64) (I2 : Im) (J2 : Jm), Bd I2 → ((x.toInt = 1)) → Q x y I2 J2 R) : AM (d + 3) 116 112 [.ref 1] I J R Q := by
  refine w_X11_worth ?_
  refine ⟨(RI.now hR0).2, ?_⟩
  refine bif_t (RI.now hR0).1 ?_
  refine sp_X0_stockCrumbs hB0 hR0 (RI.now hR0).1 (fun x1 y6 I2 J3 hB4 p5 => ?_)
  refine sp_X11_tell hB4 hR0 (fun x7 y12 I8 J9 hB10 p11 => ?_)
  intro o13
  have i14 := i32 x7
  refine ⟨o13, ?_⟩
  exact hQ _ _ _ _ hB10 (by have q0 : (x7 : Int32).toInt = x7.toInt := rfl; omega)
set_option maxHeartbeats 2000000 in
theorem sp_X11_bake {d : Nat} {Q : Qt} {v1 : Int32} {I : Im} {J : Jm} {R : Rm} (hB0 : Bd I) (hR0 : RI R) (hQ : ∀ (x : Int32) (y : Int64) (I2 : Im) (J2 : Jm), Bd I2 → (True) → Q x y I2 J2 R) : AM (d + 2) 118 112 [.ref 1, .int v1] I J R Q := by
  have i_v1 := i32 v1
  refine w_X11_bake ?_
  refine ⟨(RI.now hR0).2, ?_⟩
  refine bif_t (RI.now hR0).1 ?_
  refine sp_X0_addLoaves hB0 hR0 (RI.now hR0).1 (fun x1 y6 I2 J3 hB4 p5 => ?_)
  have i7 := i32 x1
  refine ⟨fun c8 => ?_, fun c8 => ?_⟩
  · skip
    have d9 : ¬ ((x1.toInt) : Int) = (0) := ci_ne rfl rfl c8
    refine w_X11_refuse ?_
    have hB10 : Bd (uI I2 1 0 x1) := Bd.o0 hB4 io9_112_1_11 (by decide) bd9_11_0
    exact hQ _ _ _ _ hB10 trivial
  · skip
    have d11 : ((x1.toInt) : Int) = (0) := ci_eq rfl rfl c8
    refine ⟨(RI.now hR0).2, ?_⟩
    refine bif_t (RI.now hR0).1 ?_
    refine bif_t (fa_0_0 (RI.now hR0).1).1 ?_
    refine ⟨by rw [(fa_0_0 (RI.now hR0).1).2.1]; exact vp_of (a := 1) rfl (by omega) (by omega), ?_⟩
    refine w_X11_answer ?_
    have hB12 : Bd (uI I2 1 0 0) := Bd.o0 hB4 io9_112_1_11 (by decide) bd9_11_0
    exact hQ _ _ _ _ hB12 trivial
set_option maxHeartbeats 2000000 in
theorem sp_X11_cut {d : Nat} {Q : Qt} {v1 : Int32} {v2 : Int32} {v3 : Int32} {I : Im} {J : Jm} {R : Rm} (hB0 : Bd I) (hR0 : RI R) (hQ : ∀ (x : Int32) (y : Int64) (I2 : Im) (J2 : Jm), Bd I2 → (True) → Q x y I2 J2 R) : AM (d + 3) 119 112 [.ref 1, .int v1, .int v2, .int v3] I J R Q := by
  have i_v1 := i32 v1
  have i_v2 := i32 v2
  have i_v3 := i32 v3
  refine w_X11_cut ?_
  refine ⟨(RI.now hR0).2, ?_⟩
  refine bif_t (RI.now hR0).1 ?_
  refine sp_X0_cutUp hB0 hR0 (RI.now hR0).1 (fun x1 y6 I2 J3 hB4 p5 => ?_)
  have i7 := i32 x1
  refine ⟨fun c8 => ?_, fun c8 => ?_⟩
  · skip
    have d9 : ¬ ((x1.toInt) : Int) = (0) := ci_ne rfl rfl c8
    refine w_X11_refuse ?_
    have hB10 : Bd (uI I2 1 0 x1) := Bd.o0 hB4 io9_112_1_11 (by decide) bd9_11_0
    exact hQ _ _ _ _ hB10 trivial
  · skip
    have d11 : ((x1.toInt) : Int) = (0) := ci_eq rfl rfl c8
    refine ⟨(RI.now hR0).2, ?_⟩
    refine bif_t (RI.now hR0).1 ?_
    refine sp_X0_pieces hB4 hR0 (RI.now hR0).1 (fun x12 y17 I13 J14 hB15 p16 => ?_)
    have i18 := i32 x12
    refine w_X11_answer ?_
    have hB19 : Bd (uI I13 1 0 0) := Bd.o0 hB15 io9_112_1_11 (by decide) bd9_11_0
    exact hQ _ _ _ _ hB19 trivial
set_option maxHeartbeats 2000000 in
theorem sp_X11_split {d : Nat} {Q : Qt} {v1 : Int32} {v2 : Int32} {I : Im} {J : Jm} {R : Rm} (hB0 : Bd I) (hR0 : RI R) (hQ : ∀ (x : Int32) (y : Int64) (I2 : Im) (J2 : Jm), Bd I2 → (True) → Q x y I2 J2 R) : AM (d + 3) 120 112 [.ref 1, .int v1, .int v2] I J R Q := by
  have i_v1 := i32 v1
  have i_v2 := i32 v2
  refine w_X11_split ?_
  refine ⟨(RI.now hR0).2, ?_⟩
  refine bif_t (RI.now hR0).1 ?_
  refine sp_X0_splitUp hB0 hR0 (RI.now hR0).1 (fun x1 y6 I2 J3 hB4 p5 => ?_)
  have i7 := i32 x1
  refine ⟨fun c8 => ?_, fun c8 => ?_⟩
  · skip
    have d9 : ¬ ((x1.toInt) : Int) = (0) := ci_ne rfl rfl c8
    refine w_X11_refuse ?_
    have hB10 : Bd (uI I2 1 0 x1) := Bd.o0 hB4 io9_112_1_11 (by decide) bd9_11_0
    exact hQ _ _ _ _ hB10 trivial
  · skip
    have d11 : ((x1.toInt) : Int) = (0) := ci_eq rfl rfl c8
    refine ⟨(RI.now hR0).2, ?_⟩
    refine bif_t (RI.now hR0).1 ?_
    refine sp_X0_pieces hB4 hR0 (RI.now hR0).1 (fun x12 y17 I13 J14 hB15 p16 => ?_)
    have i18 := i32 x12
    refine w_X11_answer ?_
    have hB19 : Bd (uI I13 1 0 0) := Bd.o0 hB15 io9_112_1_11 (by decide) bd9_11_0
    exact hQ _ _ _ _ hB19 trivial
set_option maxHeartbeats 2000000 in
theorem sp_X11_give {d : Nat} {Q : Qt} {v1 : Int32} {v2 : Int32} {I : Im} {J : Jm} {R : Rm} (hB0 : Bd I) (hR0 : RI R) (hQ : ∀ (x : Int32) (y : Int64) (I2 : Im) (J2 : Jm), Bd I2 → (True) → Q x y I2 J2 R) : AM (d + 3) 121 112 [.ref 1, .int v1, .int v2] I J R Q := by
  have i_v1 := i32 v1
  have i_v2 := i32 v2
  refine w_X11_give ?_
  refine ⟨(RI.now hR0).2, ?_⟩
  refine bif_t (RI.now hR0).1 ?_
  refine sp_X0_handOver hB0 hR0 (RI.now hR0).1 (fun x1 y6 I2 J3 hB4 p5 => ?_)
  have i7 := i32 x1
  refine ⟨fun c8 => ?_, fun c8 => ?_⟩
  · skip
    have d9 : ¬ ((x1.toInt) : Int) = (0) := ci_ne rfl rfl c8
    refine w_X11_refuse ?_
    have hB10 : Bd (uI I2 1 0 x1) := Bd.o0 hB4 io9_112_1_11 (by decide) bd9_11_0
    exact hQ _ _ _ _ hB10 trivial
  · skip
    have d11 : ((x1.toInt) : Int) = (0) := ci_eq rfl rfl c8
    refine ⟨(RI.now hR0).2, ?_⟩
    refine bif_t (RI.now hR0).1 ?_
    refine bif_t (fa_0_8 (RI.now hR0).1).1 ?_
    refine ⟨by rw [(fa_0_8 (RI.now hR0).1).2.1]; exact vp_of (a := v1.toInt) rfl (by omega) (by omega), ?_⟩
    refine sp_J6_bitCount_0f7a4 hB4 hR0 (fun x12 y17 I13 J14 hB15 p16 => ?_)
    obtain ⟨heI13, p16⟩ := p16
    subst heI13
    have i18 := i32 x12
    refine w_X11_answer ?_
    have hB19 : Bd (uI I2 1 0 0) := Bd.o0 hB4 io9_112_1_11 (by decide) bd9_11_0
    exact hQ _ _ _ _ hB19 trivial
set_option maxHeartbeats 2000000 in
theorem sp_X11_take {d : Nat} {Q : Qt} {v1 : Int32} {v2 : Int32} {I : Im} {J : Jm} {R : Rm} (hB0 : Bd I) (hR0 : RI R) (hQ : ∀ (x : Int32) (y : Int64) (I2 : Im) (J2 : Jm), Bd I2 → (True) → Q x y I2 J2 R) : AM (d + 3) 122 112 [.ref 1, .int v1, .int v2] I J R Q := by
  have i_v1 := i32 v1
  have i_v2 := i32 v2
  refine w_X11_take ?_
  refine ⟨(RI.now hR0).2, ?_⟩
  refine bif_t (RI.now hR0).1 ?_
  refine sp_X0_handBack hB0 hR0 (RI.now hR0).1 (fun x1 y6 I2 J3 hB4 p5 => ?_)
  have i7 := i32 x1
  refine ⟨fun c8 => ?_, fun c8 => ?_⟩
  · skip
    have d9 : ¬ ((x1.toInt) : Int) = (0) := ci_ne rfl rfl c8
    refine w_X11_refuse ?_
    have hB10 : Bd (uI I2 1 0 x1) := Bd.o0 hB4 io9_112_1_11 (by decide) bd9_11_0
    exact hQ _ _ _ _ hB10 trivial
  · skip
    have d11 : ((x1.toInt) : Int) = (0) := ci_eq rfl rfl c8
    refine ⟨(RI.now hR0).2, ?_⟩
    refine bif_t (RI.now hR0).1 ?_
    refine bif_t (fa_0_8 (RI.now hR0).1).1 ?_
    refine ⟨by rw [(fa_0_8 (RI.now hR0).1).2.1]; exact vp_of (a := v1.toInt) rfl (by omega) (by omega), ?_⟩
    refine sp_J6_bitCount_0f7a4 hB4 hR0 (fun x12 y17 I13 J14 hB15 p16 => ?_)
    obtain ⟨heI13, p16⟩ := p16
    subst heI13
    have i18 := i32 x12
    refine w_X11_answer ?_
    have hB19 : Bd (uI I2 1 0 0) := Bd.o0 hB4 io9_112_1_11 (by decide) bd9_11_0
    exact hQ _ _ _ _ hB19 trivial
set_option maxHeartbeats 2000000 in
theorem sp_X11_owe {d : Nat} {Q : Qt} {v1 : Int32} {v2 : Int32} {v3 : Int32} {I : Im} {J : Jm} {R : Rm} (hB0 : Bd I) (hR0 : RI R) (hQ : ∀ (x : Int32) (y : Int64) (I2 : Im) (J2 : Jm), Bd I2 → (True) → Q x y I2 J2 R) : AM (d + 2) 123 112 [.ref 1, .int v1, .int v2, .int v3] I J R Q := by
  have i_v1 := i32 v1
  have i_v2 := i32 v2
  have i_v3 := i32 v3
  refine w_X11_owe ?_
  refine ⟨(RI.now hR0).2, ?_⟩
  refine bif_t (RI.now hR0).1 ?_
  refine w_X0_isMan ?_
  refine ⟨fun c1 => ?_, fun c1 => ?_⟩
  · skip
    have d2 : ((v1.toInt) : Int) < (0) := ci_lt rfl rfl c1
    refine ⟨Or.inl rfl, ?_⟩
    intro o3
    refine ⟨fun c4 => ?_, fun c4 => ?_⟩
    · exact absurd c4 (by decide)
    · skip
      refine w_X11_deny ?_
      have hB5 : Bd (uI I 1 0 2) := Bd.o0 hB0 io9_112_1_11 (by decide) bd9_11_0
      refine ⟨Or.inl rfl, ?_⟩
      intro o6
      refine ⟨Or.inl rfl, ?_⟩
      exact hQ _ _ _ _ hB5 trivial
  · skip
    have d7 : ((0) : Int) ≤ (v1.toInt) := ci_nlt rfl rfl c1
    refine bif_t (RI.now hR0).1 ?_
    refine ⟨fun c8 => ?_, fun c8 => ?_⟩
    · skip
      have b9 := Bd.o hB0 (RI.now hR0).1 bd9_0_4
      have d10 : (((I (R 1 7) 4).toInt) : Int) ≤ (v1.toInt) := ci_le rfl rfl c8
      refine ⟨Or.inl rfl, ?_⟩
      intro o11
      refine ⟨fun c12 => ?_, fun c12 => ?_⟩
      · exact absurd c12 (by decide)
      · skip
        refine w_X11_deny ?_
        have hB13 : Bd (uI I 1 0 2) := Bd.o0 hB0 io9_112_1_11 (by decide) bd9_11_0
        refine ⟨Or.inl rfl, ?_⟩
        intro o14
        refine ⟨Or.inl rfl, ?_⟩
        exact hQ _ _ _ _ hB13 trivial
    · skip
      have b15 := Bd.o hB0 (RI.now hR0).1 bd9_0_4
      have d16 : ((v1.toInt) : Int) < ((I (R 1 7) 4).toInt) := ci_nle rfl rfl c8
      refine ⟨Or.inr rfl, ?_⟩
      intro o17
      refine ⟨fun c18 => ?_, fun c18 => ?_⟩
      · skip
        refine w_X11_isShare ?_
        refine ⟨fun c19 => ?_, fun c19 => ?_⟩
        · skip
          have d20 : ((v2.toInt) : Int) < (1) := ci_lt rfl rfl c19
          refine ⟨Or.inl rfl, ?_⟩
          intro o21
          refine ⟨fun c22 => ?_, fun c22 => ?_⟩
          · exact absurd c22 (by decide)
          · skip
            refine w_X11_deny ?_
            have hB23 : Bd (uI I 1 0 5) := Bd.o0 hB0 io9_112_1_11 (by decide) bd9_11_0
            refine ⟨Or.inl rfl, ?_⟩
            intro o24
            refine ⟨Or.inl rfl, ?_⟩
            exact hQ _ _ _ _ hB23 trivial
        · skip
          have d25 : ((1) : Int) ≤ (v2.toInt) := ci_nlt rfl rfl c19
          refine ⟨fun c26 => ?_, fun c26 => ?_⟩
          · skip
            have d27 : ((99) : Int) < (v2.toInt) := ci_lt rfl rfl c26
            refine ⟨Or.inl rfl, ?_⟩
            intro o28
            refine ⟨fun c29 => ?_, fun c29 => ?_⟩
            · exact absurd c29 (by decide)
            · skip
              refine w_X11_deny ?_
              have hB30 : Bd (uI I 1 0 5) := Bd.o0 hB0 io9_112_1_11 (by decide) bd9_11_0
              refine ⟨Or.inl rfl, ?_⟩
              intro o31
              refine ⟨Or.inl rfl, ?_⟩
              exact hQ _ _ _ _ hB30 trivial
          · skip
            have d32 : ((v2.toInt) : Int) ≤ (99) := ci_nlt rfl rfl c26
            refine ⟨fun c33 => ?_, fun c33 => ?_⟩
            · skip
              have d34 : ((v3.toInt) : Int) < (1) := ci_lt rfl rfl c33
              refine ⟨Or.inl rfl, ?_⟩
              intro o35
              refine ⟨fun c36 => ?_, fun c36 => ?_⟩
              · exact absurd c36 (by decide)
              · skip
                refine w_X11_deny ?_
                have hB37 : Bd (uI I 1 0 5) := Bd.o0 hB0 io9_112_1_11 (by decide) bd9_11_0
                refine ⟨Or.inl rfl, ?_⟩
                intro o38
                refine ⟨Or.inl rfl, ?_⟩
                exact hQ _ _ _ _ hB37 trivial
            · skip
              have d39 : ((1) : Int) ≤ (v3.toInt) := ci_nlt rfl rfl c33
              refine ⟨fun c40 => ?_, fun c40 => ?_⟩
              · skip
                have d41 : ((30) : Int) < (v3.toInt) := ci_lt rfl rfl c40
                refine ⟨Or.inl rfl, ?_⟩
                intro o42
                refine ⟨fun c43 => ?_, fun c43 => ?_⟩
                · exact absurd c43 (by decide)
                · skip
                  refine w_X11_deny ?_
                  have hB44 : Bd (uI I 1 0 5) := Bd.o0 hB0 io9_112_1_11 (by decide) bd9_11_0
                  refine ⟨Or.inl rfl, ?_⟩
                  intro o45
                  refine ⟨Or.inl rfl, ?_⟩
                  exact hQ _ _ _ _ hB44 trivial
              · skip
                have d46 : ((v3.toInt) : Int) ≤ (30) := ci_nlt rfl rfl c40
                refine ⟨Or.inr rfl, ?_⟩
                intro o47
                refine ⟨fun c48 => ?_, fun c48 => ?_⟩
                · skip
                  refine ⟨(RI.now hR0).2, ?_⟩
                  refine bif_t (RI.now hR0).1 ?_
                  refine bif_t (fa_0_6 (RI.now hR0).1).1 ?_
                  refine ⟨by rw [(fa_0_6 (RI.now hR0).1).2.1]; exact vp_of (a := v1.toInt) rfl (by omega) (by omega), ?_⟩
                  have hB49 : Bd (uI I ((R 1 7) + 3) (Int32.toNatClampNeg v1) v2) := Bd.a0 hB0 (fa_0_6 (RI.now hR0).1).1 (fa_0_6 (RI.now hR0).1).2.2
                  refine ⟨(RI.now hR0).2, ?_⟩
                  refine bif_t (RI.now hR0).1 ?_
                  refine bif_t (fa_0_7 (RI.now hR0).1).1 ?_
                  refine ⟨by rw [(fa_0_7 (RI.now hR0).1).2.1]; exact vp_of (a := v1.toInt) rfl (by omega) (by omega), ?_⟩
                  have hB50 : Bd (uI (uI I ((R 1 7) + 3) (Int32.toNatClampNeg v1) v2) ((R 1 7) + 4) (Int32.toNatClampNeg v1) v3) := Bd.a0 hB49 (fa_0_7 (RI.now hR0).1).1 (fa_0_7 (RI.now hR0).1).2.2
                  refine w_X11_allow ?_
                  have hB51 : Bd (uI (uI (uI I ((R 1 7) + 3) (Int32.toNatClampNeg v1) v2) ((R 1 7) + 4) (Int32.toNatClampNeg v1) v3) 1 0 0) := Bd.o0 hB50 io9_112_1_11 (by decide) bd9_11_0
                  refine ⟨Or.inr rfl, ?_⟩
                  intro o52
                  refine ⟨Or.inr rfl, ?_⟩
                  exact hQ _ _ _ _ hB51 trivial
                · exact absurd c48 (by decide)
      · exact absurd c18 (by decide)
set_option maxHeartbeats 2000000 in
theorem sp_X11_come {d : Nat} {Q : Qt} {v1 : Int32} {v2 : Int32} {I : Im} {J : Jm} {R : Rm} (hB0 : Bd I) (hR0 : RI R) (hQ : ∀ (x : Int32) (y : Int64) (I2 : Im) (J2 : Jm), Bd I2 → (True) → Q x y I2 J2 R) : AM (d + 2) 124 112 [.ref 1, .int v1, .int v2] I J R Q := by
  have i_v1 := i32 v1
  have i_v2 := i32 v2
  refine w_X11_come ?_
  refine w_X11_isShare ?_
  refine ⟨fun c1 => ?_, fun c1 => ?_⟩
  · skip
    have d2 : ((v1.toInt) : Int) < (1) := ci_lt rfl rfl c1
    refine ⟨Or.inl rfl, ?_⟩
    intro o3
    refine ⟨fun c4 => ?_, fun c4 => ?_⟩
    · exact absurd c4 (by decide)
    · skip
      refine w_X11_refuse ?_
      have hB5 : Bd (uI I 1 0 5) := Bd.o0 hB0 io9_112_1_11 (by decide) bd9_11_0
      exact hQ _ _ _ _ hB5 trivial
  · skip
    have d6 : ((1) : Int) ≤ (v1.toInt) := ci_nlt rfl rfl c1
    refine ⟨fun c7 => ?_, fun c7 => ?_⟩
    · skip
      have d8 : ((99) : Int) < (v1.toInt) := ci_lt rfl rfl c7
      refine ⟨Or.inl rfl, ?_⟩
      intro o9
      refine ⟨fun c10 => ?_, fun c10 => ?_⟩
      · exact absurd c10 (by decide)
      · skip
        refine w_X11_refuse ?_
        have hB11 : Bd (uI I 1 0 5) := Bd.o0 hB0 io9_112_1_11 (by decide) bd9_11_0
        exact hQ _ _ _ _ hB11 trivial
    · skip
      have d12 : ((v1.toInt) : Int) ≤ (99) := ci_nlt rfl rfl c7
      refine ⟨fun c13 => ?_, fun c13 => ?_⟩
      · skip
        have d14 : ((v2.toInt) : Int) < (1) := ci_lt rfl rfl c13
        refine ⟨Or.inl rfl, ?_⟩
        intro o15
        refine ⟨fun c16 => ?_, fun c16 => ?_⟩
        · exact absurd c16 (by decide)
        · skip
          refine w_X11_refuse ?_
          have hB17 : Bd (uI I 1 0 5) := Bd.o0 hB0 io9_112_1_11 (by decide) bd9_11_0
          exact hQ _ _ _ _ hB17 trivial
      · skip
        have d18 : ((1) : Int) ≤ (v2.toInt) := ci_nlt rfl rfl c13
        refine ⟨fun c19 => ?_, fun c19 => ?_⟩
        · skip
          have d20 : ((30) : Int) < (v2.toInt) := ci_lt rfl rfl c19
          refine ⟨Or.inl rfl, ?_⟩
          intro o21
          refine ⟨fun c22 => ?_, fun c22 => ?_⟩
          · exact absurd c22 (by decide)
          · skip
            refine w_X11_refuse ?_
            have hB23 : Bd (uI I 1 0 5) := Bd.o0 hB0 io9_112_1_11 (by decide) bd9_11_0
            exact hQ _ _ _ _ hB23 trivial
        · skip
          have d24 : ((v2.toInt) : Int) ≤ (30) := ci_nlt rfl rfl c19
          refine ⟨Or.inr rfl, ?_⟩
          intro o25
          refine ⟨fun c26 => ?_, fun c26 => ?_⟩
          · skip
            refine ⟨(RI.now hR0).2, ?_⟩
            refine bif_t (RI.now hR0).1 ?_
            refine ⟨fun c27 => ?_, fun c27 => ?_⟩
            · skip
              have b28 := Bd.o hB0 (RI.now hR0).1 bd9_0_4
              have d29 : (((I (R 1 7) 4).toInt) : Int) < (6) := ci_lt rfl rfl c27
              refine ⟨(RI.now hR0).2, ?_⟩
              refine bif_t (RI.now hR0).1 ?_
              refine sp_X0_addMan hB0 hR0 (RI.now hR0).1 (fun x30 y35 I31 J32 hB33 p34 => ?_)
              have i36 := i32 x30
              refine w_X11_answer ?_
              have hB37 : Bd (uI I31 1 0 0) := Bd.o0 hB33 io9_112_1_11 (by decide) bd9_11_0
              exact hQ _ _ _ _ hB37 trivial
            · skip
              have b38 := Bd.o hB0 (RI.now hR0).1 bd9_0_4
              have d39 : ((6) : Int) ≤ ((I (R 1 7) 4).toInt) := ci_nlt rfl rfl c27
              refine w_X11_refuse ?_
              have hB40 : Bd (uI I 1 0 7) := Bd.o0 hB0 io9_112_1_11 (by decide) bd9_11_0
              exact hQ _ _ _ _ hB40 trivial
          · exact absurd c26 (by decide)
set_option maxHeartbeats 2000000 in
theorem sp_X11_learn {d : Nat} {Q : Qt} {v1 : Int32} {v2 : Int32} {I : Im} {J : Jm} {R : Rm} (hB0 : Bd I) (hR0 : RI R) (hQ : ∀ (x : Int32) (y : Int64) (I2 : Im) (J2 : Jm), Bd I2 → (True) → Q x y I2 J2 R) : AM (d + 2) 125 112 [.ref 1, .int v1, .int v2] I J R Q := by
  have i_v1 := i32 v1
  have i_v2 := i32 v2
  refine w_X11_learn ?_
  refine w_X11_isSlice ?_
  refine ⟨fun c1 => ?_, fun c1 => ?_⟩
  · skip
    have d2 : ((v1.toInt) : Int) < (1) := ci_lt rfl rfl c1
    refine ⟨Or.inl rfl, ?_⟩
    intro o3
    refine ⟨fun c4 => ?_, fun c4 => ?_⟩
    · exact absurd c4 (by decide)
    · skip
      refine w_X11_deny ?_
      have hB5 : Bd (uI I 1 0 2) := Bd.o0 hB0 io9_112_1_11 (by decide) bd9_11_0
      refine ⟨Or.inl rfl, ?_⟩
      intro o6
      refine ⟨Or.inl rfl, ?_⟩
      exact hQ _ _ _ _ hB5 trivial
  · skip
    have d7 : ((1) : Int) ≤ (v1.toInt) := ci_nlt rfl rfl c1
    refine ⟨fun c8 => ?_, fun c8 => ?_⟩
    · skip
      have d9 : ((30) : Int) < (v1.toInt) := ci_lt rfl rfl c8
      refine ⟨Or.inl rfl, ?_⟩
      intro o10
      refine ⟨fun c11 => ?_, fun c11 => ?_⟩
      · exact absurd c11 (by decide)
      · skip
        refine w_X11_deny ?_
        have hB12 : Bd (uI I 1 0 2) := Bd.o0 hB0 io9_112_1_11 (by decide) bd9_11_0
        refine ⟨Or.inl rfl, ?_⟩
        intro o13
        refine ⟨Or.inl rfl, ?_⟩
        exact hQ _ _ _ _ hB12 trivial
    · skip
      have d14 : ((v1.toInt) : Int) ≤ (30) := ci_nlt rfl rfl c8
      refine ⟨Or.inr rfl, ?_⟩
      intro o15
      refine ⟨fun c16 => ?_, fun c16 => ?_⟩
      · skip
        refine ⟨(RI.now hR0).2, ?_⟩
        refine bif_t (RI.now hR0).1 ?_
        refine w_X11_isIn ?_
        refine ⟨fun c17 => ?_, fun c17 => ?_⟩
        · skip
          have d18 : (((((I (R 1 7) 2) &&& (1 <<< ((v1 - 1) &&& 31))) : Int32).toInt) : Int) = (0) := ci_eq rfl rfl c17
          refine ⟨Or.inl rfl, ?_⟩
          intro o19
          refine ⟨fun c20 => ?_, fun c20 => ?_⟩
          · skip
            have d21 : ¬ ((0) : Int) = (v2.toInt) := ci_ne rfl rfl c20
            refine ⟨(RI.now hR0).2, ?_⟩
            refine bif_t (RI.now hR0).1 ?_
            refine w_X11_bit ?_
            refine bif_t (RI.now hR0).1 ?_
            have hB22 : Bd (uI I (R 1 7) 2 ((I (R 1 7) 2) ^^^ (1 <<< ((v1 - 1) &&& 31)))) := Bd.o0 hB0 (RI.now hR0).1 (by decide) bd9_0_2
            refine w_X11_allow ?_
            have hB23 : Bd (uI (uI I (R 1 7) 2 ((I (R 1 7) 2) ^^^ (1 <<< ((v1 - 1) &&& 31)))) 1 0 0) := Bd.o0 hB22 io9_112_1_11 (by decide) bd9_11_0
            refine ⟨Or.inr rfl, ?_⟩
            intro o24
            refine ⟨Or.inr rfl, ?_⟩
            exact hQ _ _ _ _ hB23 trivial
          · skip
            have d25 : ((0) : Int) = (v2.toInt) := ci_eq rfl rfl c20
            refine w_X11_deny ?_
            have hB26 : Bd (uI I 1 0 9) := Bd.o0 hB0 io9_112_1_11 (by decide) bd9_11_0
            refine ⟨Or.inl rfl, ?_⟩
            intro o27
            refine ⟨Or.inl rfl, ?_⟩
            exact hQ _ _ _ _ hB26 trivial
        · skip
          have d28 : ¬ (((((I (R 1 7) 2) &&& (1 <<< ((v1 - 1) &&& 31))) : Int32).toInt) : Int) = (0) := ci_ne rfl rfl c17
          refine ⟨Or.inr rfl, ?_⟩
          intro o29
          refine ⟨fun c30 => ?_, fun c30 => ?_⟩
          · skip
            have d31 : ¬ ((1) : Int) = (v2.toInt) := ci_ne rfl rfl c30
            refine ⟨(RI.now hR0).2, ?_⟩
            refine bif_t (RI.now hR0).1 ?_
            refine w_X11_bit ?_
            refine bif_t (RI.now hR0).1 ?_
            have hB32 : Bd (uI I (R 1 7) 2 ((I (R 1 7) 2) ^^^ (1 <<< ((v1 - 1) &&& 31)))) := Bd.o0 hB0 (RI.now hR0).1 (by decide) bd9_0_2
            refine w_X11_allow ?_
            have hB33 : Bd (uI (uI I (R 1 7) 2 ((I (R 1 7) 2) ^^^ (1 <<< ((v1 - 1) &&& 31)))) 1 0 0) := Bd.o0 hB32 io9_112_1_11 (by decide) bd9_11_0
            refine ⟨Or.inr rfl, ?_⟩
            intro o34
            refine ⟨Or.inr rfl, ?_⟩
            exact hQ _ _ _ _ hB33 trivial
          · skip
            have d35 : ((1) : Int) = (v2.toInt) := ci_eq rfl rfl c30
            refine w_X11_deny ?_
            have hB36 : Bd (uI I 1 0 9) := Bd.o0 hB0 io9_112_1_11 (by decide) bd9_11_0
            refine ⟨Or.inl rfl, ?_⟩
            intro o37
            refine ⟨Or.inl rfl, ?_⟩
            exact hQ _ _ _ _ hB36 trivial
      · exact absurd c16 (by decide)
set_option maxHeartbeats 2000000 in
theorem sp_X11_rule {d : Nat} {Q : Qt} {v1 : Int32} {I : Im} {J : Jm} {R : Rm} (hB0 : Bd I) (hR0 : RI R) (hQ : ∀ (x : Int32) (y : Int64) (I2 : Im) (J2 : Jm), Bd I2 → ((0 ≤ x.toInt ∧ x.toInt ≤ 1 ∧ (x.toInt = 1 → 0 ≤ v1.toInt ∧ v1.toInt ≤ 16) ∧ (0 ≤ v1.toInt ∧ v1.toInt ≤ 16 → x.toInt = 1))) → Q x y I2 J2 R) : AM (d + 2) 126 112 [.ref 1, .int v1] I J R Q := by
  have i_v1 := i32 v1
  refine w_X11_rule ?_
  refine ⟨fun c1 => ?_, fun c1 => ?_⟩
  · skip
    have d2 : ((v1.toInt) : Int) < (0) := ci_lt rfl rfl c1
    refine w_X11_deny ?_
    have hB3 : Bd (uI I 1 0 5) := Bd.o0 hB0 io9_112_1_11 (by decide) bd9_11_0
    refine ⟨Or.inl rfl, ?_⟩
    intro o4
    refine ⟨Or.inl rfl, ?_⟩
    exact hQ _ _ _ _ hB3 (by have q0 : (0 : Int32).toInt = 0 := rfl; omega)
  · skip
    have d5 : ((0) : Int) ≤ (v1.toInt) := ci_nlt rfl rfl c1
    refine ⟨fun c6 => ?_, fun c6 => ?_⟩
    · skip
      have d7 : ((v1.toInt) : Int) ≤ (16) := ci_le rfl rfl c6
      refine ⟨(RI.now hR0).2, ?_⟩
      refine bif_t (RI.now hR0).1 ?_
      have hB8 : Bd (uI I (R 1 7) 1 v1) := Bd.o0 hB0 (RI.now hR0).1 (by decide) bd9_0_1
      refine w_X11_allow ?_
      have hB9 : Bd (uI (uI I (R 1 7) 1 v1) 1 0 0) := Bd.o0 hB8 io9_112_1_11 (by decide) bd9_11_0
      refine ⟨Or.inr rfl, ?_⟩
      intro o10
      refine ⟨Or.inr rfl, ?_⟩
      exact hQ _ _ _ _ hB9 (by have q0 : (1 : Int32).toInt = 1 := rfl; omega)
    · skip
      have d11 : ((16) : Int) < (v1.toInt) := ci_nle rfl rfl c6
      refine w_X11_deny ?_
      have hB12 : Bd (uI I 1 0 5) := Bd.o0 hB0 io9_112_1_11 (by decide) bd9_11_0
      refine ⟨Or.inl rfl, ?_⟩
      intro o13
      refine ⟨Or.inl rfl, ?_⟩
      exact hQ _ _ _ _ hB12 (by have q0 : (0 : Int32).toInt = 0 := rfl; omega)
set_option maxHeartbeats 2000000 in
theorem sp_X11_fewest {d : Nat} {Q : Qt} {v1 : Int32} {v2 : Int32} {I : Im} {J : Jm} {R : Rm} (hB0 : Bd I) (hR0 : RI R) (hQ : ∀ (x : Int32) (y : Int64) (I2 : Im) (J2 : Jm), Bd I2 → (True) → Q x y I2 J2 R) : AM (d + 14) 127 112 [.ref 1, .int v1, .int v2] I J R Q := by
  have i_v1 := i32 v1
  have i_v2 := i32 v2
  refine w_X11_fewest ?_
  refine w_X11_isShare ?_
  refine ⟨fun c1 => ?_, fun c1 => ?_⟩
  · skip
    have d2 : ((v1.toInt) : Int) < (1) := ci_lt rfl rfl c1
    refine ⟨Or.inl rfl, ?_⟩
    intro o3
    refine ⟨fun c4 => ?_, fun c4 => ?_⟩
    · exact absurd c4 (by decide)
    · skip
      refine w_X11_refuse ?_
      have hB5 : Bd (uI I 1 0 5) := Bd.o0 hB0 io9_112_1_11 (by decide) bd9_11_0
      exact hQ _ _ _ _ hB5 trivial
  · skip
    have d6 : ((1) : Int) ≤ (v1.toInt) := ci_nlt rfl rfl c1
    refine ⟨fun c7 => ?_, fun c7 => ?_⟩
    · skip
      have d8 : ((99) : Int) < (v1.toInt) := ci_lt rfl rfl c7
      refine ⟨Or.inl rfl, ?_⟩
      intro o9
      refine ⟨fun c10 => ?_, fun c10 => ?_⟩
      · exact absurd c10 (by decide)
      · skip
        refine w_X11_refuse ?_
        have hB11 : Bd (uI I 1 0 5) := Bd.o0 hB0 io9_112_1_11 (by decide) bd9_11_0
        exact hQ _ _ _ _ hB11 trivial
    · skip
      have d12 : ((v1.toInt) : Int) ≤ (99) := ci_nlt rfl rfl c7
      refine ⟨fun c13 => ?_, fun c13 => ?_⟩
      · skip
        have d14 : ((v2.toInt) : Int) < (1) := ci_lt rfl rfl c13
        refine ⟨Or.inl rfl, ?_⟩
        intro o15
        refine ⟨fun c16 => ?_, fun c16 => ?_⟩
        · exact absurd c16 (by decide)
        · skip
          refine w_X11_refuse ?_
          have hB17 : Bd (uI I 1 0 5) := Bd.o0 hB0 io9_112_1_11 (by decide) bd9_11_0
          exact hQ _ _ _ _ hB17 trivial
      · skip
        have d18 : ((1) : Int) ≤ (v2.toInt) := ci_nlt rfl rfl c13
        refine ⟨fun c19 => ?_, fun c19 => ?_⟩
        · skip
          have d20 : ((30) : Int) < (v2.toInt) := ci_lt rfl rfl c19
          refine ⟨Or.inl rfl, ?_⟩
          intro o21
          refine ⟨fun c22 => ?_, fun c22 => ?_⟩
          · exact absurd c22 (by decide)
          · skip
            refine w_X11_refuse ?_
            have hB23 : Bd (uI I 1 0 5) := Bd.o0 hB0 io9_112_1_11 (by decide) bd9_11_0
            exact hQ _ _ _ _ hB23 trivial
        · skip
          have d24 : ((v2.toInt) : Int) ≤ (30) := ci_nlt rfl rfl c19
          refine ⟨Or.inr rfl, ?_⟩
          intro o25
          refine ⟨fun c26 => ?_, fun c26 => ?_⟩
          · skip
            refine ⟨(RI.now hR0).2, ?_⟩
            refine bif_t (RI.now hR0).1 ?_
            refine w_X11_crumbs ?_
            refine ⟨fun c27 => ?_, fun c27 => ?_⟩
            · skip
              have d28 : ((1) : Int) ≤ (v2.toInt) := ci_le rfl rfl c27
              refine ⟨(fun z => by have z2 : (v2.toInt : Int) = 0 := cl_eq (tl_i2l rfl) rfl z; omega), ?_⟩
              refine sp_X7_findFewest hB0 hR0 (fun x29 y34 I30 J31 hB32 p33 => ?_)
              intro o35
              have i36 := i32 x29
              refine w_X11_answerSize ?_
              refine ⟨fun c37 => ?_, fun c37 => ?_⟩
              · skip
                have d38 : ((x29.toInt) : Int) = (0) := ci_eq rfl rfl c37
                refine w_X11_refuse ?_
                have hB39 : Bd (uI I30 1 0 8) := Bd.o0 hB32 io9_112_1_11 (by decide) bd9_11_0
                exact hQ _ _ _ _ hB39 trivial
              · skip
                have d40 : ¬ ((x29.toInt) : Int) = (0) := ci_ne rfl rfl c37
                refine w_X11_answer ?_
                have hB41 : Bd (uI I30 1 0 0) := Bd.o0 hB32 io9_112_1_11 (by decide) bd9_11_0
                exact hQ _ _ _ _ hB41 trivial
            · skip
              have d42 : ((v2.toInt) : Int) < (1) := ci_nle rfl rfl c27
              refine sp_X7_findFewest hB0 hR0 (fun x43 y48 I44 J45 hB46 p47 => ?_)
              intro o49
              have i50 := i32 x43
              refine w_X11_answerSize ?_
              refine ⟨fun c51 => ?_, fun c51 => ?_⟩
              · skip
                have d52 : ((x43.toInt) : Int) = (0) := ci_eq rfl rfl c51
                refine w_X11_refuse ?_
                have hB53 : Bd (uI I44 1 0 8) := Bd.o0 hB46 io9_112_1_11 (by decide) bd9_11_0
                exact hQ _ _ _ _ hB53 trivial
              · skip
                have d54 : ¬ ((x43.toInt) : Int) = (0) := ci_ne rfl rfl c51
                refine w_X11_answer ?_
                have hB55 : Bd (uI I44 1 0 0) := Bd.o0 hB46 io9_112_1_11 (by decide) bd9_11_0
                exact hQ _ _ _ _ hB55 trivial
          · exact absurd c26 (by decide)
set_option maxHeartbeats 2000000 in
theorem sp_X11_fewestAt {d : Nat} {Q : Qt} {v1 : Int32} {v2 : Int32} {v3 : Int32} {I : Im} {J : Jm} {R : Rm} (hB0 : Bd I) (hR0 : RI R) (hQ : ∀ (x : Int32) (y : Int64) (I2 : Im) (J2 : Jm), Bd I2 → (True) → Q x y I2 J2 R) : AM (d + 14) 128 112 [.ref 1, .int v1, .int v2, .int v3] I J R Q := by
  have i_v1 := i32 v1
  have i_v2 := i32 v2
  have i_v3 := i32 v3
  refine w_X11_fewestAt ?_
  refine w_X11_isShare ?_
  refine ⟨fun c1 => ?_, fun c1 => ?_⟩
  · skip
    have d2 : ((v1.toInt) : Int) < (1) := ci_lt rfl rfl c1
    refine ⟨Or.inl rfl, ?_⟩
    intro o3
    refine ⟨fun c4 => ?_, fun c4 => ?_⟩
    · exact absurd c4 (by decide)
    · skip
      refine w_X11_refuse ?_
      have hB5 : Bd (uI I 1 0 5) := Bd.o0 hB0 io9_112_1_11 (by decide) bd9_11_0
      exact hQ _ _ _ _ hB5 trivial
  · skip
    have d6 : ((1) : Int) ≤ (v1.toInt) := ci_nlt rfl rfl c1
    refine ⟨fun c7 => ?_, fun c7 => ?_⟩
    · skip
      have d8 : ((99) : Int) < (v1.toInt) := ci_lt rfl rfl c7
      refine ⟨Or.inl rfl, ?_⟩
      intro o9
      refine ⟨fun c10 => ?_, fun c10 => ?_⟩
      · exact absurd c10 (by decide)
      · skip
        refine w_X11_refuse ?_
        have hB11 : Bd (uI I 1 0 5) := Bd.o0 hB0 io9_112_1_11 (by decide) bd9_11_0
        exact hQ _ _ _ _ hB11 trivial
    · skip
      have d12 : ((v1.toInt) : Int) ≤ (99) := ci_nlt rfl rfl c7
      refine ⟨fun c13 => ?_, fun c13 => ?_⟩
      · skip
        have d14 : ((v2.toInt) : Int) < (1) := ci_lt rfl rfl c13
        refine ⟨Or.inl rfl, ?_⟩
        intro o15
        refine ⟨fun c16 => ?_, fun c16 => ?_⟩
        · exact absurd c16 (by decide)
        · skip
          refine w_X11_refuse ?_
          have hB17 : Bd (uI I 1 0 5) := Bd.o0 hB0 io9_112_1_11 (by decide) bd9_11_0
          exact hQ _ _ _ _ hB17 trivial
      · skip
        have d18 : ((1) : Int) ≤ (v2.toInt) := ci_nlt rfl rfl c13
        refine ⟨fun c19 => ?_, fun c19 => ?_⟩
        · skip
          have d20 : ((30) : Int) < (v2.toInt) := ci_lt rfl rfl c19
          refine ⟨Or.inl rfl, ?_⟩
          intro o21
          refine ⟨fun c22 => ?_, fun c22 => ?_⟩
          · exact absurd c22 (by decide)
          · skip
            refine w_X11_refuse ?_
            have hB23 : Bd (uI I 1 0 5) := Bd.o0 hB0 io9_112_1_11 (by decide) bd9_11_0
            exact hQ _ _ _ _ hB23 trivial
        · skip
          have d24 : ((v2.toInt) : Int) ≤ (30) := ci_nlt rfl rfl c19
          refine ⟨Or.inr rfl, ?_⟩
          intro o25
          refine ⟨fun c26 => ?_, fun c26 => ?_⟩
          · skip
            refine ⟨(RI.now hR0).2, ?_⟩
            refine bif_t (RI.now hR0).1 ?_
            refine w_X11_crumbs ?_
            refine ⟨fun c27 => ?_, fun c27 => ?_⟩
            · skip
              have d28 : ((1) : Int) ≤ (v2.toInt) := ci_le rfl rfl c27
              refine ⟨(fun z => by have z2 : (v2.toInt : Int) = 0 := cl_eq (tl_i2l rfl) rfl z; omega), ?_⟩
              refine sp_X7_findFewest hB0 hR0 (fun x29 y34 I30 J31 hB32 p33 => ?_)
              intro o35
              have i36 := i32 x29
              refine w_X11_answerSlice ?_
              refine ⟨fun c37 => ?_, fun c37 => ?_⟩
              · skip
                have d38 : ((x29.toInt) : Int) = (0) := ci_eq rfl rfl c37
                refine w_X11_refuse ?_
                have hB39 : Bd (uI I30 1 0 8) := Bd.o0 hB32 io9_112_1_11 (by decide) bd9_11_0
                exact hQ _ _ _ _ hB39 trivial
              · skip
                have d40 : ¬ ((x29.toInt) : Int) = (0) := ci_ne rfl rfl c37
                refine w_X7_hasBest ?_
                refine ⟨fun c41 => ?_, fun c41 => ?_⟩
                · skip
                  have d42 : ((v3.toInt) : Int) < (0) := ci_lt rfl rfl c41
                  refine ⟨Or.inl rfl, ?_⟩
                  intro o43
                  refine ⟨fun c44 => ?_, fun c44 => ?_⟩
                  · skip
                    refine w_X11_refuse ?_
                    have hB45 : Bd (uI I30 1 0 8) := Bd.o0 hB32 io9_112_1_11 (by decide) bd9_11_0
                    exact hQ _ _ _ _ hB45 trivial
                  · exact absurd c44 (by decide)
                · skip
                  have d46 : ((0) : Int) ≤ (v3.toInt) := ci_nlt rfl rfl c41
                  refine ⟨fun c47 => ?_, fun c47 => ?_⟩
                  · skip
                    have b48 := Bd.o hB32 io9_112_35_7 bd9_7_5
                    have d49 : (((I30 35 5).toInt) : Int) ≤ (v3.toInt) := ci_le rfl rfl c47
                    refine ⟨Or.inl rfl, ?_⟩
                    intro o50
                    refine ⟨fun c51 => ?_, fun c51 => ?_⟩
                    · skip
                      refine w_X11_refuse ?_
                      have hB52 : Bd (uI I30 1 0 8) := Bd.o0 hB32 io9_112_1_11 (by decide) bd9_11_0
                      exact hQ _ _ _ _ hB52 trivial
                    · exact absurd c51 (by decide)
                  · skip
                    have b53 := Bd.o hB32 io9_112_35_7 bd9_7_5
                    have d54 : ((v3.toInt) : Int) < ((I30 35 5).toInt) := ci_nle rfl rfl c47
                    refine ⟨Or.inr rfl, ?_⟩
                    intro o55
                    refine ⟨fun c56 => ?_, fun c56 => ?_⟩
                    · exact absurd c56 (by decide)
                    · skip
                      refine ⟨vp_of (a := v3.toInt) rfl (by omega) (by omega), ?_⟩
                      refine w_X11_answer ?_
                      have hB57 : Bd (uI I30 1 0 0) := Bd.o0 hB32 io9_112_1_11 (by decide) bd9_11_0
                      exact hQ _ _ _ _ hB57 trivial
            · skip
              have d58 : ((v2.toInt) : Int) < (1) := ci_nle rfl rfl c27
              refine sp_X7_findFewest hB0 hR0 (fun x59 y64 I60 J61 hB62 p63 => ?_)
              intro o65
              have i66 := i32 x59
              refine w_X11_answerSlice ?_
              refine ⟨fun c67 => ?_, fun c67 => ?_⟩
              · skip
                have d68 : ((x59.toInt) : Int) = (0) := ci_eq rfl rfl c67
                refine w_X11_refuse ?_
                have hB69 : Bd (uI I60 1 0 8) := Bd.o0 hB62 io9_112_1_11 (by decide) bd9_11_0
                exact hQ _ _ _ _ hB69 trivial
              · skip
                have d70 : ¬ ((x59.toInt) : Int) = (0) := ci_ne rfl rfl c67
                refine w_X7_hasBest ?_
                refine ⟨fun c71 => ?_, fun c71 => ?_⟩
                · skip
                  have d72 : ((v3.toInt) : Int) < (0) := ci_lt rfl rfl c71
                  refine ⟨Or.inl rfl, ?_⟩
                  intro o73
                  refine ⟨fun c74 => ?_, fun c74 => ?_⟩
                  · skip
                    refine w_X11_refuse ?_
                    have hB75 : Bd (uI I60 1 0 8) := Bd.o0 hB62 io9_112_1_11 (by decide) bd9_11_0
                    exact hQ _ _ _ _ hB75 trivial
                  · exact absurd c74 (by decide)
                · skip
                  have d76 : ((0) : Int) ≤ (v3.toInt) := ci_nlt rfl rfl c71
                  refine ⟨fun c77 => ?_, fun c77 => ?_⟩
                  · skip
                    have b78 := Bd.o hB62 io9_112_35_7 bd9_7_5
                    have d79 : (((I60 35 5).toInt) : Int) ≤ (v3.toInt) := ci_le rfl rfl c77
                    refine ⟨Or.inl rfl, ?_⟩
                    intro o80
                    refine ⟨fun c81 => ?_, fun c81 => ?_⟩
                    · skip
                      refine w_X11_refuse ?_
                      have hB82 : Bd (uI I60 1 0 8) := Bd.o0 hB62 io9_112_1_11 (by decide) bd9_11_0
                      exact hQ _ _ _ _ hB82 trivial
                    · exact absurd c81 (by decide)
                  · skip
                    have b83 := Bd.o hB62 io9_112_35_7 bd9_7_5
                    have d84 : ((v3.toInt) : Int) < ((I60 35 5).toInt) := ci_nle rfl rfl c77
                    refine ⟨Or.inr rfl, ?_⟩
                    intro o85
                    refine ⟨fun c86 => ?_, fun c86 => ?_⟩
                    · exact absurd c86 (by decide)
                    · skip
                      refine ⟨vp_of (a := v3.toInt) rfl (by omega) (by omega), ?_⟩
                      refine w_X11_answer ?_
                      have hB87 : Bd (uI I60 1 0 0) := Bd.o0 hB62 io9_112_1_11 (by decide) bd9_11_0
                      exact hQ _ _ _ _ hB87 trivial
          · exact absurd c26 (by decide)
set_option maxHeartbeats 2000000 in
theorem sp_X11_ways {d : Nat} {Q : Qt} {v1 : Int32} {v2 : Int32} {v3 : Int32} {I : Im} {J : Jm} {R : Rm} (hB0 : Bd I) (hR0 : RI R) (hQ : ∀ (x : Int32) (y : Int64) (I2 : Im) (J2 : Jm), Bd I2 → (True) → Q x y I2 J2 R) : AM (d + 14) 129 112 [.ref 1, .int v1, .int v2, .int v3] I J R Q := by
  have i_v1 := i32 v1
  have i_v2 := i32 v2
  have i_v3 := i32 v3
  refine w_X11_ways ?_
  refine w_X11_isShare ?_
  refine ⟨fun c1 => ?_, fun c1 => ?_⟩
  · skip
    have d2 : ((v1.toInt) : Int) < (1) := ci_lt rfl rfl c1
    refine ⟨Or.inl rfl, ?_⟩
    intro o3
    refine ⟨fun c4 => ?_, fun c4 => ?_⟩
    · skip
      refine w_X11_refuse ?_
      have hB5 : Bd (uI I 1 0 5) := Bd.o0 hB0 io9_112_1_11 (by decide) bd9_11_0
      exact hQ _ _ _ _ hB5 trivial
    · exact absurd c4 (by decide)
  · skip
    have d6 : ((1) : Int) ≤ (v1.toInt) := ci_nlt rfl rfl c1
    refine ⟨fun c7 => ?_, fun c7 => ?_⟩
    · skip
      have d8 : ((99) : Int) < (v1.toInt) := ci_lt rfl rfl c7
      refine ⟨Or.inl rfl, ?_⟩
      intro o9
      refine ⟨fun c10 => ?_, fun c10 => ?_⟩
      · skip
        refine w_X11_refuse ?_
        have hB11 : Bd (uI I 1 0 5) := Bd.o0 hB0 io9_112_1_11 (by decide) bd9_11_0
        exact hQ _ _ _ _ hB11 trivial
      · exact absurd c10 (by decide)
    · skip
      have d12 : ((v1.toInt) : Int) ≤ (99) := ci_nlt rfl rfl c7
      refine ⟨fun c13 => ?_, fun c13 => ?_⟩
      · skip
        have d14 : ((v2.toInt) : Int) < (1) := ci_lt rfl rfl c13
        refine ⟨Or.inl rfl, ?_⟩
        intro o15
        refine ⟨fun c16 => ?_, fun c16 => ?_⟩
        · skip
          refine w_X11_refuse ?_
          have hB17 : Bd (uI I 1 0 5) := Bd.o0 hB0 io9_112_1_11 (by decide) bd9_11_0
          exact hQ _ _ _ _ hB17 trivial
        · exact absurd c16 (by decide)
      · skip
        have d18 : ((1) : Int) ≤ (v2.toInt) := ci_nlt rfl rfl c13
        refine ⟨fun c19 => ?_, fun c19 => ?_⟩
        · skip
          have d20 : ((30) : Int) < (v2.toInt) := ci_lt rfl rfl c19
          refine ⟨Or.inl rfl, ?_⟩
          intro o21
          refine ⟨fun c22 => ?_, fun c22 => ?_⟩
          · skip
            refine w_X11_refuse ?_
            have hB23 : Bd (uI I 1 0 5) := Bd.o0 hB0 io9_112_1_11 (by decide) bd9_11_0
            exact hQ _ _ _ _ hB23 trivial
          · exact absurd c22 (by decide)
        · skip
          have d24 : ((v2.toInt) : Int) ≤ (30) := ci_nlt rfl rfl c19
          refine ⟨Or.inr rfl, ?_⟩
          intro o25
          refine ⟨fun c26 => ?_, fun c26 => ?_⟩
          · exact absurd c26 (by decide)
          · skip
            refine w_X11_isRowSize ?_
            refine ⟨fun c27 => ?_, fun c27 => ?_⟩
            · skip
              have d28 : ((v3.toInt) : Int) < (1) := ci_lt rfl rfl c27
              refine ⟨Or.inl rfl, ?_⟩
              intro o29
              refine ⟨fun c30 => ?_, fun c30 => ?_⟩
              · exact absurd c30 (by decide)
              · skip
                refine w_X11_refuse ?_
                have hB31 : Bd (uI I 1 0 5) := Bd.o0 hB0 io9_112_1_11 (by decide) bd9_11_0
                exact hQ _ _ _ _ hB31 trivial
            · skip
              have d32 : ((1) : Int) ≤ (v3.toInt) := ci_nlt rfl rfl c27
              refine ⟨fun c33 => ?_, fun c33 => ?_⟩
              · skip
                have d34 : ((5) : Int) < (v3.toInt) := ci_lt rfl rfl c33
                refine ⟨Or.inl rfl, ?_⟩
                intro o35
                refine ⟨fun c36 => ?_, fun c36 => ?_⟩
                · exact absurd c36 (by decide)
                · skip
                  refine w_X11_refuse ?_
                  have hB37 : Bd (uI I 1 0 5) := Bd.o0 hB0 io9_112_1_11 (by decide) bd9_11_0
                  exact hQ _ _ _ _ hB37 trivial
              · skip
                have d38 : ((v3.toInt) : Int) ≤ (5) := ci_nlt rfl rfl c33
                refine ⟨Or.inr rfl, ?_⟩
                intro o39
                refine ⟨fun c40 => ?_, fun c40 => ?_⟩
                · skip
                  refine ⟨(RI.now hR0).2, ?_⟩
                  refine bif_t (RI.now hR0).1 ?_
                  refine w_X11_crumbs ?_
                  refine ⟨fun c41 => ?_, fun c41 => ?_⟩
                  · skip
                    have d42 : ((1) : Int) ≤ (v2.toInt) := ci_le rfl rfl c41
                    refine ⟨(fun z => by have z2 : (v2.toInt : Int) = 0 := cl_eq (tl_i2l rfl) rfl z; omega), ?_⟩
                    refine sp_X7_countAll hB0 hR0 (by have z : (v3 : Int32).toInt = v3.toInt := rfl; omega) (fun x43 y48 I44 J45 hB46 p47 => ?_)
                    refine w_X11_answer ?_
                    have hB49 : Bd (uI I44 1 0 0) := Bd.o0 hB46 io9_112_1_11 (by decide) bd9_11_0
                    exact hQ _ _ _ _ hB49 trivial
                  · skip
                    have d50 : ((v2.toInt) : Int) < (1) := ci_nle rfl rfl c41
                    refine sp_X7_countAll hB0 hR0 (by have z : (v3 : Int32).toInt = v3.toInt := rfl; omega) (fun x51 y56 I52 J53 hB54 p55 => ?_)
                    refine w_X11_answer ?_
                    have hB57 : Bd (uI I52 1 0 0) := Bd.o0 hB54 io9_112_1_11 (by decide) bd9_11_0
                    exact hQ _ _ _ _ hB57 trivial
                · exact absurd c40 (by decide)
set_option maxHeartbeats 2000000 in
theorem sp_X11_oddsThat {d : Nat} {Q : Qt} {v1 : Int32} {v2 : Int32} {v3 : Int32} {v4 : Int32} {I : Im} {J : Jm} {R : Rm} (hB0 : Bd I) (hR0 : RI R) (hQ : ∀ (x : Int32) (y : Int64) (I2 : Im) (J2 : Jm), Bd I2 → (True) → Q x y I2 J2 R) : AM (d + 14) 130 112 [.ref 1, .int v1, .int v2, .int v3, .int v4] I J R Q := by
  have i_v1 := i32 v1
  have i_v2 := i32 v2
  have i_v3 := i32 v3
  have i_v4 := i32 v4
  refine w_X11_oddsThat ?_
  refine w_X11_isSlice ?_
  refine ⟨fun c1 => ?_, fun c1 => ?_⟩
  · skip
    have d2 : ((v4.toInt) : Int) < (1) := ci_lt rfl rfl c1
    refine ⟨Or.inl rfl, ?_⟩
    intro o3
    refine ⟨fun c4 => ?_, fun c4 => ?_⟩
    · exact absurd c4 (by decide)
    · skip
      refine w_X11_deny ?_
      have hB5 : Bd (uI I 1 0 2) := Bd.o0 hB0 io9_112_1_11 (by decide) bd9_11_0
      refine ⟨Or.inl rfl, ?_⟩
      intro o6
      refine ⟨Or.inl rfl, ?_⟩
      exact hQ _ _ _ _ hB5 trivial
  · skip
    have d7 : ((1) : Int) ≤ (v4.toInt) := ci_nlt rfl rfl c1
    refine ⟨fun c8 => ?_, fun c8 => ?_⟩
    · skip
      have d9 : ((30) : Int) < (v4.toInt) := ci_lt rfl rfl c8
      refine ⟨Or.inl rfl, ?_⟩
      intro o10
      refine ⟨fun c11 => ?_, fun c11 => ?_⟩
      · exact absurd c11 (by decide)
      · skip
        refine w_X11_deny ?_
        have hB12 : Bd (uI I 1 0 2) := Bd.o0 hB0 io9_112_1_11 (by decide) bd9_11_0
        refine ⟨Or.inl rfl, ?_⟩
        intro o13
        refine ⟨Or.inl rfl, ?_⟩
        exact hQ _ _ _ _ hB12 trivial
    · skip
      have d14 : ((v4.toInt) : Int) ≤ (30) := ci_nlt rfl rfl c8
      refine ⟨Or.inr rfl, ?_⟩
      intro o15
      refine ⟨fun c16 => ?_, fun c16 => ?_⟩
      · skip
        refine w_X11_isShare ?_
        refine ⟨fun c17 => ?_, fun c17 => ?_⟩
        · skip
          have d18 : ((v1.toInt) : Int) < (1) := ci_lt rfl rfl c17
          refine ⟨Or.inl rfl, ?_⟩
          intro o19
          refine ⟨fun c20 => ?_, fun c20 => ?_⟩
          · skip
            refine w_X11_deny ?_
            have hB21 : Bd (uI I 1 0 5) := Bd.o0 hB0 io9_112_1_11 (by decide) bd9_11_0
            refine ⟨Or.inl rfl, ?_⟩
            intro o22
            refine ⟨Or.inl rfl, ?_⟩
            exact hQ _ _ _ _ hB21 trivial
          · exact absurd c20 (by decide)
        · skip
          have d23 : ((1) : Int) ≤ (v1.toInt) := ci_nlt rfl rfl c17
          refine ⟨fun c24 => ?_, fun c24 => ?_⟩
          · skip
            have d25 : ((99) : Int) < (v1.toInt) := ci_lt rfl rfl c24
            refine ⟨Or.inl rfl, ?_⟩
            intro o26
            refine ⟨fun c27 => ?_, fun c27 => ?_⟩
            · skip
              refine w_X11_deny ?_
              have hB28 : Bd (uI I 1 0 5) := Bd.o0 hB0 io9_112_1_11 (by decide) bd9_11_0
              refine ⟨Or.inl rfl, ?_⟩
              intro o29
              refine ⟨Or.inl rfl, ?_⟩
              exact hQ _ _ _ _ hB28 trivial
            · exact absurd c27 (by decide)
          · skip
            have d30 : ((v1.toInt) : Int) ≤ (99) := ci_nlt rfl rfl c24
            refine ⟨fun c31 => ?_, fun c31 => ?_⟩
            · skip
              have d32 : ((v2.toInt) : Int) < (1) := ci_lt rfl rfl c31
              refine ⟨Or.inl rfl, ?_⟩
              intro o33
              refine ⟨fun c34 => ?_, fun c34 => ?_⟩
              · skip
                refine w_X11_deny ?_
                have hB35 : Bd (uI I 1 0 5) := Bd.o0 hB0 io9_112_1_11 (by decide) bd9_11_0
                refine ⟨Or.inl rfl, ?_⟩
                intro o36
                refine ⟨Or.inl rfl, ?_⟩
                exact hQ _ _ _ _ hB35 trivial
              · exact absurd c34 (by decide)
            · skip
              have d37 : ((1) : Int) ≤ (v2.toInt) := ci_nlt rfl rfl c31
              refine ⟨fun c38 => ?_, fun c38 => ?_⟩
              · skip
                have d39 : ((30) : Int) < (v2.toInt) := ci_lt rfl rfl c38
                refine ⟨Or.inl rfl, ?_⟩
                intro o40
                refine ⟨fun c41 => ?_, fun c41 => ?_⟩
                · skip
                  refine w_X11_deny ?_
                  have hB42 : Bd (uI I 1 0 5) := Bd.o0 hB0 io9_112_1_11 (by decide) bd9_11_0
                  refine ⟨Or.inl rfl, ?_⟩
                  intro o43
                  refine ⟨Or.inl rfl, ?_⟩
                  exact hQ _ _ _ _ hB42 trivial
                · exact absurd c41 (by decide)
              · skip
                have d44 : ((v2.toInt) : Int) ≤ (30) := ci_nlt rfl rfl c38
                refine ⟨Or.inr rfl, ?_⟩
                intro o45
                refine ⟨fun c46 => ?_, fun c46 => ?_⟩
                · exact absurd c46 (by decide)
                · skip
                  refine w_X11_isRowSize ?_
                  refine ⟨fun c47 => ?_, fun c47 => ?_⟩
                  · skip
                    have d48 : ((v3.toInt) : Int) < (1) := ci_lt rfl rfl c47
                    refine ⟨Or.inl rfl, ?_⟩
                    intro o49
                    refine ⟨fun c50 => ?_, fun c50 => ?_⟩
                    · exact absurd c50 (by decide)
                    · skip
                      refine w_X11_deny ?_
                      have hB51 : Bd (uI I 1 0 5) := Bd.o0 hB0 io9_112_1_11 (by decide) bd9_11_0
                      refine ⟨Or.inl rfl, ?_⟩
                      intro o52
                      refine ⟨Or.inl rfl, ?_⟩
                      exact hQ _ _ _ _ hB51 trivial
                  · skip
                    have d53 : ((1) : Int) ≤ (v3.toInt) := ci_nlt rfl rfl c47
                    refine ⟨fun c54 => ?_, fun c54 => ?_⟩
                    · skip
                      have d55 : ((5) : Int) < (v3.toInt) := ci_lt rfl rfl c54
                      refine ⟨Or.inl rfl, ?_⟩
                      intro o56
                      refine ⟨fun c57 => ?_, fun c57 => ?_⟩
                      · exact absurd c57 (by decide)
                      · skip
                        refine w_X11_deny ?_
                        have hB58 : Bd (uI I 1 0 5) := Bd.o0 hB0 io9_112_1_11 (by decide) bd9_11_0
                        refine ⟨Or.inl rfl, ?_⟩
                        intro o59
                        refine ⟨Or.inl rfl, ?_⟩
                        exact hQ _ _ _ _ hB58 trivial
                    · skip
                      have d60 : ((v3.toInt) : Int) ≤ (5) := ci_nlt rfl rfl c54
                      refine ⟨Or.inr rfl, ?_⟩
                      intro o61
                      refine ⟨fun c62 => ?_, fun c62 => ?_⟩
                      · skip
                        refine ⟨(RI.now hR0).2, ?_⟩
                        refine bif_t (RI.now hR0).1 ?_
                        refine w_X11_crumbs ?_
                        refine ⟨fun c63 => ?_, fun c63 => ?_⟩
                        · skip
                          have d64 : ((1) : Int) ≤ (v2.toInt) := ci_le rfl rfl c63
                          refine ⟨(fun z => by have z2 : (v2.toInt : Int) = 0 := cl_eq (tl_i2l rfl) rfl z; omega), ?_⟩
                          refine sp_X7_countAll hB0 hR0 (by have z : (v3 : Int32).toInt = v3.toInt := rfl; omega) (fun x65 y70 I66 J67 hB68 p69 => ?_)
                          refine ⟨fun c71 => ?_, fun c71 => ?_⟩
                          · skip
                            have d72 : ¬ (((I66 35 6).toInt) : Int) = (0) := ci_ne rfl rfl c71
                            refine ⟨vp_of (a := v4.toInt) rfl (by omega) (by omega), ?_⟩
                            refine sp_X11_tell hB68 hR0 (fun x73 y78 I74 J75 hB76 p77 => ?_)
                            intro o79
                            have i80 := i32 x73
                            refine ⟨o79, ?_⟩
                            exact hQ _ _ _ _ hB76 trivial
                          · skip
                            have d81 : (((I66 35 6).toInt) : Int) = (0) := ci_eq rfl rfl c71
                            refine w_X11_deny ?_
                            have hB82 : Bd (uI I66 1 0 8) := Bd.o0 hB68 io9_112_1_11 (by decide) bd9_11_0
                            refine ⟨Or.inl rfl, ?_⟩
                            intro o83
                            refine ⟨Or.inl rfl, ?_⟩
                            exact hQ _ _ _ _ hB82 trivial
                        · skip
                          have d84 : ((v2.toInt) : Int) < (1) := ci_nle rfl rfl c63
                          refine sp_X7_countAll hB0 hR0 (by have z : (v3 : Int32).toInt = v3.toInt := rfl; omega) (fun x85 y90 I86 J87 hB88 p89 => ?_)
                          refine ⟨fun c91 => ?_, fun c91 => ?_⟩
                          · skip
                            have d92 : ¬ (((I86 35 6).toInt) : Int) = (0) := ci_ne rfl rfl c91
                            refine ⟨vp_of (a := v4.toInt) rfl (by omega) (by omega), ?_⟩
                            refine sp_X11_tell hB88 hR0 (fun x93 y98 I94 J95 hB96 p97 => ?_)
                            intro o99
                            have i100 := i32 x93
                            refine ⟨o99, ?_⟩
                            exact hQ _ _ _ _ hB96 trivial
                          · skip
                            have d101 : (((I86 35 6).toInt) : Int) = (0) := ci_eq rfl rfl c91
                            refine w_X11_deny ?_
                            have hB102 : Bd (uI I86 1 0 8) := Bd.o0 hB88 io9_112_1_11 (by decide) bd9_11_0
                            refine ⟨Or.inl rfl, ?_⟩
                            intro o103
                            refine ⟨Or.inl rfl, ?_⟩
                            exact hQ _ _ _ _ hB102 trivial
                      · exact absurd c62 (by decide)
      · exact absurd c16 (by decide)
set_option maxHeartbeats 2000000 in
theorem sp_X11_ask {d : Nat} {Q : Qt} {v1 : Int32} {v2 : Int32} {v3 : Int32} {I : Im} {J : Jm} {R : Rm} (hB0 : Bd I) (hR0 : RI R) (hQ : ∀ (x : Int32) (y : Int64) (I2 : Im) (J2 : Jm), Bd I2 → (True) → Q x y I2 J2 R) : AM (d + 14) 131 112 [.ref 1, .int v1, .int v2, .int v3] I J R Q := by
  have i_v1 := i32 v1
  have i_v2 := i32 v2
  have i_v3 := i32 v3
  refine w_X11_ask ?_
  refine w_X11_isShare ?_
  refine ⟨fun c1 => ?_, fun c1 => ?_⟩
  · skip
    have d2 : ((v1.toInt) : Int) < (1) := ci_lt rfl rfl c1
    refine ⟨Or.inl rfl, ?_⟩
    intro o3
    refine ⟨fun c4 => ?_, fun c4 => ?_⟩
    · skip
      refine w_X11_refuse ?_
      have hB5 : Bd (uI I 1 0 5) := Bd.o0 hB0 io9_112_1_11 (by decide) bd9_11_0
      exact hQ _ _ _ _ hB5 trivial
    · exact absurd c4 (by decide)
  · skip
    have d6 : ((1) : Int) ≤ (v1.toInt) := ci_nlt rfl rfl c1
    refine ⟨fun c7 => ?_, fun c7 => ?_⟩
    · skip
      have d8 : ((99) : Int) < (v1.toInt) := ci_lt rfl rfl c7
      refine ⟨Or.inl rfl, ?_⟩
      intro o9
      refine ⟨fun c10 => ?_, fun c10 => ?_⟩
      · skip
        refine w_X11_refuse ?_
        have hB11 : Bd (uI I 1 0 5) := Bd.o0 hB0 io9_112_1_11 (by decide) bd9_11_0
        exact hQ _ _ _ _ hB11 trivial
      · exact absurd c10 (by decide)
    · skip
      have d12 : ((v1.toInt) : Int) ≤ (99) := ci_nlt rfl rfl c7
      refine ⟨fun c13 => ?_, fun c13 => ?_⟩
      · skip
        have d14 : ((v2.toInt) : Int) < (1) := ci_lt rfl rfl c13
        refine ⟨Or.inl rfl, ?_⟩
        intro o15
        refine ⟨fun c16 => ?_, fun c16 => ?_⟩
        · skip
          refine w_X11_refuse ?_
          have hB17 : Bd (uI I 1 0 5) := Bd.o0 hB0 io9_112_1_11 (by decide) bd9_11_0
          exact hQ _ _ _ _ hB17 trivial
        · exact absurd c16 (by decide)
      · skip
        have d18 : ((1) : Int) ≤ (v2.toInt) := ci_nlt rfl rfl c13
        refine ⟨fun c19 => ?_, fun c19 => ?_⟩
        · skip
          have d20 : ((30) : Int) < (v2.toInt) := ci_lt rfl rfl c19
          refine ⟨Or.inl rfl, ?_⟩
          intro o21
          refine ⟨fun c22 => ?_, fun c22 => ?_⟩
          · skip
            refine w_X11_refuse ?_
            have hB23 : Bd (uI I 1 0 5) := Bd.o0 hB0 io9_112_1_11 (by decide) bd9_11_0
            exact hQ _ _ _ _ hB23 trivial
          · exact absurd c22 (by decide)
        · skip
          have d24 : ((v2.toInt) : Int) ≤ (30) := ci_nlt rfl rfl c19
          refine ⟨Or.inr rfl, ?_⟩
          intro o25
          refine ⟨fun c26 => ?_, fun c26 => ?_⟩
          · exact absurd c26 (by decide)
          · skip
            refine w_X11_isRowSize ?_
            refine ⟨fun c27 => ?_, fun c27 => ?_⟩
            · skip
              have d28 : ((v3.toInt) : Int) < (1) := ci_lt rfl rfl c27
              refine ⟨Or.inl rfl, ?_⟩
              intro o29
              refine ⟨fun c30 => ?_, fun c30 => ?_⟩
              · exact absurd c30 (by decide)
              · skip
                refine w_X11_refuse ?_
                have hB31 : Bd (uI I 1 0 5) := Bd.o0 hB0 io9_112_1_11 (by decide) bd9_11_0
                exact hQ _ _ _ _ hB31 trivial
            · skip
              have d32 : ((1) : Int) ≤ (v3.toInt) := ci_nlt rfl rfl c27
              refine ⟨fun c33 => ?_, fun c33 => ?_⟩
              · skip
                have d34 : ((5) : Int) < (v3.toInt) := ci_lt rfl rfl c33
                refine ⟨Or.inl rfl, ?_⟩
                intro o35
                refine ⟨fun c36 => ?_, fun c36 => ?_⟩
                · exact absurd c36 (by decide)
                · skip
                  refine w_X11_refuse ?_
                  have hB37 : Bd (uI I 1 0 5) := Bd.o0 hB0 io9_112_1_11 (by decide) bd9_11_0
                  exact hQ _ _ _ _ hB37 trivial
              · skip
                have d38 : ((v3.toInt) : Int) ≤ (5) := ci_nlt rfl rfl c33
                refine ⟨Or.inr rfl, ?_⟩
                intro o39
                refine ⟨fun c40 => ?_, fun c40 => ?_⟩
                · skip
                  refine ⟨(RI.now hR0).2, ?_⟩
                  refine bif_t (RI.now hR0).1 ?_
                  refine w_X11_crumbs ?_
                  refine ⟨fun c41 => ?_, fun c41 => ?_⟩
                  · skip
                    have d42 : ((1) : Int) ≤ (v2.toInt) := ci_le rfl rfl c41
                    refine ⟨(fun z => by have z2 : (v2.toInt : Int) = 0 := cl_eq (tl_i2l rfl) rfl z; omega), ?_⟩
                    refine sp_X7_countAll hB0 hR0 (by have z : (v3 : Int32).toInt = v3.toInt := rfl; omega) (fun x43 y48 I44 J45 hB46 p47 => ?_)
                    refine ⟨fun c49 => ?_, fun c49 => ?_⟩
                    · skip
                      have d50 : ((2) : Int) ≤ ((I44 35 6).toInt) := ci_le rfl rfl c49
                      refine ⟨(RI.now hR0).2, ?_⟩
                      refine bif_t (RI.now hR0).1 ?_
                      refine sp_X7_bestQuestion hB46 hR0 (fun x51 y56 I52 J53 hB54 p55 => ?_)
                      have i57 := i32 x51
                      refine w_X11_answer ?_
                      have hB58 : Bd (uI I52 1 0 0) := Bd.o0 hB54 io9_112_1_11 (by decide) bd9_11_0
                      exact hQ _ _ _ _ hB58 trivial
                    · skip
                      have d59 : (((I44 35 6).toInt) : Int) < (2) := ci_nle rfl rfl c49
                      refine w_X11_refuse ?_
                      have hB60 : Bd (uI I44 1 0 8) := Bd.o0 hB46 io9_112_1_11 (by decide) bd9_11_0
                      exact hQ _ _ _ _ hB60 trivial
                  · skip
                    have d61 : ((v2.toInt) : Int) < (1) := ci_nle rfl rfl c41
                    refine sp_X7_countAll hB0 hR0 (by have z : (v3 : Int32).toInt = v3.toInt := rfl; omega) (fun x62 y67 I63 J64 hB65 p66 => ?_)
                    refine ⟨fun c68 => ?_, fun c68 => ?_⟩
                    · skip
                      have d69 : ((2) : Int) ≤ ((I63 35 6).toInt) := ci_le rfl rfl c68
                      refine ⟨(RI.now hR0).2, ?_⟩
                      refine bif_t (RI.now hR0).1 ?_
                      refine sp_X7_bestQuestion hB65 hR0 (fun x70 y75 I71 J72 hB73 p74 => ?_)
                      have i76 := i32 x70
                      refine w_X11_answer ?_
                      have hB77 : Bd (uI I71 1 0 0) := Bd.o0 hB73 io9_112_1_11 (by decide) bd9_11_0
                      exact hQ _ _ _ _ hB77 trivial
                    · skip
                      have d78 : (((I63 35 6).toInt) : Int) < (2) := ci_nle rfl rfl c68
                      refine w_X11_refuse ?_
                      have hB79 : Bd (uI I63 1 0 8) := Bd.o0 hB65 io9_112_1_11 (by decide) bd9_11_0
                      exact hQ _ _ _ _ hB79 trivial
                · exact absurd c40 (by decide)
set_option maxHeartbeats 2000000 in
theorem sp_X11_kindestAt {d : Nat} {Q : Qt} {v1 : Int32} {v2 : Int32} {v3 : Int32} {I : Im} {J : Jm} {R : Rm} (hB0 : Bd I) (hR0 : RI R) (hQ : ∀ (x : Int32) (y : Int64) (I2 : Im) (J2 : Jm), Bd I2 → (True) → Q x y I2 J2 R) : AM (d + 14) 132 112 [.ref 1, .int v1, .int v2, .int v3] I J R Q := by
  have i_v1 := i32 v1
  have i_v2 := i32 v2
  have i_v3 := i32 v3
  refine w_X11_kindestAt ?_
  refine w_X11_isShare ?_
  refine ⟨fun c1 => ?_, fun c1 => ?_⟩
  · skip
    have d2 : ((v1.toInt) : Int) < (1) := ci_lt rfl rfl c1
    refine ⟨Or.inl rfl, ?_⟩
    intro o3
    refine ⟨fun c4 => ?_, fun c4 => ?_⟩
    · exact absurd c4 (by decide)
    · skip
      refine w_X11_refuse ?_
      have hB5 : Bd (uI I 1 0 5) := Bd.o0 hB0 io9_112_1_11 (by decide) bd9_11_0
      exact hQ _ _ _ _ hB5 trivial
  · skip
    have d6 : ((1) : Int) ≤ (v1.toInt) := ci_nlt rfl rfl c1
    refine ⟨fun c7 => ?_, fun c7 => ?_⟩
    · skip
      have d8 : ((99) : Int) < (v1.toInt) := ci_lt rfl rfl c7
      refine ⟨Or.inl rfl, ?_⟩
      intro o9
      refine ⟨fun c10 => ?_, fun c10 => ?_⟩
      · exact absurd c10 (by decide)
      · skip
        refine w_X11_refuse ?_
        have hB11 : Bd (uI I 1 0 5) := Bd.o0 hB0 io9_112_1_11 (by decide) bd9_11_0
        exact hQ _ _ _ _ hB11 trivial
    · skip
      have d12 : ((v1.toInt) : Int) ≤ (99) := ci_nlt rfl rfl c7
      refine ⟨fun c13 => ?_, fun c13 => ?_⟩
      · skip
        have d14 : ((v2.toInt) : Int) < (1) := ci_lt rfl rfl c13
        refine ⟨Or.inl rfl, ?_⟩
        intro o15
        refine ⟨fun c16 => ?_, fun c16 => ?_⟩
        · exact absurd c16 (by decide)
        · skip
          refine w_X11_refuse ?_
          have hB17 : Bd (uI I 1 0 5) := Bd.o0 hB0 io9_112_1_11 (by decide) bd9_11_0
          exact hQ _ _ _ _ hB17 trivial
      · skip
        have d18 : ((1) : Int) ≤ (v2.toInt) := ci_nlt rfl rfl c13
        refine ⟨fun c19 => ?_, fun c19 => ?_⟩
        · skip
          have d20 : ((30) : Int) < (v2.toInt) := ci_lt rfl rfl c19
          refine ⟨Or.inl rfl, ?_⟩
          intro o21
          refine ⟨fun c22 => ?_, fun c22 => ?_⟩
          · exact absurd c22 (by decide)
          · skip
            refine w_X11_refuse ?_
            have hB23 : Bd (uI I 1 0 5) := Bd.o0 hB0 io9_112_1_11 (by decide) bd9_11_0
            exact hQ _ _ _ _ hB23 trivial
        · skip
          have d24 : ((v2.toInt) : Int) ≤ (30) := ci_nlt rfl rfl c19
          refine ⟨Or.inr rfl, ?_⟩
          intro o25
          refine ⟨fun c26 => ?_, fun c26 => ?_⟩
          · skip
            refine ⟨(RI.now hR0).2, ?_⟩
            refine bif_t (RI.now hR0).1 ?_
            refine w_X11_crumbs ?_
            refine ⟨fun c27 => ?_, fun c27 => ?_⟩
            · skip
              have d28 : ((1) : Int) ≤ (v2.toInt) := ci_le rfl rfl c27
              refine ⟨(fun z => by have z2 : (v2.toInt : Int) = 0 := cl_eq (tl_i2l rfl) rfl z; omega), ?_⟩
              refine sp_X7_findKindest hB0 hR0 (fun x29 y34 I30 J31 hB32 p33 => ?_)
              intro o35
              have i36 := i32 x29
              refine w_X11_answerSlice ?_
              refine ⟨fun c37 => ?_, fun c37 => ?_⟩
              · skip
                have d38 : ((x29.toInt) : Int) = (0) := ci_eq rfl rfl c37
                refine w_X11_refuse ?_
                have hB39 : Bd (uI I30 1 0 8) := Bd.o0 hB32 io9_112_1_11 (by decide) bd9_11_0
                exact hQ _ _ _ _ hB39 trivial
              · skip
                have d40 : ¬ ((x29.toInt) : Int) = (0) := ci_ne rfl rfl c37
                refine w_X7_hasBest ?_
                refine ⟨fun c41 => ?_, fun c41 => ?_⟩
                · skip
                  have d42 : ((v3.toInt) : Int) < (0) := ci_lt rfl rfl c41
                  refine ⟨Or.inl rfl, ?_⟩
                  intro o43
                  refine ⟨fun c44 => ?_, fun c44 => ?_⟩
                  · skip
                    refine w_X11_refuse ?_
                    have hB45 : Bd (uI I30 1 0 8) := Bd.o0 hB32 io9_112_1_11 (by decide) bd9_11_0
                    exact hQ _ _ _ _ hB45 trivial
                  · exact absurd c44 (by decide)
                · skip
                  have d46 : ((0) : Int) ≤ (v3.toInt) := ci_nlt rfl rfl c41
                  refine ⟨fun c47 => ?_, fun c47 => ?_⟩
                  · skip
                    have b48 := Bd.o hB32 io9_112_35_7 bd9_7_5
                    have d49 : (((I30 35 5).toInt) : Int) ≤ (v3.toInt) := ci_le rfl rfl c47
                    refine ⟨Or.inl rfl, ?_⟩
                    intro o50
                    refine ⟨fun c51 => ?_, fun c51 => ?_⟩
                    · skip
                      refine w_X11_refuse ?_
                      have hB52 : Bd (uI I30 1 0 8) := Bd.o0 hB32 io9_112_1_11 (by decide) bd9_11_0
                      exact hQ _ _ _ _ hB52 trivial
                    · exact absurd c51 (by decide)
                  · skip
                    have b53 := Bd.o hB32 io9_112_35_7 bd9_7_5
                    have d54 : ((v3.toInt) : Int) < ((I30 35 5).toInt) := ci_nle rfl rfl c47
                    refine ⟨Or.inr rfl, ?_⟩
                    intro o55
                    refine ⟨fun c56 => ?_, fun c56 => ?_⟩
                    · exact absurd c56 (by decide)
                    · skip
                      refine ⟨vp_of (a := v3.toInt) rfl (by omega) (by omega), ?_⟩
                      refine w_X11_answer ?_
                      have hB57 : Bd (uI I30 1 0 0) := Bd.o0 hB32 io9_112_1_11 (by decide) bd9_11_0
                      exact hQ _ _ _ _ hB57 trivial
            · skip
              have d58 : ((v2.toInt) : Int) < (1) := ci_nle rfl rfl c27
              refine sp_X7_findKindest hB0 hR0 (fun x59 y64 I60 J61 hB62 p63 => ?_)
              intro o65
              have i66 := i32 x59
              refine w_X11_answerSlice ?_
              refine ⟨fun c67 => ?_, fun c67 => ?_⟩
              · skip
                have d68 : ((x59.toInt) : Int) = (0) := ci_eq rfl rfl c67
                refine w_X11_refuse ?_
                have hB69 : Bd (uI I60 1 0 8) := Bd.o0 hB62 io9_112_1_11 (by decide) bd9_11_0
                exact hQ _ _ _ _ hB69 trivial
              · skip
                have d70 : ¬ ((x59.toInt) : Int) = (0) := ci_ne rfl rfl c67
                refine w_X7_hasBest ?_
                refine ⟨fun c71 => ?_, fun c71 => ?_⟩
                · skip
                  have d72 : ((v3.toInt) : Int) < (0) := ci_lt rfl rfl c71
                  refine ⟨Or.inl rfl, ?_⟩
                  intro o73
                  refine ⟨fun c74 => ?_, fun c74 => ?_⟩
                  · skip
                    refine w_X11_refuse ?_
                    have hB75 : Bd (uI I60 1 0 8) := Bd.o0 hB62 io9_112_1_11 (by decide) bd9_11_0
                    exact hQ _ _ _ _ hB75 trivial
                  · exact absurd c74 (by decide)
                · skip
                  have d76 : ((0) : Int) ≤ (v3.toInt) := ci_nlt rfl rfl c71
                  refine ⟨fun c77 => ?_, fun c77 => ?_⟩
                  · skip
                    have b78 := Bd.o hB62 io9_112_35_7 bd9_7_5
                    have d79 : (((I60 35 5).toInt) : Int) ≤ (v3.toInt) := ci_le rfl rfl c77
                    refine ⟨Or.inl rfl, ?_⟩
                    intro o80
                    refine ⟨fun c81 => ?_, fun c81 => ?_⟩
                    · skip
                      refine w_X11_refuse ?_
                      have hB82 : Bd (uI I60 1 0 8) := Bd.o0 hB62 io9_112_1_11 (by decide) bd9_11_0
                      exact hQ _ _ _ _ hB82 trivial
                    · exact absurd c81 (by decide)
                  · skip
                    have b83 := Bd.o hB62 io9_112_35_7 bd9_7_5
                    have d84 : ((v3.toInt) : Int) < ((I60 35 5).toInt) := ci_nle rfl rfl c77
                    refine ⟨Or.inr rfl, ?_⟩
                    intro o85
                    refine ⟨fun c86 => ?_, fun c86 => ?_⟩
                    · exact absurd c86 (by decide)
                    · skip
                      refine ⟨vp_of (a := v3.toInt) rfl (by omega) (by omega), ?_⟩
                      refine w_X11_answer ?_
                      have hB87 : Bd (uI I60 1 0 0) := Bd.o0 hB62 io9_112_1_11 (by decide) bd9_11_0
                      exact hQ _ _ _ _ hB87 trivial
          · exact absurd c26 (by decide)
set_option maxHeartbeats 2000000 in
theorem sp_X11_greedyAt {d : Nat} {Q : Qt} {v1 : Int32} {v2 : Int32} {v3 : Int32} {I : Im} {J : Jm} {R : Rm} (hB0 : Bd I) (hR0 : RI R) (hQ : ∀ (x : Int32) (y : Int64) (I2 : Im) (J2 : Jm), Bd I2 → (True) → Q x y I2 J2 R) : AM (d + 3) 133 112 [.ref 1, .int v1, .int v2, .int v3] I J R Q := by
  have i_v1 := i32 v1
  have i_v2 := i32 v2
  have i_v3 := i32 v3
  refine w_X11_greedyAt ?_
  refine w_X11_isShare ?_
  refine ⟨fun c1 => ?_, fun c1 => ?_⟩
  · skip
    have d2 : ((v1.toInt) : Int) < (1) := ci_lt rfl rfl c1
    refine ⟨Or.inl rfl, ?_⟩
    intro o3
    refine ⟨fun c4 => ?_, fun c4 => ?_⟩
    · skip
      refine w_X11_refuse ?_
      have hB5 : Bd (uI I 1 0 5) := Bd.o0 hB0 io9_112_1_11 (by decide) bd9_11_0
      exact hQ _ _ _ _ hB5 trivial
    · exact absurd c4 (by decide)
  · skip
    have d6 : ((1) : Int) ≤ (v1.toInt) := ci_nlt rfl rfl c1
    refine ⟨fun c7 => ?_, fun c7 => ?_⟩
    · skip
      have d8 : ((99) : Int) < (v1.toInt) := ci_lt rfl rfl c7
      refine ⟨Or.inl rfl, ?_⟩
      intro o9
      refine ⟨fun c10 => ?_, fun c10 => ?_⟩
      · skip
        refine w_X11_refuse ?_
        have hB11 : Bd (uI I 1 0 5) := Bd.o0 hB0 io9_112_1_11 (by decide) bd9_11_0
        exact hQ _ _ _ _ hB11 trivial
      · exact absurd c10 (by decide)
    · skip
      have d12 : ((v1.toInt) : Int) ≤ (99) := ci_nlt rfl rfl c7
      refine ⟨fun c13 => ?_, fun c13 => ?_⟩
      · skip
        have d14 : ((v2.toInt) : Int) < (1) := ci_lt rfl rfl c13
        refine ⟨Or.inl rfl, ?_⟩
        intro o15
        refine ⟨fun c16 => ?_, fun c16 => ?_⟩
        · skip
          refine w_X11_refuse ?_
          have hB17 : Bd (uI I 1 0 5) := Bd.o0 hB0 io9_112_1_11 (by decide) bd9_11_0
          exact hQ _ _ _ _ hB17 trivial
        · exact absurd c16 (by decide)
      · skip
        have d18 : ((1) : Int) ≤ (v2.toInt) := ci_nlt rfl rfl c13
        refine ⟨fun c19 => ?_, fun c19 => ?_⟩
        · skip
          have d20 : ((30) : Int) < (v2.toInt) := ci_lt rfl rfl c19
          refine ⟨Or.inl rfl, ?_⟩
          intro o21
          refine ⟨fun c22 => ?_, fun c22 => ?_⟩
          · skip
            refine w_X11_refuse ?_
            have hB23 : Bd (uI I 1 0 5) := Bd.o0 hB0 io9_112_1_11 (by decide) bd9_11_0
            exact hQ _ _ _ _ hB23 trivial
          · exact absurd c22 (by decide)
        · skip
          have d24 : ((v2.toInt) : Int) ≤ (30) := ci_nlt rfl rfl c19
          refine ⟨Or.inr rfl, ?_⟩
          intro o25
          refine ⟨fun c26 => ?_, fun c26 => ?_⟩
          · exact absurd c26 (by decide)
          · skip
            refine ⟨fun c27 => ?_, fun c27 => ?_⟩
            · skip
              have d28 : ((v1.toInt) : Int) < (v2.toInt) := ci_lt rfl rfl c27
              refine ⟨fun c29 => ?_, fun c29 => ?_⟩
              · skip
                have d30 : ((0) : Int) ≤ (v3.toInt) := ci_le rfl rfl c29
                refine sp_X11_greedyNumber hB0 hR0 (fun x31 y36 I32 J33 hB34 p35 => ?_)
                refine ⟨fun c37 => ?_, fun c37 => ?_⟩
                · skip
                  rw [lg_cmp_eq] at c37
                  have d38 : ¬ (((y36 : Int64).toInt) : Int) = (0) := cl_ne rfl rfl c37
                  refine ⟨fun c39 => ?_, fun c39 => ?_⟩
                  · skip
                    rw [lg_cmp_le] at c39
                    have d40 : (((y36 : Int64).toInt) : Int) ≤ (100000000) := cl_le rfl rfl c39
                    refine w_X11_answer ?_
                    have hB41 : Bd (uI I32 1 0 0) := Bd.o0 hB34 io9_112_1_11 (by decide) bd9_11_0
                    exact hQ _ _ _ _ hB41 trivial
                  · skip
                    rw [lg_cmp_le] at c39
                    have d42 : ((100000000) : Int) < ((y36 : Int64).toInt) := cl_nle rfl rfl c39
                    refine w_X11_refuse ?_
                    have hB43 : Bd (uI I32 1 0 9) := Bd.o0 hB34 io9_112_1_11 (by decide) bd9_11_0
                    exact hQ _ _ _ _ hB43 trivial
                · skip
                  rw [lg_cmp_eq] at c37
                  have d44 : (((y36 : Int64).toInt) : Int) = (0) := cl_eq rfl rfl c37
                  refine w_X11_refuse ?_
                  have hB45 : Bd (uI I32 1 0 8) := Bd.o0 hB34 io9_112_1_11 (by decide) bd9_11_0
                  exact hQ _ _ _ _ hB45 trivial
              · skip
                have d46 : ((v3.toInt) : Int) < (0) := ci_nle rfl rfl c29
                refine ⟨fun c47 => ?_, fun c47 => ?_⟩
                · skip
                  rw [lg_cmp_eq] at c47
                  have d48 : ¬ ((0) : Int) = (0) := cl_ne rfl rfl c47
                  refine ⟨fun c49 => ?_, fun c49 => ?_⟩
                  · skip
                    rw [lg_cmp_le] at c49
                    have d50 : ((0) : Int) ≤ (100000000) := cl_le rfl rfl c49
                    refine w_X11_answer ?_
                    have hB51 : Bd (uI I 1 0 0) := Bd.o0 hB0 io9_112_1_11 (by decide) bd9_11_0
                    exact hQ _ _ _ _ hB51 trivial
                  · skip
                    rw [lg_cmp_le] at c49
                    have d52 : ((100000000) : Int) < (0) := cl_nle rfl rfl c49
                    refine w_X11_refuse ?_
                    have hB53 : Bd (uI I 1 0 9) := Bd.o0 hB0 io9_112_1_11 (by decide) bd9_11_0
                    exact hQ _ _ _ _ hB53 trivial
                · skip
                  rw [lg_cmp_eq] at c47
                  have d54 : ((0) : Int) = (0) := cl_eq rfl rfl c47
                  refine w_X11_refuse ?_
                  have hB55 : Bd (uI I 1 0 8) := Bd.o0 hB0 io9_112_1_11 (by decide) bd9_11_0
                  exact hQ _ _ _ _ hB55 trivial
            · skip
              have d56 : ((v2.toInt) : Int) ≤ (v1.toInt) := ci_nlt rfl rfl c27
              refine w_X11_refuse ?_
              have hB57 : Bd (uI I 1 0 5) := Bd.o0 hB0 io9_112_1_11 (by decide) bd9_11_0
              exact hQ _ _ _ _ hB57 trivial
set_option maxHeartbeats 2000000 in
theorem sp_X11_slips {d : Nat} {Q : Qt} {v1 : Int32} {v2 : Int32} {v3 : Int32} {v4 : Int32} {I : Im} {J : Jm} {R : Rm} (hB0 : Bd I) (hR0 : RI R) (hQ : ∀ (x : Int32) (y : Int64) (I2 : Im) (J2 : Jm), Bd I2 → (True) → Q x y I2 J2 R) : AM (d + 5) 134 112 [.ref 1, .int v1, .int v2, .int v3, .int v4] I J R Q := by
  have i_v1 := i32 v1
  have i_v2 := i32 v2
  have i_v3 := i32 v3
  have i_v4 := i32 v4
  refine w_X11_slips ?_
  refine sp_X11_slipStatus hB0 hR0 (fun x1 y6 I2 J3 hB4 p5 => ?_)
  have i7 := i32 x1
  refine ⟨fun c8 => ?_, fun c8 => ?_⟩
  · skip
    have d9 : ((x1.toInt) : Int) = (0) := ci_eq rfl rfl c8
    refine ⟨vp_of (a := v1.toInt) rfl (by omega) (by omega), ?_⟩
    have hr10 := RI.tray hR0 (Int32.toNatClampNeg v1) (by rw [tn_of rfl (by omega)]; omega)
    refine ⟨hr10.1, ?_⟩
    refine ⟨(RI.now hR0).2, ?_⟩
    refine bif_t (RI.now hR0).1 ?_
    refine w_X11_crumbs ?_
    refine ⟨fun c11 => ?_, fun c11 => ?_⟩
    · skip
      have d12 : ((1) : Int) ≤ (v4.toInt) := ci_le rfl rfl c11
      refine ⟨(fun z => by have z2 : (v4.toInt : Int) = 0 := cl_eq (tl_i2l rfl) rfl z; omega), ?_⟩
      refine sp_X8_findAll hB4 hR0 hr10.2 (fun x13 y18 I14 J15 hB16 p17 => ?_)
      refine w_X11_answer ?_
      have hB19 : Bd (uI I14 1 0 0) := Bd.o0 hB16 io9_112_1_11 (by decide) bd9_11_0
      exact hQ _ _ _ _ hB19 trivial
    · skip
      have d20 : ((v4.toInt) : Int) < (1) := ci_nle rfl rfl c11
      refine sp_X8_findAll hB4 hR0 hr10.2 (fun x21 y26 I22 J23 hB24 p25 => ?_)
      refine w_X11_answer ?_
      have hB27 : Bd (uI I22 1 0 0) := Bd.o0 hB24 io9_112_1_11 (by decide) bd9_11_0
      exact hQ _ _ _ _ hB27 trivial
  · skip
    have d28 : ¬ ((x1.toInt) : Int) = (0) := ci_ne rfl rfl c8
    refine w_X11_refuse ?_
    have hB29 : Bd (uI I2 1 0 x1) := Bd.o0 hB4 io9_112_1_11 (by decide) bd9_11_0
    exact hQ _ _ _ _ hB29 trivial
set_option maxHeartbeats 2000000 in
theorem sp_X11_reach {d : Nat} {Q : Qt} {v1 : Int32} {I : Im} {J : Jm} {R : Rm} (hB0 : Bd I) (hR0 : RI R) (hQ : ∀ (x : Int32) (y : Int64) (I2 : Im) (J2 : Jm), Bd I2 → (True) → Q x y I2 J2 R) : AM (d + 4) 136 112 [.ref 1, .int v1] I J R Q := by
  have i_v1 := i32 v1
  refine w_X11_reach ?_
  refine w_X11_isSlice ?_
  refine ⟨fun c1 => ?_, fun c1 => ?_⟩
  · skip
    have d2 : ((v1.toInt) : Int) < (1) := ci_lt rfl rfl c1
    refine ⟨Or.inl rfl, ?_⟩
    intro o3
    refine ⟨fun c4 => ?_, fun c4 => ?_⟩
    · exact absurd c4 (by decide)
    · skip
      refine w_X11_refuse ?_
      have hB5 : Bd (uI I 1 0 2) := Bd.o0 hB0 io9_112_1_11 (by decide) bd9_11_0
      exact hQ _ _ _ _ hB5 trivial
  · skip
    have d6 : ((1) : Int) ≤ (v1.toInt) := ci_nlt rfl rfl c1
    refine ⟨fun c7 => ?_, fun c7 => ?_⟩
    · skip
      have d8 : ((30) : Int) < (v1.toInt) := ci_lt rfl rfl c7
      refine ⟨Or.inl rfl, ?_⟩
      intro o9
      refine ⟨fun c10 => ?_, fun c10 => ?_⟩
      · exact absurd c10 (by decide)
      · skip
        refine w_X11_refuse ?_
        have hB11 : Bd (uI I 1 0 2) := Bd.o0 hB0 io9_112_1_11 (by decide) bd9_11_0
        exact hQ _ _ _ _ hB11 trivial
    · skip
      have d12 : ((v1.toInt) : Int) ≤ (30) := ci_nlt rfl rfl c7
      refine ⟨Or.inr rfl, ?_⟩
      intro o13
      refine ⟨fun c14 => ?_, fun c14 => ?_⟩
      · skip
        refine ⟨(RI.now hR0).2, ?_⟩
        refine bif_t (RI.now hR0).1 ?_
        refine sp_X0_stockSet hB0 hR0 (RI.now hR0).1 (fun x15 y20 I16 J17 hB18 p19 => ?_)
        have i21 := i32 x15
        refine sp_X5_find hB18 hR0 (by have z : (v1 : Int32).toInt = v1.toInt := rfl; omega) (fun x22 y27 I23 J24 hB25 p26 => ?_)
        intro o28
        have i29 := i32 x22
        refine ⟨fun c30 => ?_, fun c30 => ?_⟩
        · skip
          have d31 : ¬ ((x22.toInt) : Int) = (0) := ci_ne rfl rfl c30
          refine w_X11_answer ?_
          have hB32 : Bd (uI I23 1 0 0) := Bd.o0 hB25 io9_112_1_11 (by decide) bd9_11_0
          exact hQ _ _ _ _ hB32 trivial
        · skip
          have d33 : ((x22.toInt) : Int) = (0) := ci_eq rfl rfl c30
          refine w_X11_refuse ?_
          have hB34 : Bd (uI I23 1 0 8) := Bd.o0 hB25 io9_112_1_11 (by decide) bd9_11_0
          exact hQ _ _ _ _ hB34 trivial
      · exact absurd c14 (by decide)
set_option maxHeartbeats 2000000 in
theorem sp_X11_reachAt {d : Nat} {Q : Qt} {v1 : Int32} {v2 : Int32} {I : Im} {J : Jm} {R : Rm} (hB0 : Bd I) (hR0 : RI R) (hQ : ∀ (x : Int32) (y : Int64) (I2 : Im) (J2 : Jm), Bd I2 → (True) → Q x y I2 J2 R) : AM (d + 4) 137 112 [.ref 1, .int v1, .int v2] I J R Q := by
  have i_v1 := i32 v1
  have i_v2 := i32 v2
  refine w_X11_reachAt ?_
  refine w_X11_isSlice ?_
  refine ⟨fun c1 => ?_, fun c1 => ?_⟩
  · skip
    have d2 : ((v1.toInt) : Int) < (1) := ci_lt rfl rfl c1
    refine ⟨Or.inl rfl, ?_⟩
    intro o3
    refine ⟨fun c4 => ?_, fun c4 => ?_⟩
    · exact absurd c4 (by decide)
    · skip
      refine w_X11_refuse ?_
      have hB5 : Bd (uI I 1 0 2) := Bd.o0 hB0 io9_112_1_11 (by decide) bd9_11_0
      exact hQ _ _ _ _ hB5 trivial
  · skip
    have d6 : ((1) : Int) ≤ (v1.toInt) := ci_nlt rfl rfl c1
    refine ⟨fun c7 => ?_, fun c7 => ?_⟩
    · skip
      have d8 : ((30) : Int) < (v1.toInt) := ci_lt rfl rfl c7
      refine ⟨Or.inl rfl, ?_⟩
      intro o9
      refine ⟨fun c10 => ?_, fun c10 => ?_⟩
      · exact absurd c10 (by decide)
      · skip
        refine w_X11_refuse ?_
        have hB11 : Bd (uI I 1 0 2) := Bd.o0 hB0 io9_112_1_11 (by decide) bd9_11_0
        exact hQ _ _ _ _ hB11 trivial
    · skip
      have d12 : ((v1.toInt) : Int) ≤ (30) := ci_nlt rfl rfl c7
      refine ⟨Or.inr rfl, ?_⟩
      intro o13
      refine ⟨fun c14 => ?_, fun c14 => ?_⟩
      · skip
        refine ⟨(RI.now hR0).2, ?_⟩
        refine bif_t (RI.now hR0).1 ?_
        refine sp_X0_stockSet hB0 hR0 (RI.now hR0).1 (fun x15 y20 I16 J17 hB18 p19 => ?_)
        have i21 := i32 x15
        refine sp_X5_find hB18 hR0 (by have z : (v1 : Int32).toInt = v1.toInt := rfl; omega) (fun x22 y27 I23 J24 hB25 p26 => ?_)
        intro o28
        have i29 := i32 x22
        refine ⟨fun c30 => ?_, fun c30 => ?_⟩
        · skip
          have d31 : ((x22.toInt) : Int) = (0) := ci_eq rfl rfl c30
          refine w_X11_refuse ?_
          have hB32 : Bd (uI I23 1 0 8) := Bd.o0 hB25 io9_112_1_11 (by decide) bd9_11_0
          exact hQ _ _ _ _ hB32 trivial
        · skip
          have d33 : ¬ ((x22.toInt) : Int) = (0) := ci_ne rfl rfl c30
          refine ⟨fun c34 => ?_, fun c34 => ?_⟩
          · skip
            have d35 : ((v2.toInt) : Int) < (0) := ci_lt rfl rfl c34
            refine w_X11_refuse ?_
            have hB36 : Bd (uI I23 1 0 8) := Bd.o0 hB25 io9_112_1_11 (by decide) bd9_11_0
            exact hQ _ _ _ _ hB36 trivial
          · skip
            have d37 : ((0) : Int) ≤ (v2.toInt) := ci_nlt rfl rfl c34
            refine ⟨fun c38 => ?_, fun c38 => ?_⟩
            · skip
              have b39 := Bd.o hB25 io9_112_42_5 bd9_5_2
              have d40 : ((v2.toInt) : Int) < ((I23 42 2).toInt) := ci_lt rfl rfl c38
              refine ⟨vp_of (a := v2.toInt) rfl (by omega) (by omega), ?_⟩
              refine w_X11_answer ?_
              have hB41 : Bd (uI I23 1 0 0) := Bd.o0 hB25 io9_112_1_11 (by decide) bd9_11_0
              exact hQ _ _ _ _ hB41 trivial
            · skip
              have b42 := Bd.o hB25 io9_112_42_5 bd9_5_2
              have d43 : (((I23 42 2).toInt) : Int) ≤ (v2.toInt) := ci_nlt rfl rfl c38
              refine w_X11_refuse ?_
              have hB44 : Bd (uI I23 1 0 8) := Bd.o0 hB25 io9_112_1_11 (by decide) bd9_11_0
              exact hQ _ _ _ _ hB44 trivial
      · exact absurd c14 (by decide)
set_option maxHeartbeats 2000000 in
theorem sp_X11_fill {d : Nat} {Q : Qt} {v1 : Int32} {I : Im} {J : Jm} {R : Rm} (hB0 : Bd I) (hR0 : RI R) (hQ : ∀ (x : Int32) (y : Int64) (I2 : Im) (J2 : Jm), Bd I2 → (True) → Q x y I2 J2 R) : AM (d + 14) 138 112 [.ref 1, .int v1] I J R Q := by
  have i_v1 := i32 v1
  refine w_X11_fill ?_
  refine ⟨(RI.now hR0).2, ?_⟩
  refine bif_t (RI.now hR0).1 ?_
  refine w_X0_isMan ?_
  refine ⟨fun c1 => ?_, fun c1 => ?_⟩
  · skip
    have d2 : ((v1.toInt) : Int) < (0) := ci_lt rfl rfl c1
    refine ⟨Or.inl rfl, ?_⟩
    intro o3
    refine ⟨fun c4 => ?_, fun c4 => ?_⟩
    · exact absurd c4 (by decide)
    · skip
      refine w_X11_refuse ?_
      have hB5 : Bd (uI I 1 0 2) := Bd.o0 hB0 io9_112_1_11 (by decide) bd9_11_0
      exact hQ _ _ _ _ hB5 trivial
  · skip
    have d6 : ((0) : Int) ≤ (v1.toInt) := ci_nlt rfl rfl c1
    refine bif_t (RI.now hR0).1 ?_
    refine ⟨fun c7 => ?_, fun c7 => ?_⟩
    · skip
      have b8 := Bd.o hB0 (RI.now hR0).1 bd9_0_4
      have d9 : (((I (R 1 7) 4).toInt) : Int) ≤ (v1.toInt) := ci_le rfl rfl c7
      refine ⟨Or.inl rfl, ?_⟩
      intro o10
      refine ⟨fun c11 => ?_, fun c11 => ?_⟩
      · exact absurd c11 (by decide)
      · skip
        refine w_X11_refuse ?_
        have hB12 : Bd (uI I 1 0 2) := Bd.o0 hB0 io9_112_1_11 (by decide) bd9_11_0
        exact hQ _ _ _ _ hB12 trivial
    · skip
      have b13 := Bd.o hB0 (RI.now hR0).1 bd9_0_4
      have d14 : ((v1.toInt) : Int) < ((I (R 1 7) 4).toInt) := ci_nle rfl rfl c7
      refine ⟨Or.inr rfl, ?_⟩
      intro o15
      refine ⟨fun c16 => ?_, fun c16 => ?_⟩
      · skip
        refine ⟨(RI.now hR0).2, ?_⟩
        refine bif_t (RI.now hR0).1 ?_
        refine sp_X0_giftsFor hB0 hR0 (RI.now hR0).1 (by have z : (v1 : Int32).toInt = v1.toInt := rfl; omega) (fun x17 y22 I18 J19 hB20 p21 => ?_)
        have i23 := i32 x17
        refine ⟨(RI.now hR0).2, ?_⟩
        refine bif_t (RI.now hR0).1 ?_
        refine sp_X0_lacking hB20 hR0 (RI.now hR0).1 (by have z : (v1 : Int32).toInt = v1.toInt := rfl; omega) (fun x24 y29 I25 J26 hB27 p28 => ?_)
        refine sp_X7_findFewest hB27 hR0 (fun x30 y35 I31 J32 hB33 p34 => ?_)
        intro o36
        have i37 := i32 x30
        refine w_X11_answerSize ?_
        refine ⟨fun c38 => ?_, fun c38 => ?_⟩
        · skip
          have d39 : ((x30.toInt) : Int) = (0) := ci_eq rfl rfl c38
          refine w_X11_refuse ?_
          have hB40 : Bd (uI I31 1 0 8) := Bd.o0 hB33 io9_112_1_11 (by decide) bd9_11_0
          exact hQ _ _ _ _ hB40 trivial
        · skip
          have d41 : ¬ ((x30.toInt) : Int) = (0) := ci_ne rfl rfl c38
          refine w_X11_answer ?_
          have hB42 : Bd (uI I31 1 0 0) := Bd.o0 hB33 io9_112_1_11 (by decide) bd9_11_0
          exact hQ _ _ _ _ hB42 trivial
      · exact absurd c16 (by decide)
set_option maxHeartbeats 2000000 in
theorem sp_X11_fillAt {d : Nat} {Q : Qt} {v1 : Int32} {v2 : Int32} {I : Im} {J : Jm} {R : Rm} (hB0 : Bd I) (hR0 : RI R) (hQ : ∀ (x : Int32) (y : Int64) (I2 : Im) (J2 : Jm), Bd I2 → (True) → Q x y I2 J2 R) : AM (d + 14) 139 112 [.ref 1, .int v1, .int v2] I J R Q := by
  have i_v1 := i32 v1
  have i_v2 := i32 v2
  refine w_X11_fillAt ?_
  refine ⟨(RI.now hR0).2, ?_⟩
  refine bif_t (RI.now hR0).1 ?_
  refine w_X0_isMan ?_
  refine ⟨fun c1 => ?_, fun c1 => ?_⟩
  · skip
    have d2 : ((v1.toInt) : Int) < (0) := ci_lt rfl rfl c1
    refine ⟨Or.inl rfl, ?_⟩
    intro o3
    refine ⟨fun c4 => ?_, fun c4 => ?_⟩
    · exact absurd c4 (by decide)
    · skip
      refine w_X11_refuse ?_
      have hB5 : Bd (uI I 1 0 2) := Bd.o0 hB0 io9_112_1_11 (by decide) bd9_11_0
      exact hQ _ _ _ _ hB5 trivial
  · skip
    have d6 : ((0) : Int) ≤ (v1.toInt) := ci_nlt rfl rfl c1
    refine bif_t (RI.now hR0).1 ?_
    refine ⟨fun c7 => ?_, fun c7 => ?_⟩
    · skip
      have b8 := Bd.o hB0 (RI.now hR0).1 bd9_0_4
      have d9 : (((I (R 1 7) 4).toInt) : Int) ≤ (v1.toInt) := ci_le rfl rfl c7
      refine ⟨Or.inl rfl, ?_⟩
      intro o10
      refine ⟨fun c11 => ?_, fun c11 => ?_⟩
      · exact absurd c11 (by decide)
      · skip
        refine w_X11_refuse ?_
        have hB12 : Bd (uI I 1 0 2) := Bd.o0 hB0 io9_112_1_11 (by decide) bd9_11_0
        exact hQ _ _ _ _ hB12 trivial
    · skip
      have b13 := Bd.o hB0 (RI.now hR0).1 bd9_0_4
      have d14 : ((v1.toInt) : Int) < ((I (R 1 7) 4).toInt) := ci_nle rfl rfl c7
      refine ⟨Or.inr rfl, ?_⟩
      intro o15
      refine ⟨fun c16 => ?_, fun c16 => ?_⟩
      · skip
        refine ⟨(RI.now hR0).2, ?_⟩
        refine bif_t (RI.now hR0).1 ?_
        refine sp_X0_giftsFor hB0 hR0 (RI.now hR0).1 (by have z : (v1 : Int32).toInt = v1.toInt := rfl; omega) (fun x17 y22 I18 J19 hB20 p21 => ?_)
        have i23 := i32 x17
        refine ⟨(RI.now hR0).2, ?_⟩
        refine bif_t (RI.now hR0).1 ?_
        refine sp_X0_lacking hB20 hR0 (RI.now hR0).1 (by have z : (v1 : Int32).toInt = v1.toInt := rfl; omega) (fun x24 y29 I25 J26 hB27 p28 => ?_)
        refine sp_X7_findFewest hB27 hR0 (fun x30 y35 I31 J32 hB33 p34 => ?_)
        intro o36
        have i37 := i32 x30
        refine w_X11_answerSlice ?_
        refine ⟨fun c38 => ?_, fun c38 => ?_⟩
        · skip
          have d39 : ((x30.toInt) : Int) = (0) := ci_eq rfl rfl c38
          refine w_X11_refuse ?_
          have hB40 : Bd (uI I31 1 0 8) := Bd.o0 hB33 io9_112_1_11 (by decide) bd9_11_0
          exact hQ _ _ _ _ hB40 trivial
        · skip
          have d41 : ¬ ((x30.toInt) : Int) = (0) := ci_ne rfl rfl c38
          refine w_X7_hasBest ?_
          refine ⟨fun c42 => ?_, fun c42 => ?_⟩
          · skip
            have d43 : ((v2.toInt) : Int) < (0) := ci_lt rfl rfl c42
            refine ⟨Or.inl rfl, ?_⟩
            intro o44
            refine ⟨fun c45 => ?_, fun c45 => ?_⟩
            · skip
              refine w_X11_refuse ?_
              have hB46 : Bd (uI I31 1 0 8) := Bd.o0 hB33 io9_112_1_11 (by decide) bd9_11_0
              exact hQ _ _ _ _ hB46 trivial
            · exact absurd c45 (by decide)
          · skip
            have d47 : ((0) : Int) ≤ (v2.toInt) := ci_nlt rfl rfl c42
            refine ⟨fun c48 => ?_, fun c48 => ?_⟩
            · skip
              have b49 := Bd.o hB33 io9_112_35_7 bd9_7_5
              have d50 : (((I31 35 5).toInt) : Int) ≤ (v2.toInt) := ci_le rfl rfl c48
              refine ⟨Or.inl rfl, ?_⟩
              intro o51
              refine ⟨fun c52 => ?_, fun c52 => ?_⟩
              · skip
                refine w_X11_refuse ?_
                have hB53 : Bd (uI I31 1 0 8) := Bd.o0 hB33 io9_112_1_11 (by decide) bd9_11_0
                exact hQ _ _ _ _ hB53 trivial
              · exact absurd c52 (by decide)
            · skip
              have b54 := Bd.o hB33 io9_112_35_7 bd9_7_5
              have d55 : ((v2.toInt) : Int) < ((I31 35 5).toInt) := ci_nle rfl rfl c48
              refine ⟨Or.inr rfl, ?_⟩
              intro o56
              refine ⟨fun c57 => ?_, fun c57 => ?_⟩
              · exact absurd c57 (by decide)
              · skip
                refine ⟨vp_of (a := v2.toInt) rfl (by omega) (by omega), ?_⟩
                refine w_X11_answer ?_
                have hB58 : Bd (uI I31 1 0 0) := Bd.o0 hB33 io9_112_1_11 (by decide) bd9_11_0
                exact hQ _ _ _ _ hB58 trivial
      · exact absurd c16 (by decide)
set_option maxHeartbeats 2000000 in
theorem sp_X11_plate {d : Nat} {Q : Qt} {v1 : Int32} {I : Im} {J : Jm} {R : Rm} (hB0 : Bd I) (hR0 : RI R) (hQ : ∀ (x : Int32) (y : Int64) (I2 : Im) (J2 : Jm), Bd I2 → (True) → Q x y I2 J2 R) : AM (d + 4) 140 112 [.ref 1, .int v1] I J R Q := by
  have i_v1 := i32 v1
  refine w_X11_plate ?_
  refine sp_X11_isPlateSet hB0 hR0 (fun x1 y6 I2 J3 hB4 p5 => ?_)
  intro o7
  obtain ⟨heI2, p5⟩ := p5
  subst heI2
  have i8 := i32 x1
  refine ⟨fun c9 => ?_, fun c9 => ?_⟩
  · skip
    have d10 : ¬ ((x1.toInt) : Int) = (0) := ci_ne rfl rfl c9
    refine sp_X9_lay hB0 hR0 (fun x11 y16 I12 J13 hB14 p15 => ?_)
    refine sp_X9_firstWinning hB14 hR0 (fun x17 y22 I18 J19 hB20 p21 => ?_)
    have i23 := i32 x17
    refine ⟨fun c24 => ?_, fun c24 => ?_⟩
    · skip
      have d25 : ¬ ((x17.toInt) : Int) = ((-1)) := ci_ne rfl rfl c24
      refine w_X11_answer ?_
      have hB26 : Bd (uI I18 1 0 0) := Bd.o0 hB20 io9_112_1_11 (by decide) bd9_11_0
      exact hQ _ _ _ _ hB26 trivial
    · skip
      have d27 : ((x17.toInt) : Int) = ((-1)) := ci_eq rfl rfl c24
      refine w_X11_answer ?_
      have hB28 : Bd (uI I18 1 0 0) := Bd.o0 hB20 io9_112_1_11 (by decide) bd9_11_0
      exact hQ _ _ _ _ hB28 trivial
  · skip
    have d29 : ((x1.toInt) : Int) = (0) := ci_eq rfl rfl c9
    refine w_X11_refuse ?_
    have hB30 : Bd (uI I 1 0 5) := Bd.o0 hB0 io9_112_1_11 (by decide) bd9_11_0
    exact hQ _ _ _ _ hB30 trivial
set_option maxHeartbeats 2000000 in
theorem sp_X11_plateMove {d : Nat} {Q : Qt} {v1 : Int32} {I : Im} {J : Jm} {R : Rm} (hB0 : Bd I) (hR0 : RI R) (hQ : ∀ (x : Int32) (y : Int64) (I2 : Im) (J2 : Jm), Bd I2 → (True) → Q x y I2 J2 R) : AM (d + 4) 141 112 [.ref 1, .int v1] I J R Q := by
  have i_v1 := i32 v1
  refine w_X11_plateMove ?_
  refine sp_X11_isPlateSet hB0 hR0 (fun x1 y6 I2 J3 hB4 p5 => ?_)
  intro o7
  obtain ⟨heI2, p5⟩ := p5
  subst heI2
  have i8 := i32 x1
  refine ⟨fun c9 => ?_, fun c9 => ?_⟩
  · skip
    have d10 : ¬ ((x1.toInt) : Int) = (0) := ci_ne rfl rfl c9
    refine sp_X9_lay hB0 hR0 (fun x11 y16 I12 J13 hB14 p15 => ?_)
    refine sp_X9_firstWinning hB14 hR0 (fun x17 y22 I18 J19 hB20 p21 => ?_)
    have i23 := i32 x17
    refine ⟨fun c24 => ?_, fun c24 => ?_⟩
    · skip
      have d25 : ¬ ((x17.toInt) : Int) = ((-1)) := ci_ne rfl rfl c24
      refine ⟨vp_of (a := x17.toInt) rfl (by omega) (by omega), ?_⟩
      refine w_X11_answer ?_
      have hB26 : Bd (uI I18 1 0 0) := Bd.o0 hB20 io9_112_1_11 (by decide) bd9_11_0
      exact hQ _ _ _ _ hB26 trivial
    · skip
      have d27 : ((x17.toInt) : Int) = ((-1)) := ci_eq rfl rfl c24
      refine w_X11_refuse ?_
      have hB28 : Bd (uI I18 1 0 8) := Bd.o0 hB20 io9_112_1_11 (by decide) bd9_11_0
      exact hQ _ _ _ _ hB28 trivial
  · skip
    have d29 : ((x1.toInt) : Int) = (0) := ci_eq rfl rfl c9
    refine w_X11_refuse ?_
    have hB30 : Bd (uI I 1 0 5) := Bd.o0 hB0 io9_112_1_11 (by decide) bd9_11_0
    exact hQ _ _ _ _ hB30 trivial
set_option maxHeartbeats 2000000 in
theorem sp_X11_luck {d : Nat} {Q : Qt} {v1 : Int32} {v2 : Int32} {v3 : Int32} {v4 : Int32} {I : Im} {J : Jm} {R : Rm} (hB0 : Bd I) (hR0 : RI R) (hQ : ∀ (x : Int32) (y : Int64) (I2 : Im) (J2 : Jm), Bd I2 → ((0 ≤ x.toInt ∧ x.toInt ≤ 1 ∧ (x.toInt = 1 → 0 ≤ v1.toInt ∧ v1.toInt ≤ 1073741823 ∧ pcn v1 30 ≤ 12 ∧ 0 ≤ v2.toInt ∧ v2.toInt ≤ 12 ∧ 1 ≤ v3.toInt ∧ v3.toInt ≤ 99 ∧ 1 ≤ v4.toInt ∧ v4.toInt ≤ 30 ∧ v2.toInt ≤ pcn v1 30) ∧ (0 ≤ v1.toInt ∧ v1.toInt ≤ 1073741823 ∧ pcn v1 30 ≤ 12 ∧ 0 ≤ v2.toInt ∧ v2.toInt ≤ 12 ∧ 1 ≤ v3.toInt ∧ v3.toInt ≤ 99 ∧ 1 ≤ v4.toInt ∧ v4.toInt ≤ 30 ∧ v2.toInt ≤ pcn v1 30 → x.toInt = 1))) → Q x y I2 J2 R) : AM (d + 4) 142 112 [.ref 1, .int v1, .int v2, .int v3, .int v4] I J R Q := by
  have i_v1 := i32 v1
  have i_v2 := i32 v2
  have i_v3 := i32 v3
  have i_v4 := i32 v4
  refine w_X11_luck ?_
  refine sp_X11_isPlateSet hB0 hR0 (fun x1 y6 I2 J3 hB4 p5 => ?_)
  intro o7
  obtain ⟨heI2, p5⟩ := p5
  subst heI2
  have i8 := i32 x1
  refine ⟨fun c9 => ?_, fun c9 => ?_⟩
  · skip
    have d10 : ((x1.toInt) : Int) = (0) := ci_eq rfl rfl c9
    refine w_X11_deny ?_
    have hB11 : Bd (uI I 1 0 5) := Bd.o0 hB0 io9_112_1_11 (by decide) bd9_11_0
    refine ⟨Or.inl rfl, ?_⟩
    intro o12
    refine ⟨Or.inl rfl, ?_⟩
    exact hQ _ _ _ _ hB11 (by have q0 : (0 : Int32).toInt = 0 := rfl; omega)
  · skip
    have d13 : ¬ ((x1.toInt) : Int) = (0) := ci_ne rfl rfl c9
    refine ⟨fun c14 => ?_, fun c14 => ?_⟩
    · skip
      have d15 : ((v2.toInt) : Int) < (0) := ci_lt rfl rfl c14
      refine w_X11_deny ?_
      have hB16 : Bd (uI I 1 0 5) := Bd.o0 hB0 io9_112_1_11 (by decide) bd9_11_0
      refine ⟨Or.inl rfl, ?_⟩
      intro o17
      refine ⟨Or.inl rfl, ?_⟩
      exact hQ _ _ _ _ hB16 (by have q0 : (0 : Int32).toInt = 0 := rfl; omega)
    · skip
      have d18 : ((0) : Int) ≤ (v2.toInt) := ci_nlt rfl rfl c14
      refine ⟨fun c19 => ?_, fun c19 => ?_⟩
      · skip
        have d20 : ((12) : Int) < (v2.toInt) := ci_lt rfl rfl c19
        refine w_X11_deny ?_
        have hB21 : Bd (uI I 1 0 5) := Bd.o0 hB0 io9_112_1_11 (by decide) bd9_11_0
        refine ⟨Or.inl rfl, ?_⟩
        intro o22
        refine ⟨Or.inl rfl, ?_⟩
        exact hQ _ _ _ _ hB21 (by have q0 : (0 : Int32).toInt = 0 := rfl; omega)
      · skip
        have d23 : ((v2.toInt) : Int) ≤ (12) := ci_nlt rfl rfl c19
        refine w_X11_isShare ?_
        refine ⟨fun c24 => ?_, fun c24 => ?_⟩
        · skip
          have d25 : ((v3.toInt) : Int) < (1) := ci_lt rfl rfl c24
          refine ⟨Or.inl rfl, ?_⟩
          intro o26
          refine ⟨fun c27 => ?_, fun c27 => ?_⟩
          · exact absurd c27 (by decide)
          · skip
            refine w_X11_deny ?_
            have hB28 : Bd (uI I 1 0 5) := Bd.o0 hB0 io9_112_1_11 (by decide) bd9_11_0
            refine ⟨Or.inl rfl, ?_⟩
            intro o29
            refine ⟨Or.inl rfl, ?_⟩
            exact hQ _ _ _ _ hB28 (by have q0 : (0 : Int32).toInt = 0 := rfl; omega)
        · skip
          have d30 : ((1) : Int) ≤ (v3.toInt) := ci_nlt rfl rfl c24
          refine ⟨fun c31 => ?_, fun c31 => ?_⟩
          · skip
            have d32 : ((99) : Int) < (v3.toInt) := ci_lt rfl rfl c31
            refine ⟨Or.inl rfl, ?_⟩
            intro o33
            refine ⟨fun c34 => ?_, fun c34 => ?_⟩
            · exact absurd c34 (by decide)
            · skip
              refine w_X11_deny ?_
              have hB35 : Bd (uI I 1 0 5) := Bd.o0 hB0 io9_112_1_11 (by decide) bd9_11_0
              refine ⟨Or.inl rfl, ?_⟩
              intro o36
              refine ⟨Or.inl rfl, ?_⟩
              exact hQ _ _ _ _ hB35 (by have q0 : (0 : Int32).toInt = 0 := rfl; omega)
          · skip
            have d37 : ((v3.toInt) : Int) ≤ (99) := ci_nlt rfl rfl c31
            refine ⟨fun c38 => ?_, fun c38 => ?_⟩
            · skip
              have d39 : ((v4.toInt) : Int) < (1) := ci_lt rfl rfl c38
              refine ⟨Or.inl rfl, ?_⟩
              intro o40
              refine ⟨fun c41 => ?_, fun c41 => ?_⟩
              · exact absurd c41 (by decide)
              · skip
                refine w_X11_deny ?_
                have hB42 : Bd (uI I 1 0 5) := Bd.o0 hB0 io9_112_1_11 (by decide) bd9_11_0
                refine ⟨Or.inl rfl, ?_⟩
                intro o43
                refine ⟨Or.inl rfl, ?_⟩
                exact hQ _ _ _ _ hB42 (by have q0 : (0 : Int32).toInt = 0 := rfl; omega)
            · skip
              have d44 : ((1) : Int) ≤ (v4.toInt) := ci_nlt rfl rfl c38
              refine ⟨fun c45 => ?_, fun c45 => ?_⟩
              · skip
                have d46 : ((30) : Int) < (v4.toInt) := ci_lt rfl rfl c45
                refine ⟨Or.inl rfl, ?_⟩
                intro o47
                refine ⟨fun c48 => ?_, fun c48 => ?_⟩
                · exact absurd c48 (by decide)
                · skip
                  refine w_X11_deny ?_
                  have hB49 : Bd (uI I 1 0 5) := Bd.o0 hB0 io9_112_1_11 (by decide) bd9_11_0
                  refine ⟨Or.inl rfl, ?_⟩
                  intro o50
                  refine ⟨Or.inl rfl, ?_⟩
                  exact hQ _ _ _ _ hB49 (by have q0 : (0 : Int32).toInt = 0 := rfl; omega)
              · skip
                have d51 : ((v4.toInt) : Int) ≤ (30) := ci_nlt rfl rfl c45
                refine ⟨Or.inr rfl, ?_⟩
                intro o52
                refine ⟨fun c53 => ?_, fun c53 => ?_⟩
                · skip
                  refine sp_J6_bitCount_0f7a4 hB0 hR0 (fun x54 y59 I55 J56 hB57 p58 => ?_)
                  obtain ⟨heI55, p58⟩ := p58
                  subst heI55
                  have i60 := i32 x54
                  refine ⟨fun c61 => ?_, fun c61 => ?_⟩
                  · skip
                    have d62 : ((v2.toInt) : Int) ≤ (x54.toInt) := ci_le rfl rfl c61
                    refine sp_X9_lay hB0 hR0 (fun x63 y68 I64 J65 hB66 p67 => ?_)
                    refine w_X11_crumbs ?_
                    refine ⟨fun c69 => ?_, fun c69 => ?_⟩
                    · skip
                      have d70 : ((1) : Int) ≤ (v4.toInt) := ci_le rfl rfl c69
                      refine ⟨(fun z => by have z2 : (v4.toInt : Int) = 0 := cl_eq (tl_i2l rfl) rfl z; omega), ?_⟩
                      refine sp_X9_countWithin hB66 hR0 (fun x71 y76 I72 J73 hB74 p75 => ?_)
                      refine sp_X11_choices hB74 hR0 (by have z : (v2 : Int32).toInt = v2.toInt := rfl; omega) (fun x77 y82 I78 J79 hB80 p81 => ?_)
                      refine sp_X11_tell hB80 hR0 (fun x83 y88 I84 J85 hB86 p87 => ?_)
                      intro o89
                      have i90 := i32 x83
                      refine ⟨o89, ?_⟩
                      exact hQ _ _ _ _ hB86 (by have q0 : (x83 : Int32).toInt = x83.toInt := rfl; omega)
                    · skip
                      have d91 : ((v4.toInt) : Int) < (1) := ci_nle rfl rfl c69
                      refine sp_X9_countWithin hB66 hR0 (fun x92 y97 I93 J94 hB95 p96 => ?_)
                      refine sp_X11_choices hB95 hR0 (by have z : (v2 : Int32).toInt = v2.toInt := rfl; omega) (fun x98 y103 I99 J100 hB101 p102 => ?_)
                      refine sp_X11_tell hB101 hR0 (fun x104 y109 I105 J106 hB107 p108 => ?_)
                      intro o110
                      have i111 := i32 x104
                      refine ⟨o110, ?_⟩
                      exact hQ _ _ _ _ hB107 (by have q0 : (x104 : Int32).toInt = x104.toInt := rfl; omega)
                  · skip
                    have d112 : ((x54.toInt) : Int) < (v2.toInt) := ci_nle rfl rfl c61
                    refine w_X11_deny ?_
                    have hB113 : Bd (uI I 1 0 8) := Bd.o0 hB0 io9_112_1_11 (by decide) bd9_11_0
                    refine ⟨Or.inl rfl, ?_⟩
                    intro o114
                    refine ⟨Or.inl rfl, ?_⟩
                    exact hQ _ _ _ _ hB113 (by have q0 : (0 : Int32).toInt = 0 := rfl; omega)
                · exact absurd c53 (by decide)
set_option maxHeartbeats 2000000 in
theorem sp_X11_live {d : Nat} {Q : Qt} {v1 : Int32} {I : Im} {J : Jm} {R : Rm} (hB0 : Bd I) (hR0 : RI R) (hQ : ∀ (x : Int32) (y : Int64) (I2 : Im) (J2 : Jm), Bd I2 → (True) → Q x y I2 J2 R) : AM (d + 7) 144 112 [.ref 1, .int v1] I J R Q := by
  have i_v1 := i32 v1
  refine w_X11_live ?_
  refine ⟨fun c1 => ?_, fun c1 => ?_⟩
  · skip
    have d2 : ((v1.toInt) : Int) < (0) := ci_lt rfl rfl c1
    refine w_X11_refuse ?_
    have hB3 : Bd (uI I 1 0 5) := Bd.o0 hB0 io9_112_1_11 (by decide) bd9_11_0
    exact hQ _ _ _ _ hB3 trivial
  · skip
    have d4 : ((0) : Int) ≤ (v1.toInt) := ci_nlt rfl rfl c1
    refine ⟨fun c5 => ?_, fun c5 => ?_⟩
    · skip
      have d6 : ((v1.toInt) : Int) ≤ (9999) := ci_le rfl rfl c5
      refine ⟨(RI.plan hR0).2, ?_⟩
      refine bif_t (RI.plan hR0).1 ?_
      refine ⟨fun c7 => ?_, fun c7 => ?_⟩
      · skip
        have b8 := Bd.o hB0 (RI.plan hR0).1 bd9_2_0
        have d9 : ¬ (((I (R 1 9) 0).toInt) : Int) = (0) := ci_ne rfl rfl c7
        refine ⟨(RI.now hR0).2, ?_⟩
        refine ⟨(RI.plan hR0).2, ?_⟩
        refine sp_X4_run hB0 hR0 io9_112_49_4 (RI.now hR0).1 (RI.plan hR0).1 (fun x10 y15 I11 J12 hB13 p14 => ?_)
        refine w_X11_answer ?_
        have hB16 : Bd (uI I11 1 0 0) := Bd.o0 hB13 io9_112_1_11 (by decide) bd9_11_0
        exact hQ _ _ _ _ hB16 trivial
      · skip
        have b17 := Bd.o hB0 (RI.plan hR0).1 bd9_2_0
        have d18 : (((I (R 1 9) 0).toInt) : Int) = (0) := ci_eq rfl rfl c7
        refine w_X11_refuse ?_
        have hB19 : Bd (uI I 1 0 8) := Bd.o0 hB0 io9_112_1_11 (by decide) bd9_11_0
        exact hQ _ _ _ _ hB19 trivial
    · skip
      have d20 : ((9999) : Int) < (v1.toInt) := ci_nle rfl rfl c5
      refine w_X11_refuse ?_
      have hB21 : Bd (uI I 1 0 5) := Bd.o0 hB0 io9_112_1_11 (by decide) bd9_11_0
      exact hQ _ _ _ _ hB21 trivial
set_option maxHeartbeats 2000000 in
theorem sp_X11_lived {d : Nat} {Q : Qt} {v1 : Int32} {I : Im} {J : Jm} {R : Rm} (hB0 : Bd I) (hR0 : RI R) (hQ : ∀ (x : Int32) (y : Int64) (I2 : Im) (J2 : Jm), Bd I2 → (True) → Q x y I2 J2 R) : AM (d + 2) 145 112 [.ref 1, .int v1] I J R Q := by
  have i_v1 := i32 v1
  refine w_X11_lived ?_
  refine ⟨fun c1 => ?_, fun c1 => ?_⟩
  · skip
    have d2 : ((v1.toInt) : Int) < (0) := ci_lt rfl rfl c1
    refine w_X11_refuse ?_
    have hB3 : Bd (uI I 1 0 5) := Bd.o0 hB0 io9_112_1_11 (by decide) bd9_11_0
    exact hQ _ _ _ _ hB3 trivial
  · skip
    have d4 : ((0) : Int) ≤ (v1.toInt) := ci_nlt rfl rfl c1
    refine ⟨fun c5 => ?_, fun c5 => ?_⟩
    · skip
      have d6 : ((v1.toInt) : Int) ≤ (4) := ci_le rfl rfl c5
      refine ⟨fun c7 => ?_, fun c7 => ?_⟩
      · skip
        have b8 := Bd.o hB0 io9_112_49_4 bd9_4_0
        have d9 : ¬ (((I 49 0).toInt) : Int) = (0) := ci_ne rfl rfl c7
        refine ⟨fun c10 => ?_, fun c10 => ?_⟩
        · skip
          have d11 : ((v1.toInt) : Int) = (0) := ci_eq rfl rfl c10
          refine w_X11_answer ?_
          have hB12 : Bd (uI I 1 0 0) := Bd.o0 hB0 io9_112_1_11 (by decide) bd9_11_0
          exact hQ _ _ _ _ hB12 trivial
        · skip
          have d13 : ¬ ((v1.toInt) : Int) = (0) := ci_ne rfl rfl c10
          refine ⟨fun c14 => ?_, fun c14 => ?_⟩
          · skip
            have d15 : ((v1.toInt) : Int) = (1) := ci_eq rfl rfl c14
            refine w_X11_answer ?_
            have hB16 : Bd (uI I 1 0 0) := Bd.o0 hB0 io9_112_1_11 (by decide) bd9_11_0
            exact hQ _ _ _ _ hB16 trivial
          · skip
            have d17 : ¬ ((v1.toInt) : Int) = (1) := ci_ne rfl rfl c14
            refine ⟨fun c18 => ?_, fun c18 => ?_⟩
            · skip
              have d19 : ((v1.toInt) : Int) = (2) := ci_eq rfl rfl c18
              refine w_X11_answer ?_
              have hB20 : Bd (uI I 1 0 0) := Bd.o0 hB0 io9_112_1_11 (by decide) bd9_11_0
              exact hQ _ _ _ _ hB20 trivial
            · skip
              have d21 : ¬ ((v1.toInt) : Int) = (2) := ci_ne rfl rfl c18
              refine ⟨fun c22 => ?_, fun c22 => ?_⟩
              · skip
                have d23 : ((v1.toInt) : Int) = (3) := ci_eq rfl rfl c22
                refine w_X11_answer ?_
                have hB24 : Bd (uI I 1 0 0) := Bd.o0 hB0 io9_112_1_11 (by decide) bd9_11_0
                exact hQ _ _ _ _ hB24 trivial
              · skip
                have d25 : ¬ ((v1.toInt) : Int) = (3) := ci_ne rfl rfl c22
                refine w_X11_answer ?_
                have hB26 : Bd (uI I 1 0 0) := Bd.o0 hB0 io9_112_1_11 (by decide) bd9_11_0
                exact hQ _ _ _ _ hB26 trivial
      · skip
        have b27 := Bd.o hB0 io9_112_49_4 bd9_4_0
        have d28 : (((I 49 0).toInt) : Int) = (0) := ci_eq rfl rfl c7
        refine w_X11_refuse ?_
        have hB29 : Bd (uI I 1 0 8) := Bd.o0 hB0 io9_112_1_11 (by decide) bd9_11_0
        exact hQ _ _ _ _ hB29 trivial
    · skip
      have d30 : ((4) : Int) < (v1.toInt) := ci_nle rfl rfl c5
      refine w_X11_refuse ?_
      have hB31 : Bd (uI I 1 0 5) := Bd.o0 hB0 io9_112_1_11 (by decide) bd9_11_0
      exact hQ _ _ _ _ hB31 trivial
set_option maxHeartbeats 2000000 in
theorem sp_X11_mark {d : Nat} {Q : Qt} {I : Im} {J : Jm} {R : Rm} (hB0 : Bd I) (hR0 : RI R) (hQ : ∀ (x : Int32) (y : Int64) (I2 : Im) (J2 : Jm), Bd I2 → ((((I 1 13).toInt < 3 ∧ x.toInt = (I 1 13).toInt + 1 ∧ (I2 1 13).toInt = (I 1 13).toInt + 1) ∨ ((I 1 13).toInt = 3 ∧ x.toInt = -1 ∧ (I2 1 13).toInt = 3))) → Q x y I2 J2 R) : AM (d + 2) 147 112 [.ref 1] I J R Q := by
  refine w_X11_mark ?_
  refine ⟨fun c1 => ?_, fun c1 => ?_⟩
  · skip
    have b2 := Bd.o hB0 io9_112_1_11 bd9_11_13
    have d3 : (((I 1 13).toInt) : Int) < (3) := ci_lt rfl rfl c1
    refine ⟨vp_of (a := (I 1 13).toInt) rfl (by omega) (by omega), ?_⟩
    have hr4 := RI.kb hR0 (Int32.toNatClampNeg (I 1 13)) (by rw [tn_of rfl (by omega)]; omega)
    refine ⟨hr4.1, ?_⟩
    refine ⟨(RI.now hR0).2, ?_⟩
    refine bif_t hr4.2 ?_
    refine sp_X0_copyFrom hB0 hR0 hr4.2 (RI.now hR0).1 (fun x5 y10 I6 J7 hB8 p9 => ?_)
    have e11 : ((I6 1 13) : Int32).toInt = (I 1 13).toInt := Eq.trans (congrArg Int32.toInt p9) rfl
    refine ⟨vp_of (a := (I 1 13).toInt) e11 (by omega) (by omega), ?_⟩
    have hr12 := RI.kd hR0 (Int32.toNatClampNeg (I6 1 13)) (by rw [tn_of e11 (by omega)]; omega)
    refine ⟨hr12.1, ?_⟩
    refine ⟨(RI.plan hR0).2, ?_⟩
    refine bif_t hr12.2 ?_
    refine sp_X2_copyFrom hB8 hR0 hr12.2 (RI.plan hR0).1 (fun x13 y18 I14 J15 hB16 p17 => ?_)
    have e20 : ((I14 1 13) : Int32).toInt = (I 1 13).toInt := Eq.trans (congrArg Int32.toInt (Eq.trans p17 p9)) rfl
    have e21 : (((I14 1 13) + 1) : Int32).toInt = ((I 1 13).toInt) + (1) := ti_add e20 rfl (by omega)
    have hB19 : Bd (uI I14 1 13 ((I14 1 13) + 1)) := Bd.o1 hB16 io9_112_1_11 (by decide) bd9_11_13 (show (((I14 1 13) + 1) : Int32).toInt = ((I 1 13).toInt + 1) from e21) (by omega)
    refine w_X11_answer ?_
    have hB22 : Bd (uI (uI I14 1 13 ((I14 1 13) + 1)) 1 0 0) := Bd.o0 hB19 io9_112_1_11 (by decide) bd9_11_0
    have e23 : (((uI (uI I14 1 13 ((I14 1 13) + 1)) 1 0 0) 1 13) : Int32).toInt = ((I 1 13).toInt + 1) := Eq.trans (congrArg Int32.toInt (Eq.trans (rd_k (by decide)) rd_eq)) e21
    have e24 : (((uI I14 1 13 ((I14 1 13) + 1)) 1 13) : Int32).toInt = ((I 1 13).toInt + 1) := Eq.trans (congrArg Int32.toInt rd_eq) e21
    exact hQ _ _ _ _ hB22 (by have q2 : (((uI (uI I14 1 13 ((I14 1 13) + 1)) 1 0 0) 1 13) : Int32).toInt = ((I 1 13).toInt + 1) := e23; have q0 : (((uI I14 1 13 ((I14 1 13) + 1)) 1 13) : Int32).toInt = ((I 1 13).toInt + 1) := e24; omega)
  · skip
    have b25 := Bd.o hB0 io9_112_1_11 bd9_11_13
    have d26 : ((3) : Int) ≤ ((I 1 13).toInt) := ci_nlt rfl rfl c1
    refine w_X11_refuse ?_
    have hB27 : Bd (uI I 1 0 7) := Bd.o0 hB0 io9_112_1_11 (by decide) bd9_11_0
    have e28 : (((uI I 1 0 7) 1 13) : Int32).toInt = (I 1 13).toInt := Eq.trans (congrArg Int32.toInt (rd_k (by decide))) rfl
    exact hQ _ _ _ _ hB27 (by have q2 : (((uI I 1 0 7) 1 13) : Int32).toInt = (I 1 13).toInt := e28; have q0 : ((-1) : Int32).toInt = (-1) := rfl; omega)
set_option maxHeartbeats 2000000 in
theorem sp_X11_back {d : Nat} {Q : Qt} {I : Im} {J : Jm} {R : Rm} (hB0 : Bd I) (hR0 : RI R) (hQ : ∀ (x : Int32) (y : Int64) (I2 : Im) (J2 : Jm), Bd I2 → (((1 ≤ (I 1 13).toInt ∧ x.toInt = (I 1 13).toInt - 1 ∧ (I2 1 13).toInt = (I 1 13).toInt - 1) ∨ ((I 1 13).toInt = 0 ∧ x.toInt = -1 ∧ (I2 1 13).toInt = 0))) → Q x y I2 J2 R) : AM (d + 2) 148 112 [.ref 1] I J R Q := by
  refine w_X11_back ?_
  refine ⟨fun c1 => ?_, fun c1 => ?_⟩
  · skip
    have b2 := Bd.o hB0 io9_112_1_11 bd9_11_13
    have d3 : ((1) : Int) ≤ ((I 1 13).toInt) := ci_le rfl rfl c1
    have e5 : (((I 1 13) - 1) : Int32).toInt = ((I 1 13).toInt) - (1) := ti_sub rfl rfl (by omega)
    have hB4 : Bd (uI I 1 13 ((I 1 13) - 1)) := Bd.o1 hB0 io9_112_1_11 (by decide) bd9_11_13 (show (((I 1 13) - 1) : Int32).toInt = ((I 1 13).toInt - 1) from e5) (by omega)
    refine ⟨(RI.now hR0).2, ?_⟩
    have e6 : (((uI I 1 13 ((I 1 13) - 1)) 1 13) : Int32).toInt = ((I 1 13).toInt - 1) := Eq.trans (congrArg Int32.toInt rd_eq) e5
    refine ⟨vp_of (a := ((I 1 13).toInt - 1)) e6 (by omega) (by omega), ?_⟩
    have hr7 := RI.kb hR0 (Int32.toNatClampNeg ((uI I 1 13 ((I 1 13) - 1)) 1 13)) (by rw [tn_of e6 (by omega)]; omega)
    refine ⟨hr7.1, ?_⟩
    refine bif_t (RI.now hR0).1 ?_
    refine sp_X0_copyFrom hB4 hR0 (RI.now hR0).1 hr7.2 (fun x8 y13 I9 J10 hB11 p12 => ?_)
    refine ⟨(RI.plan hR0).2, ?_⟩
    have e14 : ((I9 1 13) : Int32).toInt = ((I 1 13).toInt - 1) := Eq.trans (congrArg Int32.toInt (Eq.trans p12 rd_eq)) e5
    refine ⟨vp_of (a := ((I 1 13).toInt - 1)) e14 (by omega) (by omega), ?_⟩
    have hr15 := RI.kd hR0 (Int32.toNatClampNeg (I9 1 13)) (by rw [tn_of e14 (by omega)]; omega)
    refine ⟨hr15.1, ?_⟩
    refine bif_t (RI.plan hR0).1 ?_
    refine sp_X2_copyFrom hB11 hR0 (RI.plan hR0).1 hr15.2 (fun x16 y21 I17 J18 hB19 p20 => ?_)
    refine w_X11_answer ?_
    have hB22 : Bd (uI I17 1 0 0) := Bd.o0 hB19 io9_112_1_11 (by decide) bd9_11_0
    have e23 : (((uI I17 1 0 0) 1 13) : Int32).toInt = ((I 1 13).toInt - 1) := Eq.trans (congrArg Int32.toInt (Eq.trans (Eq.trans (Eq.trans (rd_k (by decide)) p20) p12) rd_eq)) e5
    have e24 : ((I17 1 13) : Int32).toInt = ((I 1 13).toInt - 1) := Eq.trans (congrArg Int32.toInt (Eq.trans (Eq.trans p20 p12) rd_eq)) e5
    exact hQ _ _ _ _ hB22 (by have q2 : (((uI I17 1 0 0) 1 13) : Int32).toInt = ((I 1 13).toInt - 1) := e23; have q0 : ((I17 1 13) : Int32).toInt = ((I 1 13).toInt - 1) := e24; omega)
  · skip
    have b25 := Bd.o hB0 io9_112_1_11 bd9_11_13
    have d26 : (((I 1 13).toInt) : Int) < (1) := ci_nle rfl rfl c1
    refine w_X11_refuse ?_
    have hB27 : Bd (uI I 1 0 8) := Bd.o0 hB0 io9_112_1_11 (by decide) bd9_11_0
    have e28 : (((uI I 1 0 8) 1 13) : Int32).toInt = (I 1 13).toInt := Eq.trans (congrArg Int32.toInt (rd_k (by decide))) rfl
    exact hQ _ _ _ _ hB27 (by have q2 : (((uI I 1 0 8) 1 13) : Int32).toInt = (I 1 13).toInt := e28; have q0 : ((-1) : Int32).toInt = (-1) := rfl; omega)
