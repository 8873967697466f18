


set_option maxHeartbeats 2000000 in
theorem sp_X10_lay {d : Nat} {Q : Qt} {v0 : Nat} {v1 : Int32} {v2 : Int32} {I : Im} {J : Jm} {R : Rm} (hB0 : Bd I) (hR0 : RI R) (ho0 : isO 112 v0 10 = true) (hv2 : 0 ≤ v2.toInt ∧ v2.toInt ≤ 60) (hQ : ∀ (x : Int32) (y : Int64) (I2 : Im) (J2 : Jm), Bd I2 → ((TL I I2 v0 v1 v2)) → Q x y I2 J2 R) : AM (d + 2) 96 112 [.ref v0, .int v1, .int v2] I J R Q := by
  have i_v1 := i32 v1
  have i_v2 := i32 v2
  refine w_X10_lay ?_
  refine bif_t ho0 ?_
  have hB1 : Bd (uI I v0 0 v1) := Bd.o0 hB0 ho0 (by omega) bd9_10_0
  refine bif_t ho0 ?_
  have hB2 : Bd (uI (uI I v0 0 v1) v0 1 v2) := Bd.o1 hB1 ho0 (by omega) bd9_10_1 (show (v2 : Int32).toInt = v2.toInt from rfl) (by omega)
  refine bif_t ho0 ?_
  refine kp4 rfl (sp_J7_fill_d0a16 hB2 hR0 (fa_10_2 ho0).1 (fun x3 y8 I4 J5 hB6 p7 k9 => ?_))
  exact hQ _ _ _ _ hB6 k9
set_option maxHeartbeats 2000000 in
theorem sp_X10_put {d : Nat} {Q : Qt} {v0 : Nat} {v1 : Int32} {v2 : Int64} {I : Im} {J : Jm} {R : Rm} (hB0 : Bd I) (hR0 : RI R) (ho0 : isO 112 v0 10 = true) (hQ : ∀ (x : Int32) (y : Int64) (I2 : Im) (J2 : Jm), Bd I2 → (True) → Q x y I2 J2 R) : AM (d + 2) 98 112 [.ref v0, .int v1, .long v2] I J R Q := by
  have i_v1 := i32 v1
  have i_v2 := i64 v2
  refine w_X10_put ?_
  refine bif_t ho0 ?_
  refine w_X10_hasPlaces ?_
  refine ⟨fun c1 => ?_, fun c1 => ?_⟩
  · skip
    have d2 : ((v1.toInt) : Int) < (0) := ci_lt rfl rfl c1
    refine ⟨Or.inl rfl, ?_⟩
    intro o3
    refine ⟨fun c4 => ?_, fun c4 => ?_⟩
    · skip
      exact hQ _ _ _ _ hB0 trivial
    · exact absurd c4 (by decide)
  · skip
    have d5 : ((0) : Int) ≤ (v1.toInt) := ci_nlt rfl rfl c1
    refine ⟨fun c6 => ?_, fun c6 => ?_⟩
    · exact absurd c6 (by decide)
    · skip
      refine bif_t ho0 ?_
      refine ⟨fun c7 => ?_, fun c7 => ?_⟩
      · skip
        rw [lg_cmp_gt] at c7
        have e8 : (((Int32.toInt64 v1) + (Int32.toInt64 1)) : Int64).toInt = (v1.toInt) + (1) := tl_add (tl_i2l rfl) (tl_i2l rfl) (by omega)
        have b9 := Bd.o hB0 ho0 bd9_10_1
        have i10 := i32 ((I v0 1))
        have d11 : (((I v0 1).toInt) : Int) < ((v1.toInt + 1)) := cl_lt (tl_i2l rfl) e8 c7
        refine ⟨Or.inl rfl, ?_⟩
        intro o12
        refine ⟨fun c13 => ?_, fun c13 => ?_⟩
        · skip
          exact hQ _ _ _ _ hB0 trivial
        · exact absurd c13 (by decide)
      · skip
        rw [lg_cmp_gt] at c7
        have e14 : (((Int32.toInt64 v1) + (Int32.toInt64 1)) : Int64).toInt = (v1.toInt) + (1) := tl_add (tl_i2l rfl) (tl_i2l rfl) (by omega)
        have b15 := Bd.o hB0 ho0 bd9_10_1
        have i16 := i32 ((I v0 1))
        have d17 : (((v1.toInt + 1)) : Int) ≤ ((I v0 1).toInt) := cl_nlt (tl_i2l rfl) e14 c7
        refine ⟨Or.inr rfl, ?_⟩
        intro o18
        refine ⟨fun c19 => ?_, fun c19 => ?_⟩
        · exact absurd c19 (by decide)
        · skip
          refine bif_t ho0 ?_
          refine bif_t ho0 ?_
          refine ⟨fun c20 => ?_, fun c20 => ?_⟩
          · skip
            have d21 : ¬ (((I v0 0).toInt) : Int) = (0) := ci_ne rfl rfl c20
            refine bif_t ho0 ?_
            refine ⟨fun c22 => ?_, fun c22 => ?_⟩
            · skip
              have d23 : ¬ (((I v0 0).toInt) : Int) = (1) := ci_ne rfl rfl c22
              refine bif_t ho0 ?_
              refine ⟨fun c24 => ?_, fun c24 => ?_⟩
              · skip
                have d25 : ¬ (((I v0 0).toInt) : Int) = (2) := ci_ne rfl rfl c24
                refine bif_t (fa_10_2 ho0).1 ?_
                refine ⟨by rw [(fa_10_2 ho0).2.1]; exact vp_of (a := v1.toInt) rfl (by omega) (by omega), ?_⟩
                exact hQ _ _ _ _ hB0 trivial
              · skip
                have d26 : (((I v0 0).toInt) : Int) = (2) := ci_eq rfl rfl c24
                refine bif_t (fa_10_2 ho0).1 ?_
                refine ⟨by rw [(fa_10_2 ho0).2.1]; exact vp_of (a := v1.toInt) rfl (by omega) (by omega), ?_⟩
                exact hQ _ _ _ _ hB0 trivial
            · skip
              have d27 : (((I v0 0).toInt) : Int) = (1) := ci_eq rfl rfl c22
              refine bif_t (fa_10_2 ho0).1 ?_
              refine ⟨by rw [(fa_10_2 ho0).2.1]; exact vp_of (a := v1.toInt) rfl (by omega) (by omega), ?_⟩
              exact hQ _ _ _ _ hB0 trivial
          · skip
            have d28 : (((I v0 0).toInt) : Int) = (0) := ci_eq rfl rfl c20
            refine bif_t (fa_10_2 ho0).1 ?_
            refine ⟨by rw [(fa_10_2 ho0).2.1]; exact vp_of (a := v1.toInt) rfl (by omega) (by omega), ?_⟩
            exact hQ _ _ _ _ hB0 trivial
set_option maxHeartbeats 2000000 in
theorem sp_X6_append {d : Nat} {Q : Qt} {v1 : Int32} {I : Im} {J : Jm} {R : Rm} (hB0 : Bd I) (hR0 : RI R) (ht : (I 3 1).toInt ≤ 896) (hQ : ∀ (x : Int32) (y : Int64) (I2 : Im) (J2 : Jm), Bd I2 → (((I2 3 1).toInt = (I 3 1).toInt + 4)) → Q x y I2 J2 R) : AM (d + 2) 60 112 [.ref 3, .int v1] I J R Q := by
  have i_v1 := i32 v1
  refine am_X6_append (fun P hc => ?_)
  have L : ∀ n : Nat, (∀ (v2 : Int32) (M : Im) (JM : Jm), Bd M → (-8 ≤ v2.toInt ∧ v2.toInt ≤ 24 ∧ (I 3 1).toInt ≤ 896 ∧ 8 * (M 3 1).toInt + v2.toInt = 8 * (I 3 1).toInt + 24) → v2.toInt + 8 < (n : Int) → P 3 112 [(0, .ref 3), (1, .int v1), (2, .int v2)] [] M JM R) := by
    intro n
    induction n with
    | zero =>
      exact fun v2 M J _ hi hm => absurd hm (by omega)
    | succ n ih =>
      intro v2 M JM hB hi hm
      have i_v1 := i32 v1
      have i_v2 := i32 v2
      refine sg_X6_append_3 hc _ _ _ _ _ ?_
      have b1 := Bd.o hB io9_112_3_6 bd9_6_1
      refine ⟨fun c2 => ?_, fun c2 => ?_⟩
      · skip
        have d3 : ((v2.toInt) : Int) < (0) := ci_lt rfl rfl c2
        have b4 := Bd.o hB0 io9_112_3_6 bd9_6_1
        exact hQ _ _ _ _ hB (by have q2 : ((M 3 1) : Int32).toInt = (M 3 1).toInt := rfl; omega)
      · skip
        have d5 : ((0) : Int) ≤ (v2.toInt) := ci_nlt rfl rfl c2
        refine w_X6_hasRoom ?_
        refine ⟨fun c6 => ?_, fun c6 => ?_⟩
        · skip
          have e7 : (((M 3 1) + 1) : Int32).toInt = ((M 3 1).toInt) + (1) := ti_add rfl rfl (by omega)
          have d8 : ((900) : Int) < (((M 3 1).toInt + 1)) := ci_lt rfl e7 c6
          refine ⟨Or.inl rfl, ?_⟩
          intro o9
          refine ⟨fun c10 => ?_, fun c10 => ?_⟩
          · skip
            have b11 := Bd.o hB0 io9_112_3_6 bd9_6_1
            exact hQ _ _ _ _ hB (by have q2 : ((M 3 1) : Int32).toInt = (M 3 1).toInt := rfl; omega)
          · exact absurd c10 (by decide)
        · skip
          have e12 : (((M 3 1) + 1) : Int32).toInt = ((M 3 1).toInt) + (1) := ti_add rfl rfl (by omega)
          have d13 : ((((M 3 1).toInt + 1)) : Int) ≤ (900) := ci_nlt rfl e12 c6
          refine ⟨Or.inr rfl, ?_⟩
          intro o14
          refine ⟨fun c15 => ?_, fun c15 => ?_⟩
          · exact absurd c15 (by decide)
          · skip
            refine ⟨vp_of (a := (M 3 1).toInt) rfl (by omega) (by omega), ?_⟩
            have hB16 : Bd (uI M 4 (Int32.toNatClampNeg (M 3 1)) (Int32.toInt8 (Int32.toInt8 (Int32.toUInt32 v1 >>> (Int32.toUInt32 v2 &&& Int32.toUInt32 31)).toInt32).toInt32).toInt32) := Bd.a0 hB (show isA 112 4 2 = true from rfl) (show bna 4 = none from rfl)
            have e18 : (((uI M 4 (Int32.toNatClampNeg (M 3 1)) (Int32.toInt8 (Int32.toInt8 (Int32.toUInt32 v1 >>> (Int32.toUInt32 v2 &&& Int32.toUInt32 31)).toInt32).toInt32).toInt32) 3 1) : Int32).toInt = (M 3 1).toInt := Eq.trans (congrArg Int32.toInt (rd_ne (by first | decide | omega))) rfl
            have e19 : ((((uI M 4 (Int32.toNatClampNeg (M 3 1)) (Int32.toInt8 (Int32.toInt8 (Int32.toUInt32 v1 >>> (Int32.toUInt32 v2 &&& Int32.toUInt32 31)).toInt32).toInt32).toInt32) 3 1) + 1) : Int32).toInt = ((M 3 1).toInt) + (1) := ti_add e18 rfl (by omega)
            have hB17 : Bd (uI (uI M 4 (Int32.toNatClampNeg (M 3 1)) (Int32.toInt8 (Int32.toInt8 (Int32.toUInt32 v1 >>> (Int32.toUInt32 v2 &&& Int32.toUInt32 31)).toInt32).toInt32).toInt32) 3 1 (((uI M 4 (Int32.toNatClampNeg (M 3 1)) (Int32.toInt8 (Int32.toInt8 (Int32.toUInt32 v1 >>> (Int32.toUInt32 v2 &&& Int32.toUInt32 31)).toInt32).toInt32).toInt32) 3 1) + 1)) := Bd.o1 hB16 io9_112_3_6 (by omega) bd9_6_1 (show ((((uI M 4 (Int32.toNatClampNeg (M 3 1)) (Int32.toInt8 (Int32.toInt8 (Int32.toUInt32 v1 >>> (Int32.toUInt32 v2 &&& Int32.toUInt32 31)).toInt32).toInt32).toInt32) 3 1) + 1) : Int32).toInt = ((M 3 1).toInt + 1) from e19) (by omega)
            have e20 : ((v2 + (-8)) : Int32).toInt = (v2.toInt) + ((-8)) := ti_add rfl rfl (by omega)
            have e21 : (((uI (uI M 4 (Int32.toNatClampNeg (M 3 1)) (Int32.toInt8 (Int32.toInt8 (Int32.toUInt32 v1 >>> (Int32.toUInt32 v2 &&& Int32.toUInt32 31)).toInt32).toInt32).toInt32) 3 1 (((uI M 4 (Int32.toNatClampNeg (M 3 1)) (Int32.toInt8 (Int32.toInt8 (Int32.toUInt32 v1 >>> (Int32.toUInt32 v2 &&& Int32.toUInt32 31)).toInt32).toInt32).toInt32) 3 1) + 1)) 3 1) : Int32).toInt = ((M 3 1).toInt + 1) := Eq.trans (congrArg Int32.toInt rd_eq) e19
            exact ih _ _ _ hB17 (by have q0 : ((v2 + (-8)) : Int32).toInt = (v2.toInt + (-8)) := e20; have q1 : (((uI (uI M 4 (Int32.toNatClampNeg (M 3 1)) (Int32.toInt8 (Int32.toInt8 (Int32.toUInt32 v1 >>> (Int32.toUInt32 v2 &&& Int32.toUInt32 31)).toInt32).toInt32).toInt32) 3 1 (((uI M 4 (Int32.toNatClampNeg (M 3 1)) (Int32.toInt8 (Int32.toInt8 (Int32.toUInt32 v1 >>> (Int32.toUInt32 v2 &&& Int32.toUInt32 31)).toInt32).toInt32).toInt32) 3 1) + 1)) 3 1) : Int32).toInt = ((M 3 1).toInt + 1) := e21; omega) (by have q0 : ((v2 + (-8)) : Int32).toInt = (v2.toInt + (-8)) := e20; omega)
  refine sg_X6_append_0 hc _ _ _ _ ?_
  have b22 := Bd.o hB0 io9_112_3_6 bd9_6_1
  exact (L 1000000) _ _ _ hB0 (by have q0 : (24 : Int32).toInt = 24 := rfl; have q1 : ((I 3 1) : Int32).toInt = (I 3 1).toInt := rfl; omega) (by have q0 : (24 : Int32).toInt = 24 := rfl; omega)
set_option maxHeartbeats 2000000 in
theorem sp_X6_readWord {d : Nat} {Q : Qt} {I : Im} {J : Jm} {R : Rm} (hB0 : Bd I) (hR0 : RI R) (hQ : ∀ (x : Int32) (y : Int64) (I2 : Im) (J2 : Jm), Bd I2 → (I2 7 1 = I 7 1) → Q x y I2 J2 R) : AM (d + 1) 63 112 [.ref 3] I J R Q := by
  refine am_X6_readWord (fun P hc => ?_)
  have L : ∀ n : Nat, (∀ (v1 : Int32) (M : Im) (JM : Jm), Bd M → (M 7 1 = I 7 1) → (0 ≤ v1.toInt ∧ v1.toInt ≤ 900) → 2000 - v1.toInt < (n : Int) → P 15 112 [(0, .ref 3), (1, .int v1)] [] M JM R) ∧ (∀ (M : Im) (JM : Jm), Bd M → (M 7 1 = I 7 1) → (True) → 1000 < (n : Int) → P 101 112 [(0, .ref 3)] [] M JM R) ∧ (∀ (v1 : Int32) (M : Im) (JM : Jm), Bd M → (M 7 1 = I 7 1) → (1 ≤ v1.toInt ∧ v1.toInt ≤ 22) → 100 - v1.toInt < (n : Int) → P 108 112 [(0, .ref 3), (1, .int v1)] [] M JM R) := by
    intro n
    induction n with
    | zero =>
      exact ⟨fun v1 M J _ _ hi hm => absurd hm (by omega), fun  M J _ _ hi hm => absurd hm (by omega), fun v1 M J _ _ hi hm => absurd hm (by omega)⟩
    | succ n ih =>
      refine ⟨?_, ?_, ?_⟩
      · skip
        intro v1 M JM hB hk_7_1 hi hm
        have i_v1 := i32 v1
        refine sg_X6_readWord_15 hc _ _ _ _ ?_
        refine ⟨fun c1 => ?_, fun c1 => ?_⟩
        · skip
          have b2 := Bd.o hB io9_112_3_6 bd9_6_4
          have d3 : (((M 3 4).toInt) : Int) ≤ (v1.toInt) := ci_le rfl rfl c1
          exact ih.2.1 _ _ hB hk_7_1 trivial (by omega)
        · skip
          have b4 := Bd.o hB io9_112_3_6 bd9_6_4
          have d5 : ((v1.toInt) : Int) < ((M 3 4).toInt) := ci_nle rfl rfl c1
          refine ⟨vp_of (a := v1.toInt) rfl (by omega) (by omega), ?_⟩
          refine ⟨fun c6 => ?_, fun c6 => ?_⟩
          · skip
            have d7 : (((M 4 (Int32.toNatClampNeg v1)).toInt) : Int) < (97) := ci_lt rfl rfl c6
            exact ih.2.1 _ _ hB hk_7_1 trivial (by omega)
          · skip
            have d8 : ((97) : Int) ≤ ((M 4 (Int32.toNatClampNeg v1)).toInt) := ci_nlt rfl rfl c6
            refine ⟨vp_of (a := v1.toInt) rfl (by omega) (by omega), ?_⟩
            refine ⟨fun c9 => ?_, fun c9 => ?_⟩
            · skip
              have d10 : ((122) : Int) < ((M 4 (Int32.toNatClampNeg v1)).toInt) := ci_lt rfl rfl c9
              exact ih.2.1 _ _ hB hk_7_1 trivial (by omega)
            · skip
              have d11 : (((M 4 (Int32.toNatClampNeg v1)).toInt) : Int) ≤ (122) := ci_nlt rfl rfl c9
              have e13 : ((v1 + 1) : Int32).toInt = (v1.toInt) + (1) := ti_add rfl rfl (by omega)
              have hB12 : Bd (uI M 3 5 (v1 + 1)) := Bd.o1 hB io9_112_3_6 (by omega) bd9_6_5 (show ((v1 + 1) : Int32).toInt = (v1.toInt + 1) from e13) (by omega)
              refine ⟨fun c14 => ?_, fun c14 => ?_⟩
              · skip
                have e15 : (((uI M 3 5 (v1 + 1)) 3 5) : Int32).toInt = (v1.toInt + 1) := Eq.trans (congrArg Int32.toInt rd_eq) e13
                have b16 := Bd.o hB io9_112_3_6 bd9_6_6
                have e17 : (((uI M 3 5 (v1 + 1)) 3 6) : Int32).toInt = (M 3 6).toInt := Eq.trans (congrArg Int32.toInt (rd_k (by decide))) rfl
                have e18 : ((((uI M 3 5 (v1 + 1)) 3 5) - ((uI M 3 5 (v1 + 1)) 3 6)) : Int32).toInt = ((v1.toInt + 1)) - ((M 3 6).toInt) := ti_sub e15 e17 (by omega)
                have d19 : ((((v1.toInt + 1) - (M 3 6).toInt)) : Int) ≤ (8) := ci_le e18 rfl c14
                refine ⟨vp_of (a := v1.toInt) rfl (by omega) (by omega), ?_⟩
                exact ih.1 _ _ _ hB12 (Eq.trans (rd_ne (by first | decide | omega)) hk_7_1) (by have q0 : ((v1 + 1) : Int32).toInt = (v1.toInt + 1) := e13; omega) (by have q0 : ((v1 + 1) : Int32).toInt = (v1.toInt + 1) := e13; omega)
              · skip
                have e20 : (((uI M 3 5 (v1 + 1)) 3 5) : Int32).toInt = (v1.toInt + 1) := Eq.trans (congrArg Int32.toInt rd_eq) e13
                have b21 := Bd.o hB io9_112_3_6 bd9_6_6
                have e22 : (((uI M 3 5 (v1 + 1)) 3 6) : Int32).toInt = (M 3 6).toInt := Eq.trans (congrArg Int32.toInt (rd_k (by decide))) rfl
                have e23 : ((((uI M 3 5 (v1 + 1)) 3 5) - ((uI M 3 5 (v1 + 1)) 3 6)) : Int32).toInt = ((v1.toInt + 1)) - ((M 3 6).toInt) := ti_sub e20 e22 (by omega)
                have d24 : ((8) : Int) < (((v1.toInt + 1) - (M 3 6).toInt)) := ci_nle e23 rfl c14
                exact ih.1 _ _ _ hB12 (Eq.trans (rd_ne (by first | decide | omega)) hk_7_1) (by have q0 : ((v1 + 1) : Int32).toInt = (v1.toInt + 1) := e13; omega) (by have q0 : ((v1 + 1) : Int32).toInt = (v1.toInt + 1) := e13; omega)
      · skip
        intro  M JM hB hk_7_1 hi hm
        refine sg_X6_readWord_101 hc _ _ _ ?_
        have hB25 : Bd (uI M 3 9 0) := Bd.o0 hB io9_112_3_6 (by omega) bd9_6_9
        exact ih.2.2 _ _ _ hB25 (Eq.trans (rd_ne (by first | decide | omega)) hk_7_1) (by have q0 : (1 : Int32).toInt = 1 := rfl; omega) (by have q0 : (1 : Int32).toInt = 1 := rfl; omega)
      · skip
        intro v1 M JM hB hk_7_1 hi hm
        have i_v1 := i32 v1
        refine sg_X6_readWord_108 hc _ _ _ _ ?_
        refine ⟨fun c26 => ?_, fun c26 => ?_⟩
        · skip
          have d27 : ((21) : Int) < (v1.toInt) := ci_lt rfl rfl c26
          exact hQ _ _ _ _ hB hk_7_1
        · skip
          have d28 : ((v1.toInt) : Int) ≤ (21) := ci_nlt rfl rfl c26
          refine ⟨vp_of (a := v1.toInt) rfl (by omega) (by omega), ?_⟩
          refine ⟨fun c29 => ?_, fun c29 => ?_⟩
          · skip
            rw [lg_cmp_eq] at c29
            have d30 : ¬ ((((JM 5 (Int32.toNatClampNeg v1)) : Int64).toInt) : Int) = (((JM 3 10) : Int64).toInt) := cl_ne rfl rfl c29
            have e31 : ((v1 + 1) : Int32).toInt = (v1.toInt) + (1) := ti_add rfl rfl (by omega)
            exact ih.2.2 _ _ _ hB hk_7_1 (by have q0 : ((v1 + 1) : Int32).toInt = (v1.toInt + 1) := e31; omega) (by have q0 : ((v1 + 1) : Int32).toInt = (v1.toInt + 1) := e31; omega)
          · skip
            rw [lg_cmp_eq] at c29
            have d32 : ((((JM 5 (Int32.toNatClampNeg v1)) : Int64).toInt) : Int) = (((JM 3 10) : Int64).toInt) := cl_eq rfl rfl c29
            have hB33 : Bd (uI M 3 9 v1) := Bd.o0 hB io9_112_3_6 (by omega) bd9_6_9
            have e34 : ((v1 + 1) : Int32).toInt = (v1.toInt) + (1) := ti_add rfl rfl (by omega)
            exact ih.2.2 _ _ _ hB33 (Eq.trans (rd_ne (by first | decide | omega)) hk_7_1) (by have q0 : ((v1 + 1) : Int32).toInt = (v1.toInt + 1) := e34; omega) (by have q0 : ((v1 + 1) : Int32).toInt = (v1.toInt + 1) := e34; omega)
  refine sg_X6_readWord_0 hc _ _ _ ?_
  have hB35 : Bd (uI I 3 8 1) := Bd.o0 hB0 io9_112_3_6 (by omega) bd9_6_8
  have b36 := Bd.o hB0 io9_112_3_6 bd9_6_6
  have e37 : (((uI I 3 8 1) 3 6) : Int32).toInt = (I 3 6).toInt := Eq.trans (congrArg Int32.toInt (rd_k (by decide))) rfl
  exact (L 1000000).1 _ _ _ hB35 (rd_ne (by first | decide | omega)) (by have q0 : (((uI I 3 8 1) 3 6) : Int32).toInt = (I 3 6).toInt := e37; omega) (by have q0 : (((uI I 3 8 1) 3 6) : Int32).toInt = (I 3 6).toInt := e37; omega)
set_option maxHeartbeats 2000000 in
theorem sp_X6_readNumber {d : Nat} {Q : Qt} {I : Im} {J : Jm} {R : Rm} (hB0 : Bd I) (hR0 : RI R) (hQ : ∀ (x : Int32) (y : Int64) (I2 : Im) (J2 : Jm), Bd I2 → (I2 7 1 = I 7 1) → Q x y I2 J2 R) : AM (d + 1) 64 112 [.ref 3] I J R Q := by
  refine am_X6_readNumber (fun P hc => ?_)
  have L : ∀ n : Nat, (∀ (v1 : Int32) (M : Im) (JM : Jm), Bd M → (M 7 1 = I 7 1) → (0 ≤ v1.toInt ∧ v1.toInt ≤ 900) → 900 - v1.toInt < (n : Int) → P 10 112 [(0, .ref 3), (1, .int v1)] [] M JM R) := by
    intro n
    induction n with
    | zero =>
      exact fun v1 M J _ _ hi hm => absurd hm (by omega)
    | succ n ih =>
      intro v1 M JM hB hk_7_1 hi hm
      have i_v1 := i32 v1
      refine sg_X6_readNumber_10 hc _ _ _ _ ?_
      refine ⟨fun c1 => ?_, fun c1 => ?_⟩
      · skip
        have b2 := Bd.o hB io9_112_3_6 bd9_6_4
        have d3 : (((M 3 4).toInt) : Int) ≤ (v1.toInt) := ci_le rfl rfl c1
        refine ⟨fun c4 => ?_, fun c4 => ?_⟩
        · skip
          have b5 := Bd.o hB io9_112_3_6 bd9_6_5
          have b6 := Bd.o hB io9_112_3_6 bd9_6_6
          have e7 : (((M 3 5) - (M 3 6)) : Int32).toInt = ((M 3 5).toInt) - ((M 3 6).toInt) := ti_sub rfl rfl (by omega)
          have d8 : ((((M 3 5).toInt - (M 3 6).toInt)) : Int) ≤ (4) := ci_le e7 rfl c4
          have hB9 : Bd (uI M 3 8 2) := Bd.o0 hB io9_112_3_6 (by omega) bd9_6_8
          exact hQ _ _ _ _ hB9 (Eq.trans (rd_ne (by first | decide | omega)) hk_7_1)
        · skip
          have b10 := Bd.o hB io9_112_3_6 bd9_6_5
          have b11 := Bd.o hB io9_112_3_6 bd9_6_6
          have e12 : (((M 3 5) - (M 3 6)) : Int32).toInt = ((M 3 5).toInt) - ((M 3 6).toInt) := ti_sub rfl rfl (by omega)
          have d13 : ((4) : Int) < (((M 3 5).toInt - (M 3 6).toInt)) := ci_nle e12 rfl c4
          have hB14 : Bd (uI M 3 8 4) := Bd.o0 hB io9_112_3_6 (by omega) bd9_6_8
          exact hQ _ _ _ _ hB14 (Eq.trans (rd_ne (by first | decide | omega)) hk_7_1)
      · skip
        have b15 := Bd.o hB io9_112_3_6 bd9_6_4
        have d16 : ((v1.toInt) : Int) < ((M 3 4).toInt) := ci_nle rfl rfl c1
        refine ⟨vp_of (a := v1.toInt) rfl (by omega) (by omega), ?_⟩
        refine ⟨fun c17 => ?_, fun c17 => ?_⟩
        · skip
          have d18 : (((M 4 (Int32.toNatClampNeg v1)).toInt) : Int) < (48) := ci_lt rfl rfl c17
          refine ⟨fun c19 => ?_, fun c19 => ?_⟩
          · skip
            have b20 := Bd.o hB io9_112_3_6 bd9_6_5
            have b21 := Bd.o hB io9_112_3_6 bd9_6_6
            have e22 : (((M 3 5) - (M 3 6)) : Int32).toInt = ((M 3 5).toInt) - ((M 3 6).toInt) := ti_sub rfl rfl (by omega)
            have d23 : ((((M 3 5).toInt - (M 3 6).toInt)) : Int) ≤ (4) := ci_le e22 rfl c19
            have hB24 : Bd (uI M 3 8 2) := Bd.o0 hB io9_112_3_6 (by omega) bd9_6_8
            exact hQ _ _ _ _ hB24 (Eq.trans (rd_ne (by first | decide | omega)) hk_7_1)
          · skip
            have b25 := Bd.o hB io9_112_3_6 bd9_6_5
            have b26 := Bd.o hB io9_112_3_6 bd9_6_6
            have e27 : (((M 3 5) - (M 3 6)) : Int32).toInt = ((M 3 5).toInt) - ((M 3 6).toInt) := ti_sub rfl rfl (by omega)
            have d28 : ((4) : Int) < (((M 3 5).toInt - (M 3 6).toInt)) := ci_nle e27 rfl c19
            have hB29 : Bd (uI M 3 8 4) := Bd.o0 hB io9_112_3_6 (by omega) bd9_6_8
            exact hQ _ _ _ _ hB29 (Eq.trans (rd_ne (by first | decide | omega)) hk_7_1)
        · skip
          have d30 : ((48) : Int) ≤ ((M 4 (Int32.toNatClampNeg v1)).toInt) := ci_nlt rfl rfl c17
          refine ⟨vp_of (a := v1.toInt) rfl (by omega) (by omega), ?_⟩
          refine ⟨fun c31 => ?_, fun c31 => ?_⟩
          · skip
            have d32 : ((57) : Int) < ((M 4 (Int32.toNatClampNeg v1)).toInt) := ci_lt rfl rfl c31
            refine ⟨fun c33 => ?_, fun c33 => ?_⟩
            · skip
              have b34 := Bd.o hB io9_112_3_6 bd9_6_5
              have b35 := Bd.o hB io9_112_3_6 bd9_6_6
              have e36 : (((M 3 5) - (M 3 6)) : Int32).toInt = ((M 3 5).toInt) - ((M 3 6).toInt) := ti_sub rfl rfl (by omega)
              have d37 : ((((M 3 5).toInt - (M 3 6).toInt)) : Int) ≤ (4) := ci_le e36 rfl c33
              have hB38 : Bd (uI M 3 8 2) := Bd.o0 hB io9_112_3_6 (by omega) bd9_6_8
              exact hQ _ _ _ _ hB38 (Eq.trans (rd_ne (by first | decide | omega)) hk_7_1)
            · skip
              have b39 := Bd.o hB io9_112_3_6 bd9_6_5
              have b40 := Bd.o hB io9_112_3_6 bd9_6_6
              have e41 : (((M 3 5) - (M 3 6)) : Int32).toInt = ((M 3 5).toInt) - ((M 3 6).toInt) := ti_sub rfl rfl (by omega)
              have d42 : ((4) : Int) < (((M 3 5).toInt - (M 3 6).toInt)) := ci_nle e41 rfl c33
              have hB43 : Bd (uI M 3 8 4) := Bd.o0 hB io9_112_3_6 (by omega) bd9_6_8
              exact hQ _ _ _ _ hB43 (Eq.trans (rd_ne (by first | decide | omega)) hk_7_1)
          · skip
            have d44 : (((M 4 (Int32.toNatClampNeg v1)).toInt) : Int) ≤ (57) := ci_nlt rfl rfl c31
            have e46 : ((v1 + 1) : Int32).toInt = (v1.toInt) + (1) := ti_add rfl rfl (by omega)
            have hB45 : Bd (uI M 3 5 (v1 + 1)) := Bd.o1 hB io9_112_3_6 (by omega) bd9_6_5 (show ((v1 + 1) : Int32).toInt = (v1.toInt + 1) from e46) (by omega)
            refine ⟨fun c47 => ?_, fun c47 => ?_⟩
            · skip
              have e48 : (((uI M 3 5 (v1 + 1)) 3 5) : Int32).toInt = (v1.toInt + 1) := Eq.trans (congrArg Int32.toInt rd_eq) e46
              have b49 := Bd.o hB io9_112_3_6 bd9_6_6
              have e50 : (((uI M 3 5 (v1 + 1)) 3 6) : Int32).toInt = (M 3 6).toInt := Eq.trans (congrArg Int32.toInt (rd_k (by decide))) rfl
              have e51 : ((((uI M 3 5 (v1 + 1)) 3 5) - ((uI M 3 5 (v1 + 1)) 3 6)) : Int32).toInt = ((v1.toInt + 1)) - ((M 3 6).toInt) := ti_sub e48 e50 (by omega)
              have d52 : ((((v1.toInt + 1) - (M 3 6).toInt)) : Int) ≤ (4) := ci_le e51 rfl c47
              refine ⟨vp_of (a := v1.toInt) rfl (by omega) (by omega), ?_⟩
              have hB53 : Bd (uI (uI M 3 5 (v1 + 1)) 3 11 ((((uI M 3 5 (v1 + 1)) 3 11) * 10) + (((uI M 3 5 (v1 + 1)) 4 (Int32.toNatClampNeg v1)) - 48))) := Bd.o0 hB45 io9_112_3_6 (by omega) bd9_6_11
              exact ih _ _ _ hB53 (Eq.trans (Eq.trans (rd_ne (by first | decide | omega)) (rd_ne (by first | decide | omega))) hk_7_1) (by have q0 : ((v1 + 1) : Int32).toInt = (v1.toInt + 1) := e46; omega) (by have q0 : ((v1 + 1) : Int32).toInt = (v1.toInt + 1) := e46; omega)
            · skip
              have e54 : (((uI M 3 5 (v1 + 1)) 3 5) : Int32).toInt = (v1.toInt + 1) := Eq.trans (congrArg Int32.toInt rd_eq) e46
              have b55 := Bd.o hB io9_112_3_6 bd9_6_6
              have e56 : (((uI M 3 5 (v1 + 1)) 3 6) : Int32).toInt = (M 3 6).toInt := Eq.trans (congrArg Int32.toInt (rd_k (by decide))) rfl
              have e57 : ((((uI M 3 5 (v1 + 1)) 3 5) - ((uI M 3 5 (v1 + 1)) 3 6)) : Int32).toInt = ((v1.toInt + 1)) - ((M 3 6).toInt) := ti_sub e54 e56 (by omega)
              have d58 : ((4) : Int) < (((v1.toInt + 1) - (M 3 6).toInt)) := ci_nle e57 rfl c47
              have hB59 : Bd (uI (uI M 3 5 (v1 + 1)) 3 11 0) := Bd.o0 hB45 io9_112_3_6 (by omega) bd9_6_11
              exact ih _ _ _ hB59 (Eq.trans (Eq.trans (rd_ne (by first | decide | omega)) (rd_ne (by first | decide | omega))) hk_7_1) (by have q0 : ((v1 + 1) : Int32).toInt = (v1.toInt + 1) := e46; omega) (by have q0 : ((v1 + 1) : Int32).toInt = (v1.toInt + 1) := e46; omega)
  refine sg_X6_readNumber_0 hc _ _ _ ?_
  have hB60 : Bd (uI I 3 11 0) := Bd.o0 hB0 io9_112_3_6 (by omega) bd9_6_11
  have b61 := Bd.o hB0 io9_112_3_6 bd9_6_6
  have e62 : (((uI I 3 11 0) 3 6) : Int32).toInt = (I 3 6).toInt := Eq.trans (congrArg Int32.toInt (rd_k (by decide))) rfl
  exact (L 1000000) _ _ _ hB60 (rd_ne (by first | decide | omega)) (by have q0 : (((uI I 3 11 0) 3 6) : Int32).toInt = (I 3 6).toInt := e62; omega) (by have q0 : (((uI I 3 11 0) 3 6) : Int32).toInt = (I 3 6).toInt := e62; omega)
set_option maxHeartbeats 2000000 in
theorem sp_X6_advance {d : Nat} {Q : Qt} {I : Im} {J : Jm} {R : Rm} (hB0 : Bd I) (hR0 : RI R) (hQ : ∀ (x : Int32) (y : Int64) (I2 : Im) (J2 : Jm), Bd I2 → (I2 7 1 = I 7 1) → Q x y I2 J2 R) : AM (d + 2) 62 112 [.ref 3] I J R Q := by
  refine am_X6_advance (fun P hc => ?_)
  have L : ∀ n : Nat, (∀ (v1 : Int32) (M : Im) (JM : Jm), Bd M → (M 7 1 = I 7 1) → (0 ≤ v1.toInt ∧ v1.toInt ≤ 900) → 2000 - v1.toInt < (n : Int) → P 13 112 [(0, .ref 3), (1, .int v1)] [] M JM R) ∧ (∀ (M : Im) (JM : Jm), Bd M → (M 7 1 = I 7 1) → (True) → 500 < (n : Int) → P 56 112 [(0, .ref 3)] [] M JM R) ∧ (∀ (v1 : Int32) (M : Im) (JM : Jm), Bd M → (M 7 1 = I 7 1) → ((M 3 5).toInt ≤ 899) → 300 < (n : Int) → P 115 112 [(0, .ref 3), (1, .int v1)] [] M JM R) ∧ (∀ (v1 : Int32) (M : Im) (JM : Jm), Bd M → (M 7 1 = I 7 1) → ((M 3 5).toInt ≤ 899) → 200 < (n : Int) → P 134 112 [(0, .ref 3), (1, .int v1)] [] M JM R) := by
    intro n
    induction n with
    | zero =>
      exact ⟨fun v1 M J _ _ hi hm => absurd hm (by omega), fun  M J _ _ hi hm => absurd hm (by omega), fun v1 M J _ _ hi hm => absurd hm (by omega), fun v1 M J _ _ hi hm => absurd hm (by omega)⟩
    | succ n ih =>
      refine ⟨?_, ?_, ?_, ?_⟩
      · skip
        intro v1 M JM hB hk_7_1 hi hm
        have i_v1 := i32 v1
        refine sg_X6_advance_13 hc _ _ _ _ ?_
        refine ⟨fun c1 => ?_, fun c1 => ?_⟩
        · skip
          have b2 := Bd.o hB io9_112_3_6 bd9_6_4
          have d3 : (((M 3 4).toInt) : Int) ≤ (v1.toInt) := ci_le rfl rfl c1
          exact ih.2.1 _ _ hB hk_7_1 trivial (by omega)
        · skip
          have b4 := Bd.o hB io9_112_3_6 bd9_6_4
          have d5 : ((v1.toInt) : Int) < ((M 3 4).toInt) := ci_nle rfl rfl c1
          refine ⟨vp_of (a := v1.toInt) rfl (by omega) (by omega), ?_⟩
          refine ⟨fun c6 => ?_, fun c6 => ?_⟩
          · skip
            have d7 : (((M 4 (Int32.toNatClampNeg v1)).toInt) : Int) = (32) := ci_eq rfl rfl c6
            have e9 : ((v1 + 1) : Int32).toInt = (v1.toInt) + (1) := ti_add rfl rfl (by omega)
            have hB8 : Bd (uI M 3 5 (v1 + 1)) := Bd.o1 hB io9_112_3_6 (by omega) bd9_6_5 (show ((v1 + 1) : Int32).toInt = (v1.toInt + 1) from e9) (by omega)
            exact ih.1 _ _ _ hB8 (Eq.trans (rd_ne (by first | decide | omega)) hk_7_1) (by have q0 : ((v1 + 1) : Int32).toInt = (v1.toInt + 1) := e9; omega) (by have q0 : ((v1 + 1) : Int32).toInt = (v1.toInt + 1) := e9; omega)
          · skip
            have d10 : ¬ (((M 4 (Int32.toNatClampNeg v1)).toInt) : Int) = (32) := ci_ne rfl rfl c6
            refine ⟨vp_of (a := v1.toInt) rfl (by omega) (by omega), ?_⟩
            refine ⟨fun c11 => ?_, fun c11 => ?_⟩
            · skip
              have d12 : ¬ (((M 4 (Int32.toNatClampNeg v1)).toInt) : Int) = (10) := ci_ne rfl rfl c11
              exact ih.2.1 _ _ hB hk_7_1 trivial (by omega)
            · skip
              have d13 : (((M 4 (Int32.toNatClampNeg v1)).toInt) : Int) = (10) := ci_eq rfl rfl c11
              have e15 : ((v1 + 1) : Int32).toInt = (v1.toInt) + (1) := ti_add rfl rfl (by omega)
              have hB14 : Bd (uI M 3 5 (v1 + 1)) := Bd.o1 hB io9_112_3_6 (by omega) bd9_6_5 (show ((v1 + 1) : Int32).toInt = (v1.toInt + 1) from e15) (by omega)
              exact ih.1 _ _ _ hB14 (Eq.trans (rd_ne (by first | decide | omega)) hk_7_1) (by have q0 : ((v1 + 1) : Int32).toInt = (v1.toInt + 1) := e15; omega) (by have q0 : ((v1 + 1) : Int32).toInt = (v1.toInt + 1) := e15; omega)
      · skip
        intro  M JM hB hk_7_1 hi hm
        refine sg_X6_advance_56 hc _ _ _ ?_
        have b17 := Bd.o hB io9_112_3_6 bd9_6_5
        have hB16 : Bd (uI M 3 6 (M 3 5)) := Bd.o1 hB io9_112_3_6 (by omega) bd9_6_6 (show ((M 3 5) : Int32).toInt = (M 3 5).toInt from rfl) (by omega)
        have hB18 : Bd (uI (uI M 3 6 (M 3 5)) 3 9 (-1)) := Bd.o0 hB16 io9_112_3_6 (by omega) bd9_6_9
        refine ⟨fun c19 => ?_, fun c19 => ?_⟩
        · skip
          have e20 : (((uI (uI M 3 6 (M 3 5)) 3 9 (-1)) 3 5) : Int32).toInt = (M 3 5).toInt := Eq.trans (congrArg Int32.toInt (Eq.trans (rd_k (by decide)) (rd_k (by decide)))) rfl
          have b21 := Bd.o hB io9_112_3_6 bd9_6_4
          have e22 : (((uI (uI M 3 6 (M 3 5)) 3 9 (-1)) 3 4) : Int32).toInt = (M 3 4).toInt := Eq.trans (congrArg Int32.toInt (Eq.trans (rd_k (by decide)) (rd_k (by decide)))) rfl
          have d23 : (((M 3 5).toInt) : Int) < ((M 3 4).toInt) := ci_lt e20 e22 c19
          refine ⟨vp_of (a := (M 3 5).toInt) e20 (by omega) (by omega), ?_⟩
          refine ⟨fun c24 => ?_, fun c24 => ?_⟩
          · skip
            have e25 : (((uI (uI M 3 6 (M 3 5)) 3 9 (-1)) 4 (Int32.toNatClampNeg ((uI (uI M 3 6 (M 3 5)) 3 9 (-1)) 3 5))) : Int32).toInt = (M 4 (Int32.toNatClampNeg (M 3 5))).toInt := Eq.trans (congrArg Int32.toInt (Eq.trans (Eq.trans (rd_ne (by first | decide | omega)) (rd_ne (by first | decide | omega))) (congrArg (fun z => M 4 (Int32.toNatClampNeg z)) (Eq.trans (rd_k (by decide)) (rd_k (by decide)))))) rfl
            have d26 : (((M 4 (Int32.toNatClampNeg (M 3 5))).toInt) : Int) < (97) := ci_lt e25 rfl c24
            exact ih.2.2.1 _ _ _ hB18 (Eq.trans (Eq.trans (rd_ne (by first | decide | omega)) (rd_ne (by first | decide | omega))) hk_7_1) (by have q0 : (((uI (uI M 3 6 (M 3 5)) 3 9 (-1)) 3 5) : Int32).toInt = (M 3 5).toInt := e20; omega) (by omega)
          · skip
            have e27 : (((uI (uI M 3 6 (M 3 5)) 3 9 (-1)) 4 (Int32.toNatClampNeg ((uI (uI M 3 6 (M 3 5)) 3 9 (-1)) 3 5))) : Int32).toInt = (M 4 (Int32.toNatClampNeg (M 3 5))).toInt := Eq.trans (congrArg Int32.toInt (Eq.trans (Eq.trans (rd_ne (by first | decide | omega)) (rd_ne (by first | decide | omega))) (congrArg (fun z => M 4 (Int32.toNatClampNeg z)) (Eq.trans (rd_k (by decide)) (rd_k (by decide)))))) rfl
            have d28 : ((97) : Int) ≤ ((M 4 (Int32.toNatClampNeg (M 3 5))).toInt) := ci_nlt e27 rfl c24
            refine ⟨fun c29 => ?_, fun c29 => ?_⟩
            · skip
              have d30 : ((122) : Int) < ((M 4 (Int32.toNatClampNeg (M 3 5))).toInt) := ci_lt rfl e27 c29
              exact ih.2.2.1 _ _ _ hB18 (Eq.trans (Eq.trans (rd_ne (by first | decide | omega)) (rd_ne (by first | decide | omega))) hk_7_1) (by have q0 : (((uI (uI M 3 6 (M 3 5)) 3 9 (-1)) 3 5) : Int32).toInt = (M 3 5).toInt := e20; omega) (by omega)
            · skip
              have d31 : (((M 4 (Int32.toNatClampNeg (M 3 5))).toInt) : Int) ≤ (122) := ci_nlt rfl e27 c29
              refine sp_X6_readWord hB18 hR0 (fun x32 y37 I33 J34 hB35 p36 => ?_)
              exact hQ _ _ _ _ hB35 (Eq.trans (Eq.trans (Eq.trans p36 (rd_ne (by first | decide | omega))) (rd_ne (by first | decide | omega))) hk_7_1)
        · skip
          have e38 : (((uI (uI M 3 6 (M 3 5)) 3 9 (-1)) 3 5) : Int32).toInt = (M 3 5).toInt := Eq.trans (congrArg Int32.toInt (Eq.trans (rd_k (by decide)) (rd_k (by decide)))) rfl
          have b39 := Bd.o hB io9_112_3_6 bd9_6_4
          have e40 : (((uI (uI M 3 6 (M 3 5)) 3 9 (-1)) 3 4) : Int32).toInt = (M 3 4).toInt := Eq.trans (congrArg Int32.toInt (Eq.trans (rd_k (by decide)) (rd_k (by decide)))) rfl
          have d41 : (((M 3 4).toInt) : Int) ≤ ((M 3 5).toInt) := ci_nlt e38 e40 c19
          have hB42 : Bd (uI (uI (uI M 3 6 (M 3 5)) 3 9 (-1)) 3 8 0) := Bd.o0 hB18 io9_112_3_6 (by omega) bd9_6_8
          exact hQ _ _ _ _ hB42 (Eq.trans (Eq.trans (Eq.trans (rd_ne (by first | decide | omega)) (rd_ne (by first | decide | omega))) (rd_ne (by first | decide | omega))) hk_7_1)
      · skip
        intro v1 M JM hB hk_7_1 hi hm
        have i_v1 := i32 v1
        refine sg_X6_advance_115 hc _ _ _ _ ?_
        have b43 := Bd.o hB io9_112_3_6 bd9_6_5
        refine ⟨fun c44 => ?_, fun c44 => ?_⟩
        · skip
          have d45 : ((v1.toInt) : Int) < (48) := ci_lt rfl rfl c44
          exact ih.2.2.2 _ _ _ hB hk_7_1 (by have q0 : ((M 3 5) : Int32).toInt = (M 3 5).toInt := rfl; omega) (by omega)
        · skip
          have d46 : ((48) : Int) ≤ (v1.toInt) := ci_nlt rfl rfl c44
          refine ⟨fun c47 => ?_, fun c47 => ?_⟩
          · skip
            have d48 : ((57) : Int) < (v1.toInt) := ci_lt rfl rfl c47
            exact ih.2.2.2 _ _ _ hB hk_7_1 (by have q0 : ((M 3 5) : Int32).toInt = (M 3 5).toInt := rfl; omega) (by omega)
          · skip
            have d49 : ((v1.toInt) : Int) ≤ (57) := ci_nlt rfl rfl c47
            refine sp_X6_readNumber hB hR0 (fun x50 y55 I51 J52 hB53 p54 => ?_)
            exact hQ _ _ _ _ hB53 (Eq.trans p54 hk_7_1)
      · skip
        intro v1 M JM hB hk_7_1 hi hm
        have i_v1 := i32 v1
        refine sg_X6_advance_134 hc _ _ _ _ ?_
        have b56 := Bd.o hB io9_112_3_6 bd9_6_5
        refine ⟨fun c57 => ?_, fun c57 => ?_⟩
        · skip
          have d58 : ((v1.toInt) : Int) = (59) := ci_eq rfl rfl c57
          have hB59 : Bd (uI M 3 8 3) := Bd.o0 hB io9_112_3_6 (by omega) bd9_6_8
          have hB60 : Bd (uI (uI M 3 8 3) 3 11 v1) := Bd.o0 hB59 io9_112_3_6 (by omega) bd9_6_11
          have e62 : (((uI (uI M 3 8 3) 3 11 v1) 3 5) : Int32).toInt = (M 3 5).toInt := Eq.trans (congrArg Int32.toInt (Eq.trans (rd_k (by decide)) (rd_k (by decide)))) rfl
          have e63 : ((((uI (uI M 3 8 3) 3 11 v1) 3 5) + 1) : Int32).toInt = ((M 3 5).toInt) + (1) := ti_add e62 rfl (by omega)
          have hB61 : Bd (uI (uI (uI M 3 8 3) 3 11 v1) 3 5 (((uI (uI M 3 8 3) 3 11 v1) 3 5) + 1)) := Bd.o1 hB60 io9_112_3_6 (by omega) bd9_6_5 (show ((((uI (uI M 3 8 3) 3 11 v1) 3 5) + 1) : Int32).toInt = ((M 3 5).toInt + 1) from e63) (by omega)
          exact hQ _ _ _ _ hB61 (Eq.trans (Eq.trans (Eq.trans (rd_ne (by first | decide | omega)) (rd_ne (by first | decide | omega))) (rd_ne (by first | decide | omega))) hk_7_1)
        · skip
          have d64 : ¬ ((v1.toInt) : Int) = (59) := ci_ne rfl rfl c57
          refine ⟨fun c65 => ?_, fun c65 => ?_⟩
          · skip
            have d66 : ((v1.toInt) : Int) = (60) := ci_eq rfl rfl c65
            have hB67 : Bd (uI M 3 8 3) := Bd.o0 hB io9_112_3_6 (by omega) bd9_6_8
            have hB68 : Bd (uI (uI M 3 8 3) 3 11 v1) := Bd.o0 hB67 io9_112_3_6 (by omega) bd9_6_11
            have e70 : (((uI (uI M 3 8 3) 3 11 v1) 3 5) : Int32).toInt = (M 3 5).toInt := Eq.trans (congrArg Int32.toInt (Eq.trans (rd_k (by decide)) (rd_k (by decide)))) rfl
            have e71 : ((((uI (uI M 3 8 3) 3 11 v1) 3 5) + 1) : Int32).toInt = ((M 3 5).toInt) + (1) := ti_add e70 rfl (by omega)
            have hB69 : Bd (uI (uI (uI M 3 8 3) 3 11 v1) 3 5 (((uI (uI M 3 8 3) 3 11 v1) 3 5) + 1)) := Bd.o1 hB68 io9_112_3_6 (by omega) bd9_6_5 (show ((((uI (uI M 3 8 3) 3 11 v1) 3 5) + 1) : Int32).toInt = ((M 3 5).toInt + 1) from e71) (by omega)
            exact hQ _ _ _ _ hB69 (Eq.trans (Eq.trans (Eq.trans (rd_ne (by first | decide | omega)) (rd_ne (by first | decide | omega))) (rd_ne (by first | decide | omega))) hk_7_1)
          · skip
            have d72 : ¬ ((v1.toInt) : Int) = (60) := ci_ne rfl rfl c65
            refine ⟨fun c73 => ?_, fun c73 => ?_⟩
            · skip
              have d74 : ((v1.toInt) : Int) = (62) := ci_eq rfl rfl c73
              have hB75 : Bd (uI M 3 8 3) := Bd.o0 hB io9_112_3_6 (by omega) bd9_6_8
              have hB76 : Bd (uI (uI M 3 8 3) 3 11 v1) := Bd.o0 hB75 io9_112_3_6 (by omega) bd9_6_11
              have e78 : (((uI (uI M 3 8 3) 3 11 v1) 3 5) : Int32).toInt = (M 3 5).toInt := Eq.trans (congrArg Int32.toInt (Eq.trans (rd_k (by decide)) (rd_k (by decide)))) rfl
              have e79 : ((((uI (uI M 3 8 3) 3 11 v1) 3 5) + 1) : Int32).toInt = ((M 3 5).toInt) + (1) := ti_add e78 rfl (by omega)
              have hB77 : Bd (uI (uI (uI M 3 8 3) 3 11 v1) 3 5 (((uI (uI M 3 8 3) 3 11 v1) 3 5) + 1)) := Bd.o1 hB76 io9_112_3_6 (by omega) bd9_6_5 (show ((((uI (uI M 3 8 3) 3 11 v1) 3 5) + 1) : Int32).toInt = ((M 3 5).toInt + 1) from e79) (by omega)
              exact hQ _ _ _ _ hB77 (Eq.trans (Eq.trans (Eq.trans (rd_ne (by first | decide | omega)) (rd_ne (by first | decide | omega))) (rd_ne (by first | decide | omega))) hk_7_1)
            · skip
              have d80 : ¬ ((v1.toInt) : Int) = (62) := ci_ne rfl rfl c73
              refine ⟨fun c81 => ?_, fun c81 => ?_⟩
              · skip
                have d82 : ¬ ((v1.toInt) : Int) = (61) := ci_ne rfl rfl c81
                have hB83 : Bd (uI M 3 8 4) := Bd.o0 hB io9_112_3_6 (by omega) bd9_6_8
                have hB84 : Bd (uI (uI M 3 8 4) 3 11 v1) := Bd.o0 hB83 io9_112_3_6 (by omega) bd9_6_11
                have e86 : (((uI (uI M 3 8 4) 3 11 v1) 3 5) : Int32).toInt = (M 3 5).toInt := Eq.trans (congrArg Int32.toInt (Eq.trans (rd_k (by decide)) (rd_k (by decide)))) rfl
                have e87 : ((((uI (uI M 3 8 4) 3 11 v1) 3 5) + 1) : Int32).toInt = ((M 3 5).toInt) + (1) := ti_add e86 rfl (by omega)
                have hB85 : Bd (uI (uI (uI M 3 8 4) 3 11 v1) 3 5 (((uI (uI M 3 8 4) 3 11 v1) 3 5) + 1)) := Bd.o1 hB84 io9_112_3_6 (by omega) bd9_6_5 (show ((((uI (uI M 3 8 4) 3 11 v1) 3 5) + 1) : Int32).toInt = ((M 3 5).toInt + 1) from e87) (by omega)
                exact hQ _ _ _ _ hB85 (Eq.trans (Eq.trans (Eq.trans (rd_ne (by first | decide | omega)) (rd_ne (by first | decide | omega))) (rd_ne (by first | decide | omega))) hk_7_1)
              · skip
                have d88 : ((v1.toInt) : Int) = (61) := ci_eq rfl rfl c81
                have hB89 : Bd (uI M 3 8 3) := Bd.o0 hB io9_112_3_6 (by omega) bd9_6_8
                have hB90 : Bd (uI (uI M 3 8 3) 3 11 v1) := Bd.o0 hB89 io9_112_3_6 (by omega) bd9_6_11
                have e92 : (((uI (uI M 3 8 3) 3 11 v1) 3 5) : Int32).toInt = (M 3 5).toInt := Eq.trans (congrArg Int32.toInt (Eq.trans (rd_k (by decide)) (rd_k (by decide)))) rfl
                have e93 : ((((uI (uI M 3 8 3) 3 11 v1) 3 5) + 1) : Int32).toInt = ((M 3 5).toInt) + (1) := ti_add e92 rfl (by omega)
                have hB91 : Bd (uI (uI (uI M 3 8 3) 3 11 v1) 3 5 (((uI (uI M 3 8 3) 3 11 v1) 3 5) + 1)) := Bd.o1 hB90 io9_112_3_6 (by omega) bd9_6_5 (show ((((uI (uI M 3 8 3) 3 11 v1) 3 5) + 1) : Int32).toInt = ((M 3 5).toInt + 1) from e93) (by omega)
                exact hQ _ _ _ _ hB91 (Eq.trans (Eq.trans (Eq.trans (rd_ne (by first | decide | omega)) (rd_ne (by first | decide | omega))) (rd_ne (by first | decide | omega))) hk_7_1)
  refine sg_X6_advance_0 hc _ _ _ ?_
  have hB94 : Bd (uI I 3 7 (I 3 6)) := Bd.o0 hB0 io9_112_3_6 (by omega) bd9_6_7
  have b95 := Bd.o hB0 io9_112_3_6 bd9_6_5
  have e96 : (((uI I 3 7 (I 3 6)) 3 5) : Int32).toInt = (I 3 5).toInt := Eq.trans (congrArg Int32.toInt (rd_k (by decide))) rfl
  exact (L 1000000).1 _ _ _ hB94 (rd_ne (by first | decide | omega)) (by have q0 : (((uI I 3 7 (I 3 6)) 3 5) : Int32).toInt = (I 3 5).toInt := e96; omega) (by have q0 : (((uI I 3 7 (I 3 6)) 3 5) : Int32).toInt = (I 3 5).toInt := e96; omega)
set_option maxHeartbeats 2000000 in
theorem sp_X6_open {d : Nat} {Q : Qt} {v1 : Int32} {I : Im} {J : Jm} {R : Rm} (hB0 : Bd I) (hR0 : RI R) (hQ : ∀ (x : Int32) (y : Int64) (I2 : Im) (J2 : Jm), Bd I2 → (((I2 3 1).toInt = 0)) → Q x y I2 J2 R) : AM (d + 3) 61 112 [.ref 3, .int v1] I J R Q := by
  have i_v1 := i32 v1
  refine w_X6_open ?_
  have b2 := Bd.o hB0 io9_112_3_6 bd9_6_1
  have e3 : ((if ((I 3 1) : Int32) < v1 then (I 3 1) else v1) : Int32).toInt = min (v1.toInt) ((I 3 1).toInt) := ti_min rfl rfl
  have e4 : ((if (0 : Int32) < (if ((I 3 1) : Int32) < v1 then (I 3 1) else v1) then (if ((I 3 1) : Int32) < v1 then (I 3 1) else v1) else 0) : Int32).toInt = max (0) ((min (v1.toInt) ((I 3 1).toInt))) := ti_max rfl e3
  have hB1 : Bd (uI I 3 4 (if (0 : Int32) < (if ((I 3 1) : Int32) < v1 then (I 3 1) else v1) then (if ((I 3 1) : Int32) < v1 then (I 3 1) else v1) else 0)) := Bd.o1 hB0 io9_112_3_6 (by omega) bd9_6_4 (show ((if (0 : Int32) < (if ((I 3 1) : Int32) < v1 then (I 3 1) else v1) then (if ((I 3 1) : Int32) < v1 then (I 3 1) else v1) else 0) : Int32).toInt = (max (0) ((min (v1.toInt) ((I 3 1).toInt)))) from e4) (by omega)
  have hB5 : Bd (uI (uI I 3 4 (if (0 : Int32) < (if ((I 3 1) : Int32) < v1 then (I 3 1) else v1) then (if ((I 3 1) : Int32) < v1 then (I 3 1) else v1) else 0)) 3 1 0) := Bd.o1 hB1 io9_112_3_6 (by omega) bd9_6_1 (show (0 : Int32).toInt = 0 from rfl) (by omega)
  refine ⟨Or.inr rfl, ?_⟩
  have hB6 : Bd (uI (uI (uI I 3 4 (if (0 : Int32) < (if ((I 3 1) : Int32) < v1 then (I 3 1) else v1) then (if ((I 3 1) : Int32) < v1 then (I 3 1) else v1) else 0)) 3 1 0) 3 3 1) := Bd.o1 hB5 io9_112_3_6 (by omega) bd9_6_3 rfl (bl_ti (Or.inr rfl))
  have hB7 : Bd (uI (uI (uI (uI I 3 4 (if (0 : Int32) < (if ((I 3 1) : Int32) < v1 then (I 3 1) else v1) then (if ((I 3 1) : Int32) < v1 then (I 3 1) else v1) else 0)) 3 1 0) 3 3 1) 3 5 0) := Bd.o1 hB6 io9_112_3_6 (by omega) bd9_6_5 (show (0 : Int32).toInt = 0 from rfl) (by omega)
  have hB8 : Bd (uI (uI (uI (uI (uI I 3 4 (if (0 : Int32) < (if ((I 3 1) : Int32) < v1 then (I 3 1) else v1) then (if ((I 3 1) : Int32) < v1 then (I 3 1) else v1) else 0)) 3 1 0) 3 3 1) 3 5 0) 3 12 0) := Bd.o0 hB7 io9_112_3_6 (by omega) bd9_6_12
  have hB9 : Bd (uI (uI (uI (uI (uI (uI I 3 4 (if (0 : Int32) < (if ((I 3 1) : Int32) < v1 then (I 3 1) else v1) then (if ((I 3 1) : Int32) < v1 then (I 3 1) else v1) else 0)) 3 1 0) 3 3 1) 3 5 0) 3 12 0) 3 13 (-1)) := Bd.o0 hB8 io9_112_3_6 (by omega) bd9_6_13
  refine kp0 rfl (sp_X6_advance hB9 hR0 (fun x10 y15 I11 J12 hB13 p14 kq16 => ?_))
  have e17 : ((I11 3 1) : Int32).toInt = 0 := Eq.trans (congrArg Int32.toInt (Eq.trans (Eq.trans (Eq.trans (Eq.trans (Eq.trans kq16 (rd_k (by decide))) (rd_k (by decide))) (rd_k (by decide))) (rd_k (by decide))) rd_eq)) rfl
  exact hQ _ _ _ _ hB13 (by have q1 : ((I11 3 1) : Int32).toInt = 0 := e17; omega)
set_option maxHeartbeats 2000000 in
theorem sp_X6_takeNumber {d : Nat} {Q : Qt} {v1 : Int32} {v2 : Int32} {I : Im} {J : Jm} {R : Rm} (hB0 : Bd I) (hR0 : RI R) (hQ : ∀ (x : Int32) (y : Int64) (I2 : Im) (J2 : Jm), Bd I2 → (I2 7 1 = I 7 1) → Q x y I2 J2 R) : AM (d + 3) 72 112 [.ref 3, .int v1, .int v2] I J R Q := by
  have i_v1 := i32 v1
  have i_v2 := i32 v2
  refine w_X6_takeNumber ?_
  refine ⟨fun c1 => ?_, fun c1 => ?_⟩
  · skip
    have d2 : (((I 3 8).toInt) : Int) = (2) := ci_eq rfl rfl c1
    refine sp_X6_advance hB0 hR0 (fun x3 y8 I4 J5 hB6 p7 => ?_)
    refine ⟨fun c9 => ?_, fun c9 => ?_⟩
    · skip
      have d10 : (((I 3 11).toInt) : Int) < (v1.toInt) := ci_lt rfl rfl c9
      refine w_X6_wrongTaken ?_
      refine w_X6_wrong ?_
      have hB11 : Bd (uI I4 3 12 4) := Bd.o0 hB6 io9_112_3_6 (by omega) bd9_6_12
      have hB12 : Bd (uI (uI I4 3 12 4) 3 13 (I4 3 7)) := Bd.o0 hB11 io9_112_3_6 (by omega) bd9_6_13
      refine ⟨Or.inl rfl, ?_⟩
      intro o13
      refine ⟨Or.inl rfl, ?_⟩
      intro o14
      exact hQ _ _ _ _ hB12 (Eq.trans (Eq.trans (rd_ne (by first | decide | omega)) (rd_ne (by first | decide | omega))) p7)
    · skip
      have d15 : ((v1.toInt) : Int) ≤ ((I 3 11).toInt) := ci_nlt rfl rfl c9
      refine ⟨fun c16 => ?_, fun c16 => ?_⟩
      · skip
        have d17 : (((I 3 11).toInt) : Int) ≤ (v2.toInt) := ci_le rfl rfl c16
        exact hQ _ _ _ _ hB6 p7
      · skip
        have d18 : ((v2.toInt) : Int) < ((I 3 11).toInt) := ci_nle rfl rfl c16
        refine w_X6_wrongTaken ?_
        refine w_X6_wrong ?_
        have hB19 : Bd (uI I4 3 12 4) := Bd.o0 hB6 io9_112_3_6 (by omega) bd9_6_12
        have hB20 : Bd (uI (uI I4 3 12 4) 3 13 (I4 3 7)) := Bd.o0 hB19 io9_112_3_6 (by omega) bd9_6_13
        refine ⟨Or.inl rfl, ?_⟩
        intro o21
        refine ⟨Or.inl rfl, ?_⟩
        intro o22
        exact hQ _ _ _ _ hB20 (Eq.trans (Eq.trans (rd_ne (by first | decide | omega)) (rd_ne (by first | decide | omega))) p7)
  · skip
    have d23 : ¬ (((I 3 8).toInt) : Int) = (2) := ci_ne rfl rfl c1
    refine w_X6_misplaced ?_
    refine ⟨fun c24 => ?_, fun c24 => ?_⟩
    · skip
      have d25 : ¬ (((I 3 8).toInt) : Int) = (4) := ci_ne rfl rfl c24
      refine w_X6_wrong ?_
      have hB26 : Bd (uI I 3 12 2) := Bd.o0 hB0 io9_112_3_6 (by omega) bd9_6_12
      have hB27 : Bd (uI (uI I 3 12 2) 3 13 (I 3 6)) := Bd.o0 hB26 io9_112_3_6 (by omega) bd9_6_13
      refine ⟨Or.inl rfl, ?_⟩
      intro o28
      refine ⟨Or.inl rfl, ?_⟩
      intro o29
      exact hQ _ _ _ _ hB27 (Eq.trans (rd_ne (by first | decide | omega)) (rd_ne (by first | decide | omega)))
    · skip
      have d30 : (((I 3 8).toInt) : Int) = (4) := ci_eq rfl rfl c24
      refine w_X6_wrong ?_
      have hB31 : Bd (uI I 3 12 1) := Bd.o0 hB0 io9_112_3_6 (by omega) bd9_6_12
      have hB32 : Bd (uI (uI I 3 12 1) 3 13 (I 3 6)) := Bd.o0 hB31 io9_112_3_6 (by omega) bd9_6_13
      refine ⟨Or.inl rfl, ?_⟩
      intro o33
      refine ⟨Or.inl rfl, ?_⟩
      intro o34
      exact hQ _ _ _ _ hB32 (Eq.trans (rd_ne (by first | decide | omega)) (rd_ne (by first | decide | omega)))
set_option maxHeartbeats 2000000 in
theorem sp_X6_takeName {d : Nat} {Q : Qt} {I : Im} {J : Jm} {R : Rm} (hB0 : Bd I) (hR0 : RI R) (hQ : ∀ (x : Int32) (y : Int64) (I2 : Im) (J2 : Jm), Bd I2 → (I2 7 1 = I 7 1) → Q x y I2 J2 R) : AM (d + 3) 73 112 [.ref 3] I J R Q := by
  refine w_X6_takeName ?_
  refine ⟨fun c1 => ?_, fun c1 => ?_⟩
  · skip
    have d2 : ¬ (((I 3 9).toInt) : Int) = (0) := ci_ne rfl rfl c1
    refine w_X6_misplaced ?_
    refine ⟨fun c3 => ?_, fun c3 => ?_⟩
    · skip
      have d4 : ¬ (((I 3 8).toInt) : Int) = (4) := ci_ne rfl rfl c3
      refine w_X6_wrong ?_
      have hB5 : Bd (uI I 3 12 2) := Bd.o0 hB0 io9_112_3_6 (by omega) bd9_6_12
      have hB6 : Bd (uI (uI I 3 12 2) 3 13 (I 3 6)) := Bd.o0 hB5 io9_112_3_6 (by omega) bd9_6_13
      refine ⟨Or.inl rfl, ?_⟩
      intro o7
      refine ⟨Or.inl rfl, ?_⟩
      intro o8
      exact hQ _ _ _ _ hB6 (Eq.trans (rd_ne (by first | decide | omega)) (rd_ne (by first | decide | omega)))
    · skip
      have d9 : (((I 3 8).toInt) : Int) = (4) := ci_eq rfl rfl c3
      refine w_X6_wrong ?_
      have hB10 : Bd (uI I 3 12 1) := Bd.o0 hB0 io9_112_3_6 (by omega) bd9_6_12
      have hB11 : Bd (uI (uI I 3 12 1) 3 13 (I 3 6)) := Bd.o0 hB10 io9_112_3_6 (by omega) bd9_6_13
      refine ⟨Or.inl rfl, ?_⟩
      intro o12
      refine ⟨Or.inl rfl, ?_⟩
      intro o13
      exact hQ _ _ _ _ hB11 (Eq.trans (rd_ne (by first | decide | omega)) (rd_ne (by first | decide | omega)))
  · skip
    have d14 : (((I 3 9).toInt) : Int) = (0) := ci_eq rfl rfl c1
    refine ⟨fun c15 => ?_, fun c15 => ?_⟩
    · skip
      rw [lg_cmp_eq] at c15
      have d16 : ¬ ((((J 3 10) : Int64).toInt) : Int) = (0) := cl_ne rfl rfl c15
      refine sp_X6_advance hB0 hR0 (fun x17 y22 I18 J19 hB20 p21 => ?_)
      exact hQ _ _ _ _ hB20 p21
    · skip
      rw [lg_cmp_eq] at c15
      have d23 : ((((J 3 10) : Int64).toInt) : Int) = (0) := cl_eq rfl rfl c15
      refine w_X6_misplaced ?_
      refine ⟨fun c24 => ?_, fun c24 => ?_⟩
      · skip
        have d25 : ¬ (((I 3 8).toInt) : Int) = (4) := ci_ne rfl rfl c24
        refine w_X6_wrong ?_
        have hB26 : Bd (uI I 3 12 2) := Bd.o0 hB0 io9_112_3_6 (by omega) bd9_6_12
        have hB27 : Bd (uI (uI I 3 12 2) 3 13 (I 3 6)) := Bd.o0 hB26 io9_112_3_6 (by omega) bd9_6_13
        refine ⟨Or.inl rfl, ?_⟩
        intro o28
        refine ⟨Or.inl rfl, ?_⟩
        intro o29
        exact hQ _ _ _ _ hB27 (Eq.trans (rd_ne (by first | decide | omega)) (rd_ne (by first | decide | omega)))
      · skip
        have d30 : (((I 3 8).toInt) : Int) = (4) := ci_eq rfl rfl c24
        refine w_X6_wrong ?_
        have hB31 : Bd (uI I 3 12 1) := Bd.o0 hB0 io9_112_3_6 (by omega) bd9_6_12
        have hB32 : Bd (uI (uI I 3 12 1) 3 13 (I 3 6)) := Bd.o0 hB31 io9_112_3_6 (by omega) bd9_6_13
        refine ⟨Or.inl rfl, ?_⟩
        intro o33
        refine ⟨Or.inl rfl, ?_⟩
        intro o34
        exact hQ _ _ _ _ hB32 (Eq.trans (rd_ne (by first | decide | omega)) (rd_ne (by first | decide | omega)))
set_option maxHeartbeats 2000000 in
theorem sp_X6_takeAny {d : Nat} {Q : Qt} {I : Im} {J : Jm} {R : Rm} (hB0 : Bd I) (hR0 : RI R) (hQ : ∀ (x : Int32) (y : Int64) (I2 : Im) (J2 : Jm), Bd I2 → (I2 7 1 = I 7 1) → Q x y I2 J2 R) : AM (d + 3) 68 112 [.ref 3] I J R Q := by
  refine w_X6_takeAny ?_
  refine sp_X6_advance hB0 hR0 (fun x1 y6 I2 J3 hB4 p5 => ?_)
  refine ⟨Or.inr rfl, ?_⟩
  exact hQ _ _ _ _ hB4 p5
set_option maxHeartbeats 2000000 in
theorem sp_X6_takeWord {d : Nat} {Q : Qt} {v1 : Int32} {I : Im} {J : Jm} {R : Rm} (hB0 : Bd I) (hR0 : RI R) (hQ : ∀ (x : Int32) (y : Int64) (I2 : Im) (J2 : Jm), Bd I2 → (I2 7 1 = I 7 1) → Q x y I2 J2 R) : AM (d + 4) 69 112 [.ref 3, .int v1] I J R Q := by
  have i_v1 := i32 v1
  refine w_X6_takeWord ?_
  refine ⟨fun c1 => ?_, fun c1 => ?_⟩
  · skip
    have d2 : ¬ (((I 3 9).toInt) : Int) = (v1.toInt) := ci_ne rfl rfl c1
    refine w_X6_misplaced ?_
    refine ⟨fun c3 => ?_, fun c3 => ?_⟩
    · skip
      have d4 : ¬ (((I 3 8).toInt) : Int) = (4) := ci_ne rfl rfl c3
      refine w_X6_wrong ?_
      have hB5 : Bd (uI I 3 12 2) := Bd.o0 hB0 io9_112_3_6 (by omega) bd9_6_12
      have hB6 : Bd (uI (uI I 3 12 2) 3 13 (I 3 6)) := Bd.o0 hB5 io9_112_3_6 (by omega) bd9_6_13
      refine ⟨Or.inl rfl, ?_⟩
      intro o7
      refine ⟨Or.inl rfl, ?_⟩
      intro o8
      refine ⟨Or.inl rfl, ?_⟩
      exact hQ _ _ _ _ hB6 (Eq.trans (rd_ne (by first | decide | omega)) (rd_ne (by first | decide | omega)))
    · skip
      have d9 : (((I 3 8).toInt) : Int) = (4) := ci_eq rfl rfl c3
      refine w_X6_wrong ?_
      have hB10 : Bd (uI I 3 12 1) := Bd.o0 hB0 io9_112_3_6 (by omega) bd9_6_12
      have hB11 : Bd (uI (uI I 3 12 1) 3 13 (I 3 6)) := Bd.o0 hB10 io9_112_3_6 (by omega) bd9_6_13
      refine ⟨Or.inl rfl, ?_⟩
      intro o12
      refine ⟨Or.inl rfl, ?_⟩
      intro o13
      refine ⟨Or.inl rfl, ?_⟩
      exact hQ _ _ _ _ hB11 (Eq.trans (rd_ne (by first | decide | omega)) (rd_ne (by first | decide | omega)))
  · skip
    have d14 : (((I 3 9).toInt) : Int) = (v1.toInt) := ci_eq rfl rfl c1
    refine sp_X6_takeAny hB0 hR0 (fun x15 y20 I16 J17 hB18 p19 => ?_)
    intro o21
    have i22 := i32 x15
    refine ⟨o21, ?_⟩
    exact hQ _ _ _ _ hB18 p19
set_option maxHeartbeats 2000000 in
theorem sp_X6_takeSemicolon {d : Nat} {Q : Qt} {I : Im} {J : Jm} {R : Rm} (hB0 : Bd I) (hR0 : RI R) (hQ : ∀ (x : Int32) (y : Int64) (I2 : Im) (J2 : Jm), Bd I2 → (I2 7 1 = I 7 1) → Q x y I2 J2 R) : AM (d + 4) 70 112 [.ref 3] I J R Q := by
  refine w_X6_takeSemicolon ?_
  refine ⟨fun c1 => ?_, fun c1 => ?_⟩
  · skip
    have d2 : ¬ (((I 3 8).toInt) : Int) = (3) := ci_ne rfl rfl c1
    refine w_X6_misplaced ?_
    refine ⟨fun c3 => ?_, fun c3 => ?_⟩
    · skip
      have d4 : ¬ (((I 3 8).toInt) : Int) = (4) := ci_ne rfl rfl c3
      refine w_X6_wrong ?_
      have hB5 : Bd (uI I 3 12 2) := Bd.o0 hB0 io9_112_3_6 (by omega) bd9_6_12
      have hB6 : Bd (uI (uI I 3 12 2) 3 13 (I 3 6)) := Bd.o0 hB5 io9_112_3_6 (by omega) bd9_6_13
      refine ⟨Or.inl rfl, ?_⟩
      intro o7
      refine ⟨Or.inl rfl, ?_⟩
      intro o8
      refine ⟨Or.inl rfl, ?_⟩
      exact hQ _ _ _ _ hB6 (Eq.trans (rd_ne (by first | decide | omega)) (rd_ne (by first | decide | omega)))
    · skip
      have d9 : (((I 3 8).toInt) : Int) = (4) := ci_eq rfl rfl c3
      refine w_X6_wrong ?_
      have hB10 : Bd (uI I 3 12 1) := Bd.o0 hB0 io9_112_3_6 (by omega) bd9_6_12
      have hB11 : Bd (uI (uI I 3 12 1) 3 13 (I 3 6)) := Bd.o0 hB10 io9_112_3_6 (by omega) bd9_6_13
      refine ⟨Or.inl rfl, ?_⟩
      intro o12
      refine ⟨Or.inl rfl, ?_⟩
      intro o13
      refine ⟨Or.inl rfl, ?_⟩
      exact hQ _ _ _ _ hB11 (Eq.trans (rd_ne (by first | decide | omega)) (rd_ne (by first | decide | omega)))
  · skip
    have d14 : (((I 3 8).toInt) : Int) = (3) := ci_eq rfl rfl c1
    refine ⟨fun c15 => ?_, fun c15 => ?_⟩
    · skip
      have d16 : ¬ (((I 3 11).toInt) : Int) = (59) := ci_ne rfl rfl c15
      refine w_X6_misplaced ?_
      refine ⟨fun c17 => ?_, fun c17 => ?_⟩
      · skip
        have d18 : ¬ (((I 3 8).toInt) : Int) = (4) := ci_ne rfl rfl c17
        refine w_X6_wrong ?_
        have hB19 : Bd (uI I 3 12 2) := Bd.o0 hB0 io9_112_3_6 (by omega) bd9_6_12
        have hB20 : Bd (uI (uI I 3 12 2) 3 13 (I 3 6)) := Bd.o0 hB19 io9_112_3_6 (by omega) bd9_6_13
        refine ⟨Or.inl rfl, ?_⟩
        intro o21
        refine ⟨Or.inl rfl, ?_⟩
        intro o22
        refine ⟨Or.inl rfl, ?_⟩
        exact hQ _ _ _ _ hB20 (Eq.trans (rd_ne (by first | decide | omega)) (rd_ne (by first | decide | omega)))
      · skip
        have d23 : (((I 3 8).toInt) : Int) = (4) := ci_eq rfl rfl c17
        refine w_X6_wrong ?_
        have hB24 : Bd (uI I 3 12 1) := Bd.o0 hB0 io9_112_3_6 (by omega) bd9_6_12
        have hB25 : Bd (uI (uI I 3 12 1) 3 13 (I 3 6)) := Bd.o0 hB24 io9_112_3_6 (by omega) bd9_6_13
        refine ⟨Or.inl rfl, ?_⟩
        intro o26
        refine ⟨Or.inl rfl, ?_⟩
        intro o27
        refine ⟨Or.inl rfl, ?_⟩
        exact hQ _ _ _ _ hB25 (Eq.trans (rd_ne (by first | decide | omega)) (rd_ne (by first | decide | omega)))
    · skip
      have d28 : (((I 3 11).toInt) : Int) = (59) := ci_eq rfl rfl c15
      refine sp_X6_takeAny hB0 hR0 (fun x29 y34 I30 J31 hB32 p33 => ?_)
      intro o35
      have i36 := i32 x29
      refine ⟨o35, ?_⟩
      exact hQ _ _ _ _ hB32 p33
