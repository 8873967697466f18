set_option maxHeartbeats 2000000 in
theorem sp_X9_countWithin {d : Nat} {Q : Qt} {v1 : Int32} {v2 : Int64} {I : Im} {J : Jm} {R : Rm} (hB0 : Bd I) (hR0 : RI R) (hQ : ∀ (x : Int32) (y : Int64) (I2 : Im) (J2 : Jm), Bd I2 → (True) → Q x y I2 J2 R) : AM (d + 2) 93 112 [.ref 45, .int v1, .long v2] I J R Q := by
  have i_v1 := i32 v1
  have i_v2 := i64 v2
  refine am_X9_countWithin (fun P hc => ?_)
  have L : ∀ n : Nat, (∀ (v4 : Int64) (v6 : Int32) (M : Im) (JM : Jm), Bd M → (0 ≤ v6.toInt ∧ v6.toInt ≤ 4096) → 5000 - v6.toInt < (n : Int) → P 6 112 [(0, .ref 45), (1, .int v1), (2, .long v2), (4, .long v4), (6, .int v6)] [] M JM R) := by
    intro n
    induction n with
    | zero =>
      exact fun v4 v6 M J _ hi hm => absurd hm (by omega)
    | succ n ih =>
      intro v4 v6 M JM hB hi hm
      have i_v1 := i32 v1
      have i_v2 := i64 v2
      have i_v4 := i64 v4
      have i_v6 := i32 v6
      refine sg_X9_countWithin_6 hc _ _ _ _ _ _ _ ?_
      refine ⟨fun c1 => ?_, fun c1 => ?_⟩
      · skip
        have b2 := Bd.o hB io9_112_45_9 bd9_9_1
        have s3 := shl1 (show ((M 45 1) : Int32).toInt = (M 45 1).toInt from rfl) (by omega)
        have d4 : ((((1 <<< ((M 45 1) &&& 31)) : Int32).toInt) : Int) ≤ (v6.toInt) := ci_le rfl rfl c1
        exact hQ _ _ _ _ hB trivial
      · skip
        have b5 := Bd.o hB io9_112_45_9 bd9_9_1
        have s6 := shl1 (show ((M 45 1) : Int32).toInt = (M 45 1).toInt from rfl) (by omega)
        have d7 : ((v6.toInt) : Int) < (((1 <<< ((M 45 1) &&& 31)) : Int32).toInt) := ci_nle rfl rfl c1
        refine w_J6_bitCount_0f7a4 ?_
        refine ⟨fun c8 => ?_, fun c8 => ?_⟩
        · skip
          have d9 : ¬ (((((((((((v6 - ((Int32.toUInt32 v6 >>> (Int32.toUInt32 1 &&& Int32.toUInt32 31)).toInt32 &&& 1431655765)) &&& 858993459) + ((Int32.toUInt32 (v6 - ((Int32.toUInt32 v6 >>> (Int32.toUInt32 1 &&& Int32.toUInt32 31)).toInt32 &&& 1431655765)) >>> (Int32.toUInt32 2 &&& Int32.toUInt32 31)).toInt32 &&& 858993459)) + (Int32.toUInt32 (((v6 - ((Int32.toUInt32 v6 >>> (Int32.toUInt32 1 &&& Int32.toUInt32 31)).toInt32 &&& 1431655765)) &&& 858993459) + ((Int32.toUInt32 (v6 - ((Int32.toUInt32 v6 >>> (Int32.toUInt32 1 &&& Int32.toUInt32 31)).toInt32 &&& 1431655765)) >>> (Int32.toUInt32 2 &&& Int32.toUInt32 31)).toInt32 &&& 858993459)) >>> (Int32.toUInt32 4 &&& Int32.toUInt32 31)).toInt32) &&& 252645135) + (Int32.toUInt32 (((((v6 - ((Int32.toUInt32 v6 >>> (Int32.toUInt32 1 &&& Int32.toUInt32 31)).toInt32 &&& 1431655765)) &&& 858993459) + ((Int32.toUInt32 (v6 - ((Int32.toUInt32 v6 >>> (Int32.toUInt32 1 &&& Int32.toUInt32 31)).toInt32 &&& 1431655765)) >>> (Int32.toUInt32 2 &&& Int32.toUInt32 31)).toInt32 &&& 858993459)) + (Int32.toUInt32 (((v6 - ((Int32.toUInt32 v6 >>> (Int32.toUInt32 1 &&& Int32.toUInt32 31)).toInt32 &&& 1431655765)) &&& 858993459) + ((Int32.toUInt32 (v6 - ((Int32.toUInt32 v6 >>> (Int32.toUInt32 1 &&& Int32.toUInt32 31)).toInt32 &&& 1431655765)) >>> (Int32.toUInt32 2 &&& Int32.toUInt32 31)).toInt32 &&& 858993459)) >>> (Int32.toUInt32 4 &&& Int32.toUInt32 31)).toInt32) &&& 252645135) >>> (Int32.toUInt32 8 &&& Int32.toUInt32 31)).toInt32) + (Int32.toUInt32 ((((((v6 - ((Int32.toUInt32 v6 >>> (Int32.toUInt32 1 &&& Int32.toUInt32 31)).toInt32 &&& 1431655765)) &&& 858993459) + ((Int32.toUInt32 (v6 - ((Int32.toUInt32 v6 >>> (Int32.toUInt32 1 &&& Int32.toUInt32 31)).toInt32 &&& 1431655765)) >>> (Int32.toUInt32 2 &&& Int32.toUInt32 31)).toInt32 &&& 858993459)) + (Int32.toUInt32 (((v6 - ((Int32.toUInt32 v6 >>> (Int32.toUInt32 1 &&& Int32.toUInt32 31)).toInt32 &&& 1431655765)) &&& 858993459) + ((Int32.toUInt32 (v6 - ((Int32.toUInt32 v6 >>> (Int32.toUInt32 1 &&& Int32.toUInt32 31)).toInt32 &&& 1431655765)) >>> (Int32.toUInt32 2 &&& Int32.toUInt32 31)).toInt32 &&& 858993459)) >>> (Int32.toUInt32 4 &&& Int32.toUInt32 31)).toInt32) &&& 252645135) + (Int32.toUInt32 (((((v6 - ((Int32.toUInt32 v6 >>> (Int32.toUInt32 1 &&& Int32.toUInt32 31)).toInt32 &&& 1431655765)) &&& 858993459) + ((Int32.toUInt32 (v6 - ((Int32.toUInt32 v6 >>> (Int32.toUInt32 1 &&& Int32.toUInt32 31)).toInt32 &&& 1431655765)) >>> (Int32.toUInt32 2 &&& Int32.toUInt32 31)).toInt32 &&& 858993459)) + (Int32.toUInt32 (((v6 - ((Int32.toUInt32 v6 >>> (Int32.toUInt32 1 &&& Int32.toUInt32 31)).toInt32 &&& 1431655765)) &&& 858993459) + ((Int32.toUInt32 (v6 - ((Int32.toUInt32 v6 >>> (Int32.toUInt32 1 &&& Int32.toUInt32 31)).toInt32 &&& 1431655765)) >>> (Int32.toUInt32 2 &&& Int32.toUInt32 31)).toInt32 &&& 858993459)) >>> (Int32.toUInt32 4 &&& Int32.toUInt32 31)).toInt32) &&& 252645135) >>> (Int32.toUInt32 8 &&& Int32.toUInt32 31)).toInt32) >>> (Int32.toUInt32 16 &&& Int32.toUInt32 31)).toInt32) &&& 63) : Int32).toInt) : Int) = (v1.toInt) := ci_ne rfl rfl c8
          have e10 : ((v6 + 1) : Int32).toInt = (v6.toInt) + (1) := ti_add rfl rfl (by omega)
          exact ih _ _ _ _ hB (by have q0 : ((v6 + 1) : Int32).toInt = (v6.toInt + 1) := e10; omega) (by have q0 : ((v6 + 1) : Int32).toInt = (v6.toInt + 1) := e10; omega)
        · skip
          have d11 : (((((((((((v6 - ((Int32.toUInt32 v6 >>> (Int32.toUInt32 1 &&& Int32.toUInt32 31)).toInt32 &&& 1431655765)) &&& 858993459) + ((Int32.toUInt32 (v6 - ((Int32.toUInt32 v6 >>> (Int32.toUInt32 1 &&& Int32.toUInt32 31)).toInt32 &&& 1431655765)) >>> (Int32.toUInt32 2 &&& Int32.toUInt32 31)).toInt32 &&& 858993459)) + (Int32.toUInt32 (((v6 - ((Int32.toUInt32 v6 >>> (Int32.toUInt32 1 &&& Int32.toUInt32 31)).toInt32 &&& 1431655765)) &&& 858993459) + ((Int32.toUInt32 (v6 - ((Int32.toUInt32 v6 >>> (Int32.toUInt32 1 &&& Int32.toUInt32 31)).toInt32 &&& 1431655765)) >>> (Int32.toUInt32 2 &&& Int32.toUInt32 31)).toInt32 &&& 858993459)) >>> (Int32.toUInt32 4 &&& Int32.toUInt32 31)).toInt32) &&& 252645135) + (Int32.toUInt32 (((((v6 - ((Int32.toUInt32 v6 >>> (Int32.toUInt32 1 &&& Int32.toUInt32 31)).toInt32 &&& 1431655765)) &&& 858993459) + ((Int32.toUInt32 (v6 - ((Int32.toUInt32 v6 >>> (Int32.toUInt32 1 &&& Int32.toUInt32 31)).toInt32 &&& 1431655765)) >>> (Int32.toUInt32 2 &&& Int32.toUInt32 31)).toInt32 &&& 858993459)) + (Int32.toUInt32 (((v6 - ((Int32.toUInt32 v6 >>> (Int32.toUInt32 1 &&& Int32.toUInt32 31)).toInt32 &&& 1431655765)) &&& 858993459) + ((Int32.toUInt32 (v6 - ((Int32.toUInt32 v6 >>> (Int32.toUInt32 1 &&& Int32.toUInt32 31)).toInt32 &&& 1431655765)) >>> (Int32.toUInt32 2 &&& Int32.toUInt32 31)).toInt32 &&& 858993459)) >>> (Int32.toUInt32 4 &&& Int32.toUInt32 31)).toInt32) &&& 252645135) >>> (Int32.toUInt32 8 &&& Int32.toUInt32 31)).toInt32) + (Int32.toUInt32 ((((((v6 - ((Int32.toUInt32 v6 >>> (Int32.toUInt32 1 &&& Int32.toUInt32 31)).toInt32 &&& 1431655765)) &&& 858993459) + ((Int32.toUInt32 (v6 - ((Int32.toUInt32 v6 >>> (Int32.toUInt32 1 &&& Int32.toUInt32 31)).toInt32 &&& 1431655765)) >>> (Int32.toUInt32 2 &&& Int32.toUInt32 31)).toInt32 &&& 858993459)) + (Int32.toUInt32 (((v6 - ((Int32.toUInt32 v6 >>> (Int32.toUInt32 1 &&& Int32.toUInt32 31)).toInt32 &&& 1431655765)) &&& 858993459) + ((Int32.toUInt32 (v6 - ((Int32.toUInt32 v6 >>> (Int32.toUInt32 1 &&& Int32.toUInt32 31)).toInt32 &&& 1431655765)) >>> (Int32.toUInt32 2 &&& Int32.toUInt32 31)).toInt32 &&& 858993459)) >>> (Int32.toUInt32 4 &&& Int32.toUInt32 31)).toInt32) &&& 252645135) + (Int32.toUInt32 (((((v6 - ((Int32.toUInt32 v6 >>> (Int32.toUInt32 1 &&& Int32.toUInt32 31)).toInt32 &&& 1431655765)) &&& 858993459) + ((Int32.toUInt32 (v6 - ((Int32.toUInt32 v6 >>> (Int32.toUInt32 1 &&& Int32.toUInt32 31)).toInt32 &&& 1431655765)) >>> (Int32.toUInt32 2 &&& Int32.toUInt32 31)).toInt32 &&& 858993459)) + (Int32.toUInt32 (((v6 - ((Int32.toUInt32 v6 >>> (Int32.toUInt32 1 &&& Int32.toUInt32 31)).toInt32 &&& 1431655765)) &&& 858993459) + ((Int32.toUInt32 (v6 - ((Int32.toUInt32 v6 >>> (Int32.toUInt32 1 &&& Int32.toUInt32 31)).toInt32 &&& 1431655765)) >>> (Int32.toUInt32 2 &&& Int32.toUInt32 31)).toInt32 &&& 858993459)) >>> (Int32.toUInt32 4 &&& Int32.toUInt32 31)).toInt32) &&& 252645135) >>> (Int32.toUInt32 8 &&& Int32.toUInt32 31)).toInt32) >>> (Int32.toUInt32 16 &&& Int32.toUInt32 31)).toInt32) &&& 63) : Int32).toInt) : Int) = (v1.toInt) := ci_eq rfl rfl c8
          refine ⟨vp_of (a := v6.toInt) rfl (by omega) (by omega), ?_⟩
          refine ⟨fun c12 => ?_, fun c12 => ?_⟩
          · skip
            rw [lg_cmp_gt] at c12
            have d13 : (((v2 : Int64).toInt) : Int) < (((JM 47 (Int32.toNatClampNeg v6)) : Int64).toInt) := cl_lt rfl rfl c12
            have e14 : ((v6 + 1) : Int32).toInt = (v6.toInt) + (1) := ti_add rfl rfl (by omega)
            exact ih _ _ _ _ hB (by have q0 : ((v6 + 1) : Int32).toInt = (v6.toInt + 1) := e14; omega) (by have q0 : ((v6 + 1) : Int32).toInt = (v6.toInt + 1) := e14; omega)
          · skip
            rw [lg_cmp_gt] at c12
            have d15 : ((((JM 47 (Int32.toNatClampNeg v6)) : Int64).toInt) : Int) ≤ ((v2 : Int64).toInt) := cl_nlt rfl rfl c12
            have e16 : ((v6 + 1) : Int32).toInt = (v6.toInt) + (1) := ti_add rfl rfl (by omega)
            exact ih _ _ _ _ hB (by have q0 : ((v6 + 1) : Int32).toInt = (v6.toInt + 1) := e16; omega) (by have q0 : ((v6 + 1) : Int32).toInt = (v6.toInt + 1) := e16; omega)
  refine sg_X9_countWithin_0 hc _ _ _ _ _ ?_
  exact (L 1000000) _ _ _ _ hB0 (by have q0 : (0 : Int32).toInt = 0 := rfl; omega) (by have q0 : (0 : Int32).toInt = 0 := rfl; omega)
set_option maxHeartbeats 2000000 in
theorem sp_X11_commonDivisor {d : Nat} {Q : Qt} {v0 : Int64} {v2 : Int64} {I : Im} {J : Jm} {R : Rm} (hB0 : Bd I) (hR0 : RI R) (hQ : ∀ (x : Int32) (y : Int64) (I2 : Im) (J2 : Jm), Bd I2 → (True) → Q x y I2 J2 R) : AM (d + 1) 168 112 [.long v0, .long v2] I J R Q := by
  have i_v0 := i64 v0
  have i_v2 := i64 v2
  refine am_X11_commonDivisor (fun P hc => ?_)
  have L : ∀ n : Nat, (∀ (v4 : Int64) (v6 : Int64) (v8 : Int32) (M : Im) (JM : Jm), Bd M → (0 ≤ v8.toInt ∧ v8.toInt ≤ 1000) → 2000 - v8.toInt < (n : Int) → P 9 112 [(4, .long v4), (6, .long v6), (8, .int v8)] [] M JM R) := by
    intro n
    induction n with
    | zero =>
      exact fun v4 v6 v8 M J _ hi hm => absurd hm (by omega)
    | succ n ih =>
      intro v4 v6 v8 M JM hB hi hm
      have i_v4 := i64 v4
      have i_v6 := i64 v6
      have i_v8 := i32 v8
      refine sg_X11_commonDivisor_9 hc _ _ _ _ _ _ ?_
      refine ⟨fun c1 => ?_, fun c1 => ?_⟩
      · skip
        have d2 : ((1000) : Int) ≤ (v8.toInt) := ci_le rfl rfl c1
        exact hQ _ _ _ _ hB trivial
      · skip
        have d3 : ((v8.toInt) : Int) < (1000) := ci_nle rfl rfl c1
        refine ⟨fun c4 => ?_, fun c4 => ?_⟩
        · skip
          rw [lg_cmp_eq] at c4
          have d5 : (((v6 : Int64).toInt) : Int) = (0) := cl_eq rfl rfl c4
          exact hQ _ _ _ _ hB trivial
        · skip
          rw [lg_cmp_eq] at c4
          have d6 : ¬ (((v6 : Int64).toInt) : Int) = (0) := cl_ne rfl rfl c4
          refine ⟨c4, ?_⟩
          have e7 : ((v8 + 1) : Int32).toInt = (v8.toInt) + (1) := ti_add rfl rfl (by omega)
          exact ih _ _ _ _ _ hB (by have q0 : ((v8 + 1) : Int32).toInt = (v8.toInt + 1) := e7; omega) (by have q0 : ((v8 + 1) : Int32).toInt = (v8.toInt + 1) := e7; omega)
  refine sg_X11_commonDivisor_0 hc _ _ _ _ _ ?_
  exact (L 1000000) _ _ _ _ _ hB0 (by have q0 : (0 : Int32).toInt = 0 := rfl; omega) (by have q0 : (0 : Int32).toInt = 0 := rfl; omega)
set_option maxHeartbeats 2000000 in
theorem sp_X11_tell {d : Nat} {Q : Qt} {v1 : Int64} {v3 : Int64} {I : Im} {J : Jm} {R : Rm} (hB0 : Bd I) (hR0 : RI R) (hQ : ∀ (x : Int32) (y : Int64) (I2 : Im) (J2 : Jm), Bd I2 → ((x.toInt = 1)) → Q x y I2 J2 R) : AM (d + 2) 155 112 [.ref 1, .long v1, .long v3] I J R Q := by
  have i_v1 := i64 v1
  have i_v3 := i64 v3
  refine w_X11_tell ?_
  refine sp_X11_commonDivisor hB0 hR0 (fun x1 y6 I2 J3 hB4 p5 => ?_)
  refine ⟨fun c7 => ?_, fun c7 => ?_⟩
  · skip
    rw [lg_cmp_le] at c7
    have d8 : (((y6 : Int64).toInt) : Int) ≤ (0) := cl_le rfl rfl c7
    refine w_X11_allow ?_
    have hB9 : Bd (uI I2 1 0 0) := Bd.o0 hB4 io9_112_1_11 (by omega) bd9_11_0
    refine ⟨Or.inr rfl, ?_⟩
    intro o10
    refine ⟨Or.inr rfl, ?_⟩
    exact hQ _ _ _ _ hB9 (by have q0 : (1 : Int32).toInt = 1 := rfl; omega)
  · skip
    rw [lg_cmp_le] at c7
    have d11 : ((0) : Int) < ((y6 : Int64).toInt) := cl_nle rfl rfl c7
    refine ⟨(fun z => by have z2 : ((y6 : Int64).toInt : Int) = 0 := cl_eq rfl rfl z; omega), ?_⟩
    refine ⟨(fun z => by have z2 : ((y6 : Int64).toInt : Int) = 0 := cl_eq rfl rfl z; omega), ?_⟩
    refine w_X11_allow ?_
    have hB12 : Bd (uI I2 1 0 0) := Bd.o0 hB4 io9_112_1_11 (by omega) bd9_11_0
    refine ⟨Or.inr rfl, ?_⟩
    intro o13
    refine ⟨Or.inr rfl, ?_⟩
    exact hQ _ _ _ _ hB12 (by have q0 : (1 : Int32).toInt = 1 := rfl; omega)
set_option maxHeartbeats 2000000 in
theorem sp_X11_power {d : Nat} {Q : Qt} {v0 : Int32} {v1 : Int32} {I : Im} {J : Jm} {R : Rm} (hB0 : Bd I) (hR0 : RI R) (hv1 : 0 ≤ v1.toInt ∧ v1.toInt ≤ 12) (hQ : ∀ (x : Int32) (y : Int64) (I2 : Im) (J2 : Jm), Bd I2 → (True) → Q x y I2 J2 R) : AM (d + 1) 169 112 [.int v0, .int v1] I J R Q := by
  have i_v0 := i32 v0
  have i_v1 := i32 v1
  refine am_X11_power (fun P hc => ?_)
  have L : ∀ n : Nat, (∀ (v2 : Int64) (v4 : Int32) (M : Im) (JM : Jm), Bd M → (0 ≤ v1.toInt ∧ v1.toInt ≤ 12 ∧ 0 ≤ v4.toInt ∧ v4.toInt ≤ 12) → 20 - v4.toInt < (n : Int) → P 5 112 [(0, .int v0), (1, .int v1), (2, .long v2), (4, .int v4)] [] M JM R) := by
    intro n
    induction n with
    | zero =>
      exact fun v2 v4 M J _ hi hm => absurd hm (by omega)
    | succ n ih =>
      intro v2 v4 M JM hB hi hm
      have i_v0 := i32 v0
      have i_v1 := i32 v1
      have i_v2 := i64 v2
      have i_v4 := i32 v4
      refine sg_X11_power_5 hc _ _ _ _ _ _ _ ?_
      refine ⟨fun c1 => ?_, fun c1 => ?_⟩
      · skip
        have d2 : ((v1.toInt) : Int) ≤ (v4.toInt) := ci_le rfl rfl c1
        exact hQ _ _ _ _ hB trivial
      · skip
        have d3 : ((v4.toInt) : Int) < (v1.toInt) := ci_nle rfl rfl c1
        have e4 : ((v4 + 1) : Int32).toInt = (v4.toInt) + (1) := ti_add rfl rfl (by omega)
        exact ih _ _ _ _ hB (by have q0 : ((v4 + 1) : Int32).toInt = (v4.toInt + 1) := e4; omega) (by have q0 : ((v4 + 1) : Int32).toInt = (v4.toInt + 1) := e4; omega)
  refine sg_X11_power_0 hc _ _ _ _ _ ?_
  exact (L 1000000) _ _ _ _ hB0 (by have q0 : (0 : Int32).toInt = 0 := rfl; omega) (by have q0 : (0 : Int32).toInt = 0 := rfl; omega)
set_option maxHeartbeats 2000000 in
theorem sp_X11_choices {d : Nat} {Q : Qt} {v0 : Int32} {v1 : Int32} {I : Im} {J : Jm} {R : Rm} (hB0 : Bd I) (hR0 : RI R) (hv1 : 0 ≤ v1.toInt ∧ v1.toInt ≤ 12) (hQ : ∀ (x : Int32) (y : Int64) (I2 : Im) (J2 : Jm), Bd I2 → (True) → Q x y I2 J2 R) : AM (d + 1) 170 112 [.int v0, .int v1] I J R Q := by
  have i_v0 := i32 v0
  have i_v1 := i32 v1
  refine am_X11_choices (fun P hc => ?_)
  have L : ∀ n : Nat, (∀ (v2 : Int64) (v4 : Int32) (M : Im) (JM : Jm), Bd M → (0 ≤ v1.toInt ∧ v1.toInt ≤ 12 ∧ 1 ≤ v4.toInt ∧ v4.toInt ≤ 13) → 20 - v4.toInt < (n : Int) → P 5 112 [(0, .int v0), (1, .int v1), (2, .long v2), (4, .int v4)] [] M JM R) := by
    intro n
    induction n with
    | zero =>
      exact fun v2 v4 M J _ hi hm => absurd hm (by omega)
    | succ n ih =>
      intro v2 v4 M JM hB hi hm
      have i_v0 := i32 v0
      have i_v1 := i32 v1
      have i_v2 := i64 v2
      have i_v4 := i32 v4
      refine sg_X11_choices_5 hc _ _ _ _ _ _ _ ?_
      refine ⟨fun c1 => ?_, fun c1 => ?_⟩
      · skip
        have d2 : ((v1.toInt) : Int) < (v4.toInt) := ci_lt rfl rfl c1
        exact hQ _ _ _ _ hB trivial
      · skip
        have d3 : ((v4.toInt) : Int) ≤ (v1.toInt) := ci_nlt rfl rfl c1
        refine ⟨(fun z => by have z2 : (v4.toInt : Int) = 0 := cl_eq (tl_i2l rfl) rfl z; omega), ?_⟩
        have e4 : ((v4 + 1) : Int32).toInt = (v4.toInt) + (1) := ti_add rfl rfl (by omega)
        exact ih _ _ _ _ hB (by have q0 : ((v4 + 1) : Int32).toInt = (v4.toInt + 1) := e4; omega) (by have q0 : ((v4 + 1) : Int32).toInt = (v4.toInt + 1) := e4; omega)
  refine sg_X11_choices_0 hc _ _ _ _ _ ?_
  exact (L 1000000) _ _ _ _ hB0 (by have q0 : (1 : Int32).toInt = 1 := rfl; omega) (by have q0 : (1 : Int32).toInt = 1 := rfl; omega)
set_option maxHeartbeats 2000000 in
theorem sp_X11_greedyNumber {d : Nat} {Q : Qt} {v0 : Int32} {v1 : Int32} {v2 : Int32} {I : Im} {J : Jm} {R : Rm} (hB0 : Bd I) (hR0 : RI R) (hQ : ∀ (x : Int32) (y : Int64) (I2 : Im) (J2 : Jm), Bd I2 → (True) → Q x y I2 J2 R) : AM (d + 2) 171 112 [.int v0, .int v1, .int v2] I J R Q := by
  have i_v0 := i32 v0
  have i_v1 := i32 v1
  have i_v2 := i32 v2
  refine am_X11_greedyNumber (fun P hc => ?_)
  have L : ∀ n : Nat, (∀ (v3 : Int64) (v5 : Int64) (v7 : Int32) (M : Im) (JM : Jm), Bd M → (0 ≤ v7.toInt ∧ v7.toInt ≤ 30) → 40 - v7.toInt < (n : Int) → P 10 112 [(2, .int v2), (3, .long v3), (5, .long v5), (7, .int v7)] [] M JM R) := by
    intro n
    induction n with
    | zero =>
      exact fun v3 v5 v7 M J _ hi hm => absurd hm (by omega)
    | succ n ih =>
      intro v3 v5 v7 M JM hB hi hm
      have i_v2 := i32 v2
      have i_v3 := i64 v3
      have i_v5 := i64 v5
      have i_v7 := i32 v7
      refine sg_X11_greedyNumber_10 hc _ _ _ _ _ _ _ ?_
      refine ⟨fun c1 => ?_, fun c1 => ?_⟩
      · skip
        have d2 : ((30) : Int) ≤ (v7.toInt) := ci_le rfl rfl c1
        exact hQ _ _ _ _ hB trivial
      · skip
        have d3 : ((v7.toInt) : Int) < (30) := ci_nle rfl rfl c1
        refine ⟨fun c4 => ?_, fun c4 => ?_⟩
        · skip
          rw [lg_cmp_le] at c4
          have d5 : (((v3 : Int64).toInt) : Int) ≤ (0) := cl_le rfl rfl c4
          exact hQ _ _ _ _ hB trivial
        · skip
          rw [lg_cmp_le] at c4
          have d6 : ((0) : Int) < ((v3 : Int64).toInt) := cl_nle rfl rfl c4
          refine ⟨(fun z => by have z2 : ((v3 : Int64).toInt : Int) = 0 := cl_eq rfl rfl z; omega), ?_⟩
          refine ⟨fun c7 => ?_, fun c7 => ?_⟩
          · skip
            have d8 : ¬ ((v7.toInt) : Int) = (v2.toInt) := ci_ne rfl rfl c7
            refine ⟨fun c9 => ?_, fun c9 => ?_⟩
            · skip
              rw [lg_cmp_eq] at c9
              have d10 : ¬ (((((v3 * (((v5 + v3) - 1) / v3)) - v5) : Int64).toInt) : Int) = (0) := cl_ne rfl rfl c9
              refine sp_X11_commonDivisor hB hR0 (fun x11 y16 I12 J13 hB14 p15 => ?_)
              refine ⟨fun c17 => ?_, fun c17 => ?_⟩
              · skip
                rw [lg_cmp_ge] at c17
                have d18 : ((1) : Int) ≤ ((y16 : Int64).toInt) := cl_le rfl rfl c17
                refine ⟨(fun z => by have z2 : ((y16 : Int64).toInt : Int) = 0 := cl_eq rfl rfl z; omega), ?_⟩
                refine ⟨(fun z => by have z2 : ((y16 : Int64).toInt : Int) = 0 := cl_eq rfl rfl z; omega), ?_⟩
                have e19 : ((v7 + 1) : Int32).toInt = (v7.toInt) + (1) := ti_add rfl rfl (by omega)
                exact ih _ _ _ _ _ hB14 (by have q0 : ((v7 + 1) : Int32).toInt = (v7.toInt + 1) := e19; omega) (by have q0 : ((v7 + 1) : Int32).toInt = (v7.toInt + 1) := e19; omega)
              · skip
                rw [lg_cmp_ge] at c17
                have d20 : (((y16 : Int64).toInt) : Int) < (1) := cl_nle rfl rfl c17
                exact hQ _ _ _ _ hB14 trivial
            · skip
              rw [lg_cmp_eq] at c9
              have d21 : (((((v3 * (((v5 + v3) - 1) / v3)) - v5) : Int64).toInt) : Int) = (0) := cl_eq rfl rfl c9
              exact hQ _ _ _ _ hB trivial
          · skip
            have d22 : ((v7.toInt) : Int) = (v2.toInt) := ci_eq rfl rfl c7
            exact hQ _ _ _ _ hB trivial
  refine sg_X11_greedyNumber_0 hc _ _ _ _ _ _ ?_
  exact (L 1000000) _ _ _ _ _ hB0 (by have q0 : (0 : Int32).toInt = 0 := rfl; omega) (by have q0 : (0 : Int32).toInt = 0 := rfl; omega)
set_option maxHeartbeats 2000000 in
theorem sp_X11_slipStatus {d : Nat} {Q : Qt} {v1 : Int32} {v2 : Int32} {v3 : Int32} {v4 : Int32} {I : Im} {J : Jm} {R : Rm} (hB0 : Bd I) (hR0 : RI R) (hQ : ∀ (x : Int32) (y : Int64) (I2 : Im) (J2 : Jm), Bd I2 → ((x.toInt = 0 → (0 ≤ v1.toInt ∧ v1.toInt ≤ 3))) → Q x y I2 J2 R) : AM (d + 4) 159 112 [.ref 1, .int v1, .int v2, .int v3, .int v4] I J R Q := by
  have i_v1 := i32 v1
  have i_v2 := i32 v2
  have i_v3 := i32 v3
  have i_v4 := i32 v4
  refine am_X11_slipStatus (fun P hc => ?_)
  have L : ∀ n : Nat, (∀ (v6 : Int32) (M : Im) (JM : Jm), Bd M → (0 ≤ v1.toInt ∧ v1.toInt ≤ 3 ∧ 1 ≤ v2.toInt ∧ v2.toInt ≤ 8 ∧ 0 ≤ v6.toInt ∧ v6.toInt ≤ 8) → 10 - v6.toInt < (n : Int) → P 41 112 [(0, .ref 1), (1, .int v1), (2, .int v2), (6, .int v6)] [] M JM R) := by
    intro n
    induction n with
    | zero =>
      exact fun v6 M J _ hi hm => absurd hm (by omega)
    | succ n ih =>
      intro v6 M JM hB hi hm
      have i_v1 := i32 v1
      have i_v2 := i32 v2
      have i_v6 := i32 v6
      refine sg_X11_slipStatus_41 hc _ _ _ _ _ _ ?_
      refine ⟨fun c1 => ?_, fun c1 => ?_⟩
      · skip
        have d2 : ((v2.toInt) : Int) ≤ (v6.toInt) := ci_le rfl rfl c1
        exact hQ _ _ _ _ hB (by have q0 : (0 : Int32).toInt = 0 := rfl; omega)
      · skip
        have d3 : ((v6.toInt) : Int) < (v2.toInt) := ci_nle rfl rfl c1
        refine ⟨vp_of (a := v1.toInt) rfl (by omega) (by omega), ?_⟩
        have hr4 := RI.tray hR0 (Int32.toNatClampNeg v1) (by rw [tn_of rfl (by omega)]; omega)
        refine ⟨hr4.1, ?_⟩
        refine bif_t hr4.2 ?_
        refine bif_t (fa_10_2 hr4.2).1 ?_
        refine ⟨by rw [(fa_10_2 hr4.2).2.1]; exact vp_of (a := v6.toInt) rfl (by omega) (by omega), ?_⟩
        refine ⟨fun c5 => ?_, fun c5 => ?_⟩
        · skip
          rw [lg_cmp_lt] at c5
          have d6 : ((((JM ((R 2 (Int32.toNatClampNeg v1)) + 1) (Int32.toNatClampNeg v6)) : Int64).toInt) : Int) < (1) := cl_lt rfl rfl c5
          exact hQ _ _ _ _ hB (by have q0 : (5 : Int32).toInt = 5 := rfl; omega)
        · skip
          rw [lg_cmp_lt] at c5
          have d7 : ((1) : Int) ≤ (((JM ((R 2 (Int32.toNatClampNeg v1)) + 1) (Int32.toNatClampNeg v6)) : Int64).toInt) := cl_nlt rfl rfl c5
          refine ⟨fun c8 => ?_, fun c8 => ?_⟩
          · skip
            rw [lg_cmp_le] at c8
            have d9 : ((((JM ((R 2 (Int32.toNatClampNeg v1)) + 1) (Int32.toNatClampNeg v6)) : Int64).toInt) : Int) ≤ (30) := cl_le rfl rfl c8
            have e10 : ((v6 + 1) : Int32).toInt = (v6.toInt) + (1) := ti_add rfl rfl (by omega)
            exact ih _ _ _ hB (by have q0 : ((v6 + 1) : Int32).toInt = (v6.toInt + 1) := e10; omega) (by have q0 : ((v6 + 1) : Int32).toInt = (v6.toInt + 1) := e10; omega)
          · skip
            rw [lg_cmp_le] at c8
            have d11 : ((30) : Int) < (((JM ((R 2 (Int32.toNatClampNeg v1)) + 1) (Int32.toNatClampNeg v6)) : Int64).toInt) := cl_nle rfl rfl c8
            exact hQ _ _ _ _ hB (by have q0 : (5 : Int32).toInt = 5 := rfl; omega)
  refine sg_X11_slipStatus_0 hc _ _ _ _ _ _ _ ?_
  refine w_X11_placesStatus ?_
  refine w_X11_trayStatus ?_
  refine w_X11_isTray ?_
  refine ⟨fun c12 => ?_, fun c12 => ?_⟩
  · skip
    have d13 : ((v1.toInt) : Int) < (0) := ci_lt rfl rfl c12
    refine ⟨Or.inl rfl, ?_⟩
    intro o14
    refine ⟨fun c15 => ?_, fun c15 => ?_⟩
    · exact absurd c15 (by decide)
    · skip
      refine ⟨fun c16 => ?_, fun c16 => ?_⟩
      · exact absurd c16 (by decide)
      · skip
        refine ⟨fun c17 => ?_, fun c17 => ?_⟩
        · exact absurd c17 (by decide)
        · skip
          exact hQ _ _ _ _ hB0 (by have q0 : (1 : Int32).toInt = 1 := rfl; omega)
  · skip
    have d18 : ((0) : Int) ≤ (v1.toInt) := ci_nlt rfl rfl c12
    refine ⟨fun c19 => ?_, fun c19 => ?_⟩
    · skip
      have d20 : ((4) : Int) ≤ (v1.toInt) := ci_le rfl rfl c19
      refine ⟨Or.inl rfl, ?_⟩
      intro o21
      refine ⟨fun c22 => ?_, fun c22 => ?_⟩
      · exact absurd c22 (by decide)
      · skip
        refine ⟨fun c23 => ?_, fun c23 => ?_⟩
        · exact absurd c23 (by decide)
        · skip
          refine ⟨fun c24 => ?_, fun c24 => ?_⟩
          · exact absurd c24 (by decide)
          · skip
            exact hQ _ _ _ _ hB0 (by have q0 : (1 : Int32).toInt = 1 := rfl; omega)
    · skip
      have d25 : ((v1.toInt) : Int) < (4) := ci_nle rfl rfl c19
      refine ⟨Or.inr rfl, ?_⟩
      intro o26
      refine ⟨fun c27 => ?_, fun c27 => ?_⟩
      · skip
        refine ⟨vp_of (a := v1.toInt) rfl (by omega) (by omega), ?_⟩
        have hr28 := RI.tray hR0 (Int32.toNatClampNeg v1) (by rw [tn_of rfl (by omega)]; omega)
        refine ⟨hr28.1, ?_⟩
        refine bif_t hr28.2 ?_
        refine w_X10_isMissing ?_
        refine bif_t hr28.2 ?_
        refine ⟨fun c29 => ?_, fun c29 => ?_⟩
        · skip
          have b30 := Bd.o hB0 hr28.2 bd9_10_1
          have d31 : ((0) : Int) ≤ ((I (R 2 (Int32.toNatClampNeg v1)) 1).toInt) := ci_le rfl rfl c29
          refine ⟨Or.inl rfl, ?_⟩
          intro o32
          refine ⟨fun c33 => ?_, fun c33 => ?_⟩
          · skip
            refine ⟨fun c34 => ?_, fun c34 => ?_⟩
            · skip
              refine ⟨vp_of (a := v1.toInt) rfl (by omega) (by omega), ?_⟩
              have hr35 := RI.tray hR0 (Int32.toNatClampNeg v1) (by rw [tn_of rfl (by omega)]; omega)
              refine ⟨hr35.1, ?_⟩
              refine bif_t hr35.2 ?_
              refine ⟨fun c36 => ?_, fun c36 => ?_⟩
              · skip
                have d37 : ((v2.toInt) : Int) ≤ ((I (R 2 (Int32.toNatClampNeg v1)) 1).toInt) := ci_le rfl rfl c36
                refine ⟨fun c38 => ?_, fun c38 => ?_⟩
                · skip
                  refine ⟨fun c39 => ?_, fun c39 => ?_⟩
                  · skip
                    have d40 : ((v2.toInt) : Int) < (1) := ci_lt rfl rfl c39
                    exact hQ _ _ _ _ hB0 (by have q0 : (5 : Int32).toInt = 5 := rfl; omega)
                  · skip
                    have d41 : ((1) : Int) ≤ (v2.toInt) := ci_nlt rfl rfl c39
                    refine ⟨fun c42 => ?_, fun c42 => ?_⟩
                    · skip
                      have d43 : ((8) : Int) < (v2.toInt) := ci_lt rfl rfl c42
                      exact hQ _ _ _ _ hB0 (by have q0 : (5 : Int32).toInt = 5 := rfl; omega)
                    · skip
                      have d44 : ((v2.toInt) : Int) ≤ (8) := ci_nlt rfl rfl c42
                      refine w_X11_isShare ?_
                      refine ⟨fun c45 => ?_, fun c45 => ?_⟩
                      · skip
                        have d46 : ((v3.toInt) : Int) < (1) := ci_lt rfl rfl c45
                        refine ⟨Or.inl rfl, ?_⟩
                        intro o47
                        refine ⟨fun c48 => ?_, fun c48 => ?_⟩
                        · exact absurd c48 (by decide)
                        · skip
                          exact hQ _ _ _ _ hB0 (by have q0 : (5 : Int32).toInt = 5 := rfl; omega)
                      · skip
                        have d49 : ((1) : Int) ≤ (v3.toInt) := ci_nlt rfl rfl c45
                        refine ⟨fun c50 => ?_, fun c50 => ?_⟩
                        · skip
                          have d51 : ((99) : Int) < (v3.toInt) := ci_lt rfl rfl c50
                          refine ⟨Or.inl rfl, ?_⟩
                          intro o52
                          refine ⟨fun c53 => ?_, fun c53 => ?_⟩
                          · exact absurd c53 (by decide)
                          · skip
                            exact hQ _ _ _ _ hB0 (by have q0 : (5 : Int32).toInt = 5 := rfl; omega)
                        · skip
                          have d54 : ((v3.toInt) : Int) ≤ (99) := ci_nlt rfl rfl c50
                          refine ⟨fun c55 => ?_, fun c55 => ?_⟩
                          · skip
                            have d56 : ((v4.toInt) : Int) < (1) := ci_lt rfl rfl c55
                            refine ⟨Or.inl rfl, ?_⟩
                            intro o57
                            refine ⟨fun c58 => ?_, fun c58 => ?_⟩
                            · exact absurd c58 (by decide)
                            · skip
                              exact hQ _ _ _ _ hB0 (by have q0 : (5 : Int32).toInt = 5 := rfl; omega)
                          · skip
                            have d59 : ((1) : Int) ≤ (v4.toInt) := ci_nlt rfl rfl c55
                            refine ⟨fun c60 => ?_, fun c60 => ?_⟩
                            · skip
                              have d61 : ((30) : Int) < (v4.toInt) := ci_lt rfl rfl c60
                              refine ⟨Or.inl rfl, ?_⟩
                              intro o62
                              refine ⟨fun c63 => ?_, fun c63 => ?_⟩
                              · exact absurd c63 (by decide)
                              · skip
                                exact hQ _ _ _ _ hB0 (by have q0 : (5 : Int32).toInt = 5 := rfl; omega)
                            · skip
                              have d64 : ((v4.toInt) : Int) ≤ (30) := ci_nlt rfl rfl c60
                              refine ⟨Or.inr rfl, ?_⟩
                              intro o65
                              refine ⟨fun c66 => ?_, fun c66 => ?_⟩
                              · skip
                                exact (L 1000000) _ _ _ hB0 (by have q0 : (0 : Int32).toInt = 0 := rfl; omega) (by have q0 : (0 : Int32).toInt = 0 := rfl; omega)
                              · exact absurd c66 (by decide)
                · exact absurd c38 (by decide)
              · skip
                have d67 : (((I (R 2 (Int32.toNatClampNeg v1)) 1).toInt) : Int) < (v2.toInt) := ci_nle rfl rfl c36
                refine ⟨fun c68 => ?_, fun c68 => ?_⟩
                · exact absurd c68 (by decide)
                · skip
                  exact hQ _ _ _ _ hB0 (by have q0 : (4 : Int32).toInt = 4 := rfl; omega)
            · exact absurd c34 (by decide)
          · exact absurd c33 (by decide)
        · skip
          have b69 := Bd.o hB0 hr28.2 bd9_10_1
          have d70 : (((I (R 2 (Int32.toNatClampNeg v1)) 1).toInt) : Int) < (0) := ci_nle rfl rfl c29
          refine ⟨Or.inr rfl, ?_⟩
          intro o71
          refine ⟨fun c72 => ?_, fun c72 => ?_⟩
          · exact absurd c72 (by decide)
          · skip
            refine ⟨fun c73 => ?_, fun c73 => ?_⟩
            · exact absurd c73 (by decide)
            · skip
              refine ⟨fun c74 => ?_, fun c74 => ?_⟩
              · exact absurd c74 (by decide)
              · skip
                exact hQ _ _ _ _ hB0 (by have q0 : (3 : Int32).toInt = 3 := rfl; omega)
      · exact absurd c27 (by decide)
set_option maxHeartbeats 2000000 in
theorem sp_X11_copyStore {d : Nat} {Q : Qt} {v1 : Int32} {v2 : Int32} {I : Im} {J : Jm} {R : Rm} (hB0 : Bd I) (hR0 : RI R) (hQ : ∀ (x : Int32) (y : Int64) (I2 : Im) (J2 : Jm), Bd I2 → (((x.toInt = v2.toInt ∧ 0 ≤ v1.toInt ∧ v1.toInt ≤ 3 ∧ 0 ≤ (I (R 2 (Int32.toNatClampNeg v1)) 1).toInt ∧ 0 ≤ v2.toInt ∧ v2.toInt ≤ 30 ∧ v2.toInt ≤ (I (R 2 (Int32.toNatClampNeg v1)) 1).toInt) ∨ (x.toInt = -1 ∧ (v1.toInt < 0 ∨ 3 < v1.toInt ∨ (I (R 2 (Int32.toNatClampNeg v1)) 1).toInt < 0 ∨ v2.toInt < 0 ∨ 30 < v2.toInt ∨ (I (R 2 (Int32.toNatClampNeg v1)) 1).toInt < v2.toInt)))) → Q x y I2 J2 R) : AM (d + 4) 117 112 [.ref 1, .int v1, .int v2] I J R Q := by
  have i_v1 := i32 v1
  have i_v2 := i32 v2
  refine am_X11_copyStore (fun P hc => ?_)
  have L : ∀ n : Nat, (∀ (v4 : Int32) (M : Im) (JM : Jm), Bd M → (0 ≤ v1.toInt ∧ v1.toInt ≤ 3 ∧ 0 ≤ v2.toInt ∧ v2.toInt ≤ 30 ∧ 0 ≤ (I (R 2 (Int32.toNatClampNeg v1)) 1).toInt ∧ v2.toInt ≤ (I (R 2 (Int32.toNatClampNeg v1)) 1).toInt ∧ 1 ≤ v4.toInt ∧ v4.toInt ≤ 31) → 40 - v4.toInt < (n : Int) → P 36 112 [(0, .ref 1), (1, .int v1), (2, .int v2), (4, .int v4)] [] M JM R) := by
    intro n
    induction n with
    | zero =>
      exact fun v4 M J _ hi hm => absurd hm (by omega)
    | succ n ih =>
      intro v4 M JM hB hi hm
      have i_v1 := i32 v1
      have i_v2 := i32 v2
      have i_v4 := i32 v4
      refine sg_X11_copyStore_36 hc _ _ _ _ _ _ ?_
      refine ⟨fun c1 => ?_, fun c1 => ?_⟩
      · skip
        have d2 : ((v2.toInt) : Int) < (v4.toInt) := ci_lt rfl rfl c1
        refine w_X11_answer ?_
        have hB3 : Bd (uI M 1 0 0) := Bd.o0 hB io9_112_1_11 (by omega) bd9_11_0
        exact hQ _ _ _ _ hB3 (by have q0 : (v2 : Int32).toInt = v2.toInt := rfl; omega)
      · skip
        have d4 : ((v4.toInt) : Int) ≤ (v2.toInt) := ci_nlt rfl rfl c1
        refine ⟨vp_of (a := v1.toInt) rfl (by omega) (by omega), ?_⟩
        have hr5 := RI.tray hR0 (Int32.toNatClampNeg v1) (by rw [tn_of rfl (by omega)]; omega)
        refine ⟨hr5.1, ?_⟩
        refine ⟨(RI.now hR0).2, ?_⟩
        refine bif_t (RI.now hR0).1 ?_
        refine bif_t (fa_0_0 (RI.now hR0).1).1 ?_
        refine ⟨by rw [(fa_0_0 (RI.now hR0).1).2.1]; exact vp_of (a := v4.toInt) rfl (by omega) (by omega), ?_⟩
        refine bif_t hr5.2 ?_
        refine sp_X10_put hB hR0 hr5.2 (fun x6 y11 I7 J8 hB9 p10 => ?_)
        have e12 : ((v4 + 1) : Int32).toInt = (v4.toInt) + (1) := ti_add rfl rfl (by omega)
        exact ih _ _ _ hB9 (by have q0 : ((v4 + 1) : Int32).toInt = (v4.toInt + 1) := e12; omega) (by have q0 : ((v4 + 1) : Int32).toInt = (v4.toInt + 1) := e12; omega)
  refine sg_X11_copyStore_0 hc _ _ _ _ _ ?_
  refine w_X11_placesStatus ?_
  refine w_X11_trayStatus ?_
  refine w_X11_isTray ?_
  refine ⟨fun c13 => ?_, fun c13 => ?_⟩
  · skip
    have d14 : ((v1.toInt) : Int) < (0) := ci_lt rfl rfl c13
    refine ⟨Or.inl rfl, ?_⟩
    intro o15
    refine ⟨fun c16 => ?_, fun c16 => ?_⟩
    · exact absurd c16 (by decide)
    · skip
      refine ⟨fun c17 => ?_, fun c17 => ?_⟩
      · exact absurd c17 (by decide)
      · skip
        refine ⟨fun c18 => ?_, fun c18 => ?_⟩
        · exact absurd c18 (by decide)
        · skip
          refine w_X11_refuse ?_
          have hB19 : Bd (uI I 1 0 1) := Bd.o0 hB0 io9_112_1_11 (by omega) bd9_11_0
          exact hQ _ _ _ _ hB19 (by have q0 : ((-1) : Int32).toInt = (-1) := rfl; omega)
  · skip
    have d20 : ((0) : Int) ≤ (v1.toInt) := ci_nlt rfl rfl c13
    refine ⟨fun c21 => ?_, fun c21 => ?_⟩
    · skip
      have d22 : ((4) : Int) ≤ (v1.toInt) := ci_le rfl rfl c21
      refine ⟨Or.inl rfl, ?_⟩
      intro o23
      refine ⟨fun c24 => ?_, fun c24 => ?_⟩
      · exact absurd c24 (by decide)
      · skip
        refine ⟨fun c25 => ?_, fun c25 => ?_⟩
        · exact absurd c25 (by decide)
        · skip
          refine ⟨fun c26 => ?_, fun c26 => ?_⟩
          · exact absurd c26 (by decide)
          · skip
            refine w_X11_refuse ?_
            have hB27 : Bd (uI I 1 0 1) := Bd.o0 hB0 io9_112_1_11 (by omega) bd9_11_0
            exact hQ _ _ _ _ hB27 (by have q0 : ((-1) : Int32).toInt = (-1) := rfl; omega)
    · skip
      have d28 : ((v1.toInt) : Int) < (4) := ci_nle rfl rfl c21
      refine ⟨Or.inr rfl, ?_⟩
      intro o29
      refine ⟨fun c30 => ?_, fun c30 => ?_⟩
      · skip
        refine ⟨vp_of (a := v1.toInt) rfl (by omega) (by omega), ?_⟩
        have hr31 := RI.tray hR0 (Int32.toNatClampNeg v1) (by rw [tn_of rfl (by omega)]; omega)
        refine ⟨hr31.1, ?_⟩
        refine bif_t hr31.2 ?_
        refine w_X10_isMissing ?_
        refine bif_t hr31.2 ?_
        refine ⟨fun c32 => ?_, fun c32 => ?_⟩
        · skip
          have b33 := Bd.o hB0 hr31.2 bd9_10_1
          have d34 : ((0) : Int) ≤ ((I (R 2 (Int32.toNatClampNeg v1)) 1).toInt) := ci_le rfl rfl c32
          refine ⟨Or.inl rfl, ?_⟩
          intro o35
          refine ⟨fun c36 => ?_, fun c36 => ?_⟩
          · skip
            refine ⟨fun c37 => ?_, fun c37 => ?_⟩
            · skip
              refine ⟨vp_of (a := v1.toInt) rfl (by omega) (by omega), ?_⟩
              have hr38 := RI.tray hR0 (Int32.toNatClampNeg v1) (by rw [tn_of rfl (by omega)]; omega)
              refine ⟨hr38.1, ?_⟩
              refine bif_t hr38.2 ?_
              refine ⟨fun c39 => ?_, fun c39 => ?_⟩
              · skip
                have d40 : ((v2.toInt) : Int) ≤ ((I (R 2 (Int32.toNatClampNeg v1)) 1).toInt) := ci_le rfl rfl c39
                refine ⟨fun c41 => ?_, fun c41 => ?_⟩
                · skip
                  refine ⟨fun c42 => ?_, fun c42 => ?_⟩
                  · skip
                    have d43 : ((v2.toInt) : Int) < (0) := ci_lt rfl rfl c42
                    refine w_X11_refuse ?_
                    have hB44 : Bd (uI I 1 0 5) := Bd.o0 hB0 io9_112_1_11 (by omega) bd9_11_0
                    exact hQ _ _ _ _ hB44 (by have q0 : ((-1) : Int32).toInt = (-1) := rfl; omega)
                  · skip
                    have d45 : ((0) : Int) ≤ (v2.toInt) := ci_nlt rfl rfl c42
                    refine ⟨fun c46 => ?_, fun c46 => ?_⟩
                    · skip
                      have d47 : ((v2.toInt) : Int) ≤ (30) := ci_le rfl rfl c46
                      exact (L 1000000) _ _ _ hB0 (by have q0 : (1 : Int32).toInt = 1 := rfl; omega) (by have q0 : (1 : Int32).toInt = 1 := rfl; omega)
                    · skip
                      have d48 : ((30) : Int) < (v2.toInt) := ci_nle rfl rfl c46
                      refine w_X11_refuse ?_
                      have hB49 : Bd (uI I 1 0 5) := Bd.o0 hB0 io9_112_1_11 (by omega) bd9_11_0
                      exact hQ _ _ _ _ hB49 (by have q0 : ((-1) : Int32).toInt = (-1) := rfl; omega)
                · exact absurd c41 (by decide)
              · skip
                have d50 : (((I (R 2 (Int32.toNatClampNeg v1)) 1).toInt) : Int) < (v2.toInt) := ci_nle rfl rfl c39
                refine ⟨fun c51 => ?_, fun c51 => ?_⟩
                · exact absurd c51 (by decide)
                · skip
                  refine w_X11_refuse ?_
                  have hB52 : Bd (uI I 1 0 4) := Bd.o0 hB0 io9_112_1_11 (by omega) bd9_11_0
                  exact hQ _ _ _ _ hB52 (by have q0 : ((-1) : Int32).toInt = (-1) := rfl; omega)
            · exact absurd c37 (by decide)
          · exact absurd c36 (by decide)
        · skip
          have b53 := Bd.o hB0 hr31.2 bd9_10_1
          have d54 : (((I (R 2 (Int32.toNatClampNeg v1)) 1).toInt) : Int) < (0) := ci_nle rfl rfl c32
          refine ⟨Or.inr rfl, ?_⟩
          intro o55
          refine ⟨fun c56 => ?_, fun c56 => ?_⟩
          · exact absurd c56 (by decide)
          · skip
            refine ⟨fun c57 => ?_, fun c57 => ?_⟩
            · exact absurd c57 (by decide)
            · skip
              refine ⟨fun c58 => ?_, fun c58 => ?_⟩
              · exact absurd c58 (by decide)
              · skip
                refine w_X11_refuse ?_
                have hB59 : Bd (uI I 1 0 3) := Bd.o0 hB0 io9_112_1_11 (by omega) bd9_11_0
                exact hQ _ _ _ _ hB59 (by have q0 : ((-1) : Int32).toInt = (-1) := rfl; omega)
      · exact absurd c30 (by decide)
set_option maxHeartbeats 2000000 in
theorem sp_X11_slipAt {d : Nat} {Q : Qt} {v1 : Int32} {v2 : Int32} {v3 : Int32} {v4 : Int32} {v5 : Int32} {v6 : Int32} {I : Im} {J : Jm} {R : Rm} (hB0 : Bd I) (hR0 : RI R) (hQ : ∀ (x : Int32) (y : Int64) (I2 : Im) (J2 : Jm), Bd I2 → (True) → Q x y I2 J2 R) : AM (d + 5) 135 112 [.ref 1, .int v1, .int v2, .int v3, .int v4, .int v5, .int v6] I J R Q := by
  have i_v1 := i32 v1
  have i_v2 := i32 v2
  have i_v3 := i32 v3
  have i_v4 := i32 v4
  have i_v5 := i32 v5
  have i_v6 := i32 v6
  refine am_X11_slipAt (fun P hc => ?_)
  have L : ∀ n : Nat, (∀ (M : Im) (JM : Jm), Bd M → (0 ≤ v1.toInt ∧ v1.toInt ≤ 3) → 1 < (n : Int) → P 40 112 [(0, .ref 1), (1, .int v1), (2, .int v2), (3, .int v3), (4, .int v4), (5, .int v5), (6, .int v6)] [] M JM R) := by
    intro n
    induction n with
    | zero =>
      exact fun  M J _ hi hm => absurd hm (by omega)
    | succ n ih =>
      intro  M JM hB hi hm
      have i_v1 := i32 v1
      have i_v2 := i32 v2
      have i_v3 := i32 v3
      have i_v4 := i32 v4
      have i_v5 := i32 v5
      have i_v6 := i32 v6
      refine sg_X11_slipAt_40 hc _ _ _ _ _ _ _ _ _ ?_
      refine ⟨vp_of (a := v1.toInt) rfl (by omega) (by omega), ?_⟩
      have hr1 := RI.tray hR0 (Int32.toNatClampNeg v1) (by rw [tn_of rfl (by omega)]; omega)
      refine ⟨hr1.1, ?_⟩
      refine ⟨(RI.now hR0).2, ?_⟩
      refine bif_t (RI.now hR0).1 ?_
      refine w_X11_crumbs ?_
      refine ⟨fun c2 => ?_, fun c2 => ?_⟩
      · skip
        have d3 : ((1) : Int) ≤ (v4.toInt) := ci_le rfl rfl c2
        refine ⟨(fun z => by have z2 : (v4.toInt : Int) = 0 := cl_eq (tl_i2l rfl) rfl z; omega), ?_⟩
        refine sp_X8_findAll hB hR0 hr1.2 (fun x4 y9 I5 J6 hB7 p8 => ?_)
        refine ⟨fun c10 => ?_, fun c10 => ?_⟩
        · skip
          have d11 : ((v5.toInt) : Int) < (0) := ci_lt rfl rfl c10
          refine w_X11_refuse ?_
          have hB12 : Bd (uI I5 1 0 8) := Bd.o0 hB7 io9_112_1_11 (by omega) bd9_11_0
          exact hQ _ _ _ _ hB12 trivial
        · skip
          have d13 : ((0) : Int) ≤ (v5.toInt) := ci_nlt rfl rfl c10
          refine ⟨fun c14 => ?_, fun c14 => ?_⟩
          · skip
            have b15 := Bd.o hB7 io9_112_39_8 bd9_8_2
            have d16 : ((v5.toInt) : Int) < ((I5 39 2).toInt) := ci_lt rfl rfl c14
            refine ⟨fun c17 => ?_, fun c17 => ?_⟩
            · skip
              have d18 : ¬ ((v6.toInt) : Int) = (0) := ci_ne rfl rfl c17
              refine ⟨vp_of (a := v5.toInt) rfl (by omega) (by omega), ?_⟩
              refine w_X11_answer ?_
              have hB19 : Bd (uI I5 1 0 0) := Bd.o0 hB7 io9_112_1_11 (by omega) bd9_11_0
              exact hQ _ _ _ _ hB19 trivial
            · skip
              have d20 : ((v6.toInt) : Int) = (0) := ci_eq rfl rfl c17
              refine ⟨vp_of (a := v5.toInt) rfl (by omega) (by omega), ?_⟩
              refine w_X11_answer ?_
              have hB21 : Bd (uI I5 1 0 0) := Bd.o0 hB7 io9_112_1_11 (by omega) bd9_11_0
              exact hQ _ _ _ _ hB21 trivial
          · skip
            have b22 := Bd.o hB7 io9_112_39_8 bd9_8_2
            have d23 : (((I5 39 2).toInt) : Int) ≤ (v5.toInt) := ci_nlt rfl rfl c14
            refine w_X11_refuse ?_
            have hB24 : Bd (uI I5 1 0 8) := Bd.o0 hB7 io9_112_1_11 (by omega) bd9_11_0
            exact hQ _ _ _ _ hB24 trivial
      · skip
        have d25 : ((v4.toInt) : Int) < (1) := ci_nle rfl rfl c2
        refine sp_X8_findAll hB hR0 hr1.2 (fun x26 y31 I27 J28 hB29 p30 => ?_)
        refine ⟨fun c32 => ?_, fun c32 => ?_⟩
        · skip
          have d33 : ((v5.toInt) : Int) < (0) := ci_lt rfl rfl c32
          refine w_X11_refuse ?_
          have hB34 : Bd (uI I27 1 0 8) := Bd.o0 hB29 io9_112_1_11 (by omega) bd9_11_0
          exact hQ _ _ _ _ hB34 trivial
        · skip
          have d35 : ((0) : Int) ≤ (v5.toInt) := ci_nlt rfl rfl c32
          refine ⟨fun c36 => ?_, fun c36 => ?_⟩
          · skip
            have b37 := Bd.o hB29 io9_112_39_8 bd9_8_2
            have d38 : ((v5.toInt) : Int) < ((I27 39 2).toInt) := ci_lt rfl rfl c36
            refine ⟨fun c39 => ?_, fun c39 => ?_⟩
            · skip
              have d40 : ¬ ((v6.toInt) : Int) = (0) := ci_ne rfl rfl c39
              refine ⟨vp_of (a := v5.toInt) rfl (by omega) (by omega), ?_⟩
              refine w_X11_answer ?_
              have hB41 : Bd (uI I27 1 0 0) := Bd.o0 hB29 io9_112_1_11 (by omega) bd9_11_0
              exact hQ _ _ _ _ hB41 trivial
            · skip
              have d42 : ((v6.toInt) : Int) = (0) := ci_eq rfl rfl c39
              refine ⟨vp_of (a := v5.toInt) rfl (by omega) (by omega), ?_⟩
              refine w_X11_answer ?_
              have hB43 : Bd (uI I27 1 0 0) := Bd.o0 hB29 io9_112_1_11 (by omega) bd9_11_0
              exact hQ _ _ _ _ hB43 trivial
          · skip
            have b44 := Bd.o hB29 io9_112_39_8 bd9_8_2
            have d45 : (((I27 39 2).toInt) : Int) ≤ (v5.toInt) := ci_nlt rfl rfl c36
            refine w_X11_refuse ?_
            have hB46 : Bd (uI I27 1 0 8) := Bd.o0 hB29 io9_112_1_11 (by omega) bd9_11_0
            exact hQ _ _ _ _ hB46 trivial
  refine sg_X11_slipAt_0 hc _ _ _ _ _ _ _ _ _ ?_
  refine sp_X11_slipStatus hB0 hR0 (fun x47 y52 I48 J49 hB50 p51 => ?_)
  have i53 := i32 x47
  refine ⟨fun c54 => ?_, fun c54 => ?_⟩
  · skip
    have d55 : ((x47.toInt) : Int) = (0) := ci_eq rfl rfl c54
    refine ⟨fun c56 => ?_, fun c56 => ?_⟩
    · skip
      have d57 : ((v6.toInt) : Int) = (0) := ci_eq rfl rfl c56
      exact (L 1000000) _ _ hB50 (by omega) (by omega)
    · skip
      have d58 : ¬ ((v6.toInt) : Int) = (0) := ci_ne rfl rfl c56
      refine ⟨fun c59 => ?_, fun c59 => ?_⟩
      · skip
        have d60 : ((v6.toInt) : Int) = (1) := ci_eq rfl rfl c59
        exact (L 1000000) _ _ hB50 (by omega) (by omega)
      · skip
        have d61 : ¬ ((v6.toInt) : Int) = (1) := ci_ne rfl rfl c59
        refine w_X11_refuse ?_
        have hB62 : Bd (uI I48 1 0 5) := Bd.o0 hB50 io9_112_1_11 (by omega) bd9_11_0
        exact hQ _ _ _ _ hB62 trivial
  · skip
    have d63 : ¬ ((x47.toInt) : Int) = (0) := ci_ne rfl rfl c54
    refine w_X11_refuse ?_
    have hB64 : Bd (uI I48 1 0 x47) := Bd.o0 hB50 io9_112_1_11 (by omega) bd9_11_0
    exact hQ _ _ _ _ hB64 trivial
set_option maxHeartbeats 2000000 in
theorem sp_X11_isPlateSet {d : Nat} {Q : Qt} {v0 : Int32} {I : Im} {J : Jm} {R : Rm} (hB0 : Bd I) (hR0 : RI R) (hQ : ∀ (x : Int32) (y : Int64) (I2 : Im) (J2 : Jm), Bd I2 → (I = I2 ∧ (0 ≤ x.toInt ∧ x.toInt ≤ 1 ∧ (x.toInt = 1 → 0 ≤ v0.toInt ∧ v0.toInt ≤ 1073741823 ∧ pcn v0 30 ≤ 12) ∧ (0 ≤ v0.toInt ∧ v0.toInt ≤ 1073741823 ∧ pcn v0 30 ≤ 12 → x.toInt = 1))) → Q x y I2 J2 R) : AM (d + 2) 164 112 [.int v0] I J R Q := by
  have i_v0 := i32 v0
  refine w_X11_isPlateSet ?_
  refine ⟨fun c1 => ?_, fun c1 => ?_⟩
  · skip
    have d2 : ((v0.toInt) : Int) < (0) := ci_lt rfl rfl c1
    refine ⟨Or.inl rfl, ?_⟩
    exact hQ _ _ _ _ hB0 ⟨rfl, (by have q0 : (0 : Int32).toInt = 0 := rfl; omega)⟩
  · skip
    have d3 : ((0) : Int) ≤ (v0.toInt) := ci_nlt rfl rfl c1
    refine ⟨fun c4 => ?_, fun c4 => ?_⟩
    · skip
      have d5 : ((1073741823) : Int) < (v0.toInt) := ci_lt rfl rfl c4
      refine ⟨Or.inl rfl, ?_⟩
      exact hQ _ _ _ _ hB0 ⟨rfl, (by have q0 : (0 : Int32).toInt = 0 := rfl; omega)⟩
    · skip
      have d6 : ((v0.toInt) : Int) ≤ (1073741823) := ci_nlt rfl rfl c4
      refine sp_J6_bitCount_0f7a4 hB0 hR0 (fun x7 y12 I8 J9 hB10 p11 => ?_)
      obtain ⟨heI8, p11⟩ := p11
      subst heI8
      have i13 := i32 x7
      refine ⟨fun c14 => ?_, fun c14 => ?_⟩
      · skip
        have d15 : ((12) : Int) < (x7.toInt) := ci_lt rfl rfl c14
        refine ⟨Or.inl rfl, ?_⟩
        exact hQ _ _ _ _ hB0 ⟨rfl, (by have q0 : (0 : Int32).toInt = 0 := rfl; omega)⟩
      · skip
        have d16 : ((x7.toInt) : Int) ≤ (12) := ci_nlt rfl rfl c14
        refine ⟨Or.inr rfl, ?_⟩
        exact hQ _ _ _ _ hB0 ⟨rfl, (by have q0 : (1 : Int32).toInt = 1 := rfl; omega)⟩
set_option maxHeartbeats 2000000 in
theorem sp_X11_burnt {d : Nat} {Q : Qt} {v1 : Int32} {v2 : Int32} {I : Im} {J : Jm} {R : Rm} (hB0 : Bd I) (hR0 : RI R) (hQ : ∀ (x : Int32) (y : Int64) (I2 : Im) (J2 : Jm), Bd I2 → ((0 ≤ x.toInt ∧ x.toInt ≤ 1 ∧ (x.toInt = 1 → 0 ≤ v1.toInt ∧ v1.toInt ≤ 12 ∧ 0 ≤ v2.toInt ∧ v2.toInt ≤ 12) ∧ (0 ≤ v1.toInt ∧ v1.toInt ≤ 12 ∧ 0 ≤ v2.toInt ∧ v2.toInt ≤ 12 → x.toInt = 1))) → Q x y I2 J2 R) : AM (d + 3) 143 112 [.ref 1, .int v1, .int v2] I J R Q := by
  have i_v1 := i32 v1
  have i_v2 := i32 v2
  refine am_X11_burnt (fun P hc => ?_)
  have L : ∀ n : Nat, (∀ (v3 : Int64) (v5 : Int32) (M : Im) (JM : Jm), Bd M → (0 ≤ v1.toInt ∧ v1.toInt ≤ 12 ∧ 0 ≤ v2.toInt ∧ v2.toInt ≤ 12 ∧ 0 ≤ v5.toInt ∧ v5.toInt ≤ 13) → 20 - v5.toInt < (n : Int) → P 31 112 [(0, .ref 1), (1, .int v1), (3, .long v3), (5, .int v5)] [] M JM R) := by
    intro n
    induction n with
    | zero =>
      exact fun v3 v5 M J _ hi hm => absurd hm (by omega)
    | succ n ih =>
      intro v3 v5 M JM hB hi hm
      have i_v1 := i32 v1
      have i_v3 := i64 v3
      have i_v5 := i32 v5
      refine sg_X11_burnt_31 hc _ _ _ _ _ _ ?_
      refine ⟨fun c1 => ?_, fun c1 => ?_⟩
      · skip
        have d2 : ((v1.toInt) : Int) < (v5.toInt) := ci_lt rfl rfl c1
        refine sp_X11_power hB hR0 (by have z : (v1 : Int32).toInt = v1.toInt := rfl; omega) (fun x3 y8 I4 J5 hB6 p7 => ?_)
        refine sp_X11_tell hB6 hR0 (fun x9 y14 I10 J11 hB12 p13 => ?_)
        intro o15
        have i16 := i32 x9
        refine ⟨o15, ?_⟩
        exact hQ _ _ _ _ hB12 (by have q0 : (x9 : Int32).toInt = x9.toInt := rfl; omega)
      · skip
        have d17 : ((v5.toInt) : Int) ≤ (v1.toInt) := ci_nlt rfl rfl c1
        refine sp_X11_choices hB hR0 (by have z : (v5 : Int32).toInt = v5.toInt := rfl; omega) (fun x18 y23 I19 J20 hB21 p22 => ?_)
        refine ⟨(RI.now hR0).2, ?_⟩
        refine bif_t (RI.now hR0).1 ?_
        refine sp_X11_power hB21 hR0 (by have z : (v5 : Int32).toInt = v5.toInt := rfl; omega) (fun x24 y29 I25 J26 hB27 p28 => ?_)
        refine ⟨(RI.now hR0).2, ?_⟩
        refine bif_t (RI.now hR0).1 ?_
        have e30 : ((v1 - v5) : Int32).toInt = (v1.toInt) - (v5.toInt) := ti_sub rfl rfl (by omega)
        refine sp_X11_power hB27 hR0 (by have z : ((v1 - v5) : Int32).toInt = (v1.toInt - v5.toInt) := e30; omega) (fun x31 y36 I32 J33 hB34 p35 => ?_)
        have e37 : ((v5 + 1) : Int32).toInt = (v5.toInt) + (1) := ti_add rfl rfl (by omega)
        exact ih _ _ _ _ hB34 (by have q0 : ((v5 + 1) : Int32).toInt = (v5.toInt + 1) := e37; omega) (by have q0 : ((v5 + 1) : Int32).toInt = (v5.toInt + 1) := e37; omega)
  refine sg_X11_burnt_0 hc _ _ _ _ _ ?_
  refine ⟨fun c38 => ?_, fun c38 => ?_⟩
  · skip
    have d39 : ((v1.toInt) : Int) < (0) := ci_lt rfl rfl c38
    refine w_X11_deny ?_
    have hB40 : Bd (uI I 1 0 5) := Bd.o0 hB0 io9_112_1_11 (by omega) bd9_11_0
    refine ⟨Or.inl rfl, ?_⟩
    intro o41
    refine ⟨Or.inl rfl, ?_⟩
    exact hQ _ _ _ _ hB40 (by have q0 : (0 : Int32).toInt = 0 := rfl; omega)
  · skip
    have d42 : ((0) : Int) ≤ (v1.toInt) := ci_nlt rfl rfl c38
    refine ⟨fun c43 => ?_, fun c43 => ?_⟩
    · skip
      have d44 : ((12) : Int) < (v1.toInt) := ci_lt rfl rfl c43
      refine w_X11_deny ?_
      have hB45 : Bd (uI I 1 0 5) := Bd.o0 hB0 io9_112_1_11 (by omega) bd9_11_0
      refine ⟨Or.inl rfl, ?_⟩
      intro o46
      refine ⟨Or.inl rfl, ?_⟩
      exact hQ _ _ _ _ hB45 (by have q0 : (0 : Int32).toInt = 0 := rfl; omega)
    · skip
      have d47 : ((v1.toInt) : Int) ≤ (12) := ci_nlt rfl rfl c43
      refine ⟨fun c48 => ?_, fun c48 => ?_⟩
      · skip
        have d49 : ((v2.toInt) : Int) < (0) := ci_lt rfl rfl c48
        refine w_X11_deny ?_
        have hB50 : Bd (uI I 1 0 5) := Bd.o0 hB0 io9_112_1_11 (by omega) bd9_11_0
        refine ⟨Or.inl rfl, ?_⟩
        intro o51
        refine ⟨Or.inl rfl, ?_⟩
        exact hQ _ _ _ _ hB50 (by have q0 : (0 : Int32).toInt = 0 := rfl; omega)
      · skip
        have d52 : ((0) : Int) ≤ (v2.toInt) := ci_nlt rfl rfl c48
        refine ⟨fun c53 => ?_, fun c53 => ?_⟩
        · skip
          have d54 : ((v2.toInt) : Int) ≤ (12) := ci_le rfl rfl c53
          exact (L 1000000) _ _ _ _ hB0 (by have q0 : (v2 : Int32).toInt = v2.toInt := rfl; omega) (by have q0 : (v2 : Int32).toInt = v2.toInt := rfl; omega)
        · skip
          have d55 : ((12) : Int) < (v2.toInt) := ci_nle rfl rfl c53
          refine w_X11_deny ?_
          have hB56 : Bd (uI I 1 0 5) := Bd.o0 hB0 io9_112_1_11 (by omega) bd9_11_0
          refine ⟨Or.inl rfl, ?_⟩
          intro o57
          refine ⟨Or.inl rfl, ?_⟩
          exact hQ _ _ _ _ hB56 (by have q0 : (0 : Int32).toInt = 0 := rfl; omega)
set_option maxHeartbeats 2000000 in
theorem sp_X11_mean {d : Nat} {Q : Qt} {v1 : Int32} {v2 : Int32} {I : Im} {J : Jm} {R : Rm} (hB0 : Bd I) (hR0 : RI R) (hQ : ∀ (x : Int32) (y : Int64) (I2 : Im) (J2 : Jm), Bd I2 → (True) → Q x y I2 J2 R) : AM (d + 7) 146 112 [.ref 1, .int v1, .int v2] I J R Q := by
  have i_v1 := i32 v1
  have i_v2 := i32 v2
  refine am_X11_mean (fun P hc => ?_)
  have L : ∀ n : Nat, (∀ (v3 : Int64) (v5 : Int32) (M : Im) (JM : Jm), Bd M → (0 ≤ v1.toInt ∧ v1.toInt ≤ 9999 ∧ 1 ≤ v2.toInt ∧ v2.toInt ≤ 20 ∧ 0 ≤ v5.toInt ∧ v5.toInt ≤ 20) → 30 - v5.toInt < (n : Int) → P 61 112 [(0, .ref 1), (1, .int v1), (2, .int v2), (3, .long v3), (5, .int v5)] [] M JM R) := by
    intro n
    induction n with
    | zero =>
      exact fun v3 v5 M J _ hi hm => absurd hm (by omega)
    | succ n ih =>
      intro v3 v5 M JM hB hi hm
      have i_v1 := i32 v1
      have i_v2 := i32 v2
      have i_v3 := i64 v3
      have i_v5 := i32 v5
      refine sg_X11_mean_61 hc _ _ _ _ _ _ _ ?_
      refine ⟨fun c1 => ?_, fun c1 => ?_⟩
      · skip
        have d2 : ((v2.toInt) : Int) ≤ (v5.toInt) := ci_le rfl rfl c1
        refine sp_X11_tell hB hR0 (fun x3 y8 I4 J5 hB6 p7 => ?_)
        intro o9
        have i10 := i32 x3
        refine ⟨o9, ?_⟩
        exact hQ _ _ _ _ hB6 trivial
      · skip
        have d11 : ((v5.toInt) : Int) < (v2.toInt) := ci_nle rfl rfl c1
        refine ⟨(RI.spare hR0).2, ?_⟩
        refine ⟨(RI.now hR0).2, ?_⟩
        refine bif_t (RI.spare hR0).1 ?_
        refine sp_X0_copyFrom hB hR0 (RI.spare hR0).1 (RI.now hR0).1 (fun x12 y17 I13 J14 hB15 p16 => ?_)
        refine ⟨(RI.spare hR0).2, ?_⟩
        refine ⟨(RI.plan hR0).2, ?_⟩
        refine sp_X4_run hB15 hR0 io9_112_51_4 (RI.spare hR0).1 (RI.plan hR0).1 (fun x18 y23 I19 J20 hB21 p22 => ?_)
        refine ⟨(RI.spare hR0).2, ?_⟩
        refine bif_t (RI.spare hR0).1 ?_
        refine sp_X0_allHoldings hB21 hR0 (RI.spare hR0).1 (fun x24 y29 I25 J26 hB27 p28 => ?_)
        have e30 : ((v5 + 1) : Int32).toInt = (v5.toInt) + (1) := ti_add rfl rfl (by omega)
        exact ih _ _ _ _ hB27 (by have q0 : ((v5 + 1) : Int32).toInt = (v5.toInt + 1) := e30; omega) (by have q0 : ((v5 + 1) : Int32).toInt = (v5.toInt + 1) := e30; omega)
  refine sg_X11_mean_0 hc _ _ _ _ _ ?_
  refine ⟨fun c31 => ?_, fun c31 => ?_⟩
  · skip
    have d32 : ((v1.toInt) : Int) < (0) := ci_lt rfl rfl c31
    refine w_X11_deny ?_
    have hB33 : Bd (uI I 1 0 5) := Bd.o0 hB0 io9_112_1_11 (by omega) bd9_11_0
    refine ⟨Or.inl rfl, ?_⟩
    intro o34
    refine ⟨Or.inl rfl, ?_⟩
    exact hQ _ _ _ _ hB33 trivial
  · skip
    have d35 : ((0) : Int) ≤ (v1.toInt) := ci_nlt rfl rfl c31
    refine ⟨fun c36 => ?_, fun c36 => ?_⟩
    · skip
      have d37 : ((9999) : Int) < (v1.toInt) := ci_lt rfl rfl c36
      refine w_X11_deny ?_
      have hB38 : Bd (uI I 1 0 5) := Bd.o0 hB0 io9_112_1_11 (by omega) bd9_11_0
      refine ⟨Or.inl rfl, ?_⟩
      intro o39
      refine ⟨Or.inl rfl, ?_⟩
      exact hQ _ _ _ _ hB38 trivial
    · skip
      have d40 : ((v1.toInt) : Int) ≤ (9999) := ci_nlt rfl rfl c36
      refine ⟨fun c41 => ?_, fun c41 => ?_⟩
      · skip
        have d42 : ((v2.toInt) : Int) < (1) := ci_lt rfl rfl c41
        refine w_X11_deny ?_
        have hB43 : Bd (uI I 1 0 5) := Bd.o0 hB0 io9_112_1_11 (by omega) bd9_11_0
        refine ⟨Or.inl rfl, ?_⟩
        intro o44
        refine ⟨Or.inl rfl, ?_⟩
        exact hQ _ _ _ _ hB43 trivial
      · skip
        have d45 : ((1) : Int) ≤ (v2.toInt) := ci_nlt rfl rfl c41
        refine ⟨fun c46 => ?_, fun c46 => ?_⟩
        · skip
          have d47 : ((20) : Int) < (v2.toInt) := ci_lt rfl rfl c46
          refine w_X11_deny ?_
          have hB48 : Bd (uI I 1 0 5) := Bd.o0 hB0 io9_112_1_11 (by omega) bd9_11_0
          refine ⟨Or.inl rfl, ?_⟩
          intro o49
          refine ⟨Or.inl rfl, ?_⟩
          exact hQ _ _ _ _ hB48 trivial
        · skip
          have d50 : ((v2.toInt) : Int) ≤ (20) := ci_nlt rfl rfl c46
          refine ⟨fun c51 => ?_, fun c51 => ?_⟩
          · skip
            have e52 : ((v1 + v2) : Int32).toInt = (v1.toInt) + (v2.toInt) := ti_add rfl rfl (by omega)
            have e53 : (((v1 + v2) - 1) : Int32).toInt = ((v1.toInt + v2.toInt)) - (1) := ti_sub e52 rfl (by omega)
            have d54 : ((((v1.toInt + v2.toInt) - 1)) : Int) ≤ (9999) := ci_le e53 rfl c51
            refine ⟨(RI.plan hR0).2, ?_⟩
            refine bif_t (RI.plan hR0).1 ?_
            refine ⟨fun c55 => ?_, fun c55 => ?_⟩
            · skip
              have b56 := Bd.o hB0 (RI.plan hR0).1 bd9_2_0
              have d57 : ¬ (((I (R 1 9) 0).toInt) : Int) = (0) := ci_ne rfl rfl c55
              exact (L 1000000) _ _ _ _ hB0 (by have q0 : (0 : Int32).toInt = 0 := rfl; omega) (by have q0 : (0 : Int32).toInt = 0 := rfl; omega)
            · skip
              have b58 := Bd.o hB0 (RI.plan hR0).1 bd9_2_0
              have d59 : (((I (R 1 9) 0).toInt) : Int) = (0) := ci_eq rfl rfl c55
              refine w_X11_deny ?_
              have hB60 : Bd (uI I 1 0 8) := Bd.o0 hB0 io9_112_1_11 (by omega) bd9_11_0
              refine ⟨Or.inl rfl, ?_⟩
              intro o61
              refine ⟨Or.inl rfl, ?_⟩
              exact hQ _ _ _ _ hB60 trivial
          · skip
            have e62 : ((v1 + v2) : Int32).toInt = (v1.toInt) + (v2.toInt) := ti_add rfl rfl (by omega)
            have e63 : (((v1 + v2) - 1) : Int32).toInt = ((v1.toInt + v2.toInt)) - (1) := ti_sub e62 rfl (by omega)
            have d64 : ((9999) : Int) < (((v1.toInt + v2.toInt) - 1)) := ci_nle e63 rfl c51
            refine w_X11_deny ?_
            have hB65 : Bd (uI I 1 0 5) := Bd.o0 hB0 io9_112_1_11 (by omega) bd9_11_0
            refine ⟨Or.inl rfl, ?_⟩
            intro o66
            refine ⟨Or.inl rfl, ?_⟩
            exact hQ _ _ _ _ hB65 trivial
