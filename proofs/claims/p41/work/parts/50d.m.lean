set_option maxHeartbeats 2000000 in
theorem sp_X12_sumOf {d : Nat} {Q : Qt} {v0 : Int32} {I : Im} {J : Jm} {R : Rm} (hB0 : Bd I) (hR0 : RI R) (hQ : ∀ (x : Int32) (y : Int64) (I2 : Im) (J2 : Jm), Bd I2 → (I = I2) → Q x y I2 J2 R) : AM (d + 2) 243 112 [.int v0] I J R Q := by
  have i_v0 := i32 v0
  refine am_X12_sumOf (fun P hc => ?_)
  have L : ∀ n : Nat, (∀ (v1 : Int64) (v3 : Int32) (M : Im) (JM : Jm), Bd M → I = M → (1 ≤ v3.toInt ∧ v3.toInt ≤ 31) → 40 - v3.toInt < (n : Int) → P 4 112 [(0, .int v0), (1, .long v1), (3, .int v3)] [] M JM R) := by
    intro n
    induction n with
    | zero =>
      exact fun v1 v3 M J _ _ hi hm => absurd hm (by omega)
    | succ n ih =>
      intro v1 v3 M JM hB hM hi hm
      have i_v0 := i32 v0
      have i_v1 := i64 v1
      have i_v3 := i32 v3
      refine sg_X12_sumOf_4 hc _ _ _ _ _ _ ?_
      subst hM
      refine ⟨fun c1 => ?_, fun c1 => ?_⟩
      · skip
        have d2 : ((30) : Int) < (v3.toInt) := ci_lt rfl rfl c1
        exact hQ _ _ _ _ hB0 rfl
      · skip
        have d3 : ((v3.toInt) : Int) ≤ (30) := ci_nlt rfl rfl c1
        refine w_X12_isOf ?_
        refine ⟨fun c4 => ?_, fun c4 => ?_⟩
        · skip
          have d5 : ¬ (((((v0 >>> ((v3 - 1) &&& 31)) &&& 1) : Int32).toInt) : Int) = (1) := ci_ne rfl rfl c4
          refine ⟨Or.inl rfl, ?_⟩
          intro o6
          refine ⟨fun c7 => ?_, fun c7 => ?_⟩
          · skip
            have e8 : ((v3 + 1) : Int32).toInt = (v3.toInt) + (1) := ti_add rfl rfl (by omega)
            exact ih _ _ _ _ hB0 rfl (by have q0 : ((v3 + 1) : Int32).toInt = (v3.toInt + 1) := e8; omega) (by have q0 : ((v3 + 1) : Int32).toInt = (v3.toInt + 1) := e8; omega)
          · exact absurd c7 (by decide)
        · skip
          have d9 : (((((v0 >>> ((v3 - 1) &&& 31)) &&& 1) : Int32).toInt) : Int) = (1) := ci_eq rfl rfl c4
          refine ⟨Or.inr rfl, ?_⟩
          intro o10
          refine ⟨fun c11 => ?_, fun c11 => ?_⟩
          · exact absurd c11 (by decide)
          · skip
            refine w_X12_partsOf ?_
            refine ⟨(fun z => by have z2 : (v3.toInt : Int) = 0 := cl_eq (tl_i2l rfl) rfl z; omega), ?_⟩
            have e12 : ((v3 + 1) : Int32).toInt = (v3.toInt) + (1) := ti_add rfl rfl (by omega)
            exact ih _ _ _ _ hB0 rfl (by have q0 : ((v3 + 1) : Int32).toInt = (v3.toInt + 1) := e12; omega) (by have q0 : ((v3 + 1) : Int32).toInt = (v3.toInt + 1) := e12; omega)
  refine sg_X12_sumOf_0 hc _ _ _ _ ?_
  exact (L 1000000) _ _ _ _ hB0 rfl (by have q0 : (1 : Int32).toInt = 1 := rfl; omega) (by have q0 : (1 : Int32).toInt = 1 := rfl; omega)
set_option maxHeartbeats 2000000 in
theorem sp_X12_held {d : Nat} {Q : Qt} {I : Im} {J : Jm} {R : Rm} (hB0 : Bd I) (hR0 : RI R) (hQ : ∀ (x : Int32) (y : Int64) (I2 : Im) (J2 : Jm), Bd I2 → (I = I2) → Q x y I2 J2 R) : AM (d + 1) 245 112 [.ref 97] I J R Q := by
  refine am_X12_held (fun P hc => ?_)
  have L : ∀ n : Nat, (∀ (v1 : Int32) (v2 : Int32) (M : Im) (JM : Jm), Bd M → I = M → (0 ≤ v2.toInt ∧ v2.toInt ≤ 30) → 40 - v2.toInt < (n : Int) → P 4 112 [(0, .ref 97), (1, .int v1), (2, .int v2)] [] M JM R) := by
    intro n
    induction n with
    | zero =>
      exact fun v1 v2 M J _ _ hi hm => absurd hm (by omega)
    | succ n ih =>
      intro v1 v2 M JM hB hM hi hm
      have i_v1 := i32 v1
      have i_v2 := i32 v2
      refine sg_X12_held_4 hc _ _ _ _ _ ?_
      subst hM
      refine ⟨fun c1 => ?_, fun c1 => ?_⟩
      · skip
        have d2 : ((30) : Int) ≤ (v2.toInt) := ci_le rfl rfl c1
        exact hQ _ _ _ _ hB0 rfl
      · skip
        have d3 : ((v2.toInt) : Int) < (30) := ci_nle rfl rfl c1
        have e4 : ((4 + v2) : Int32).toInt = (4) + (v2.toInt) := ti_add rfl rfl (by omega)
        refine ⟨vp_of (a := (4 + v2.toInt)) e4 (by omega) (by omega), ?_⟩
        have e5 : ((v2 + 1) : Int32).toInt = (v2.toInt) + (1) := ti_add rfl rfl (by omega)
        exact ih _ _ _ _ hB0 rfl (by have q0 : ((v2 + 1) : Int32).toInt = (v2.toInt + 1) := e5; omega) (by have q0 : ((v2 + 1) : Int32).toInt = (v2.toInt + 1) := e5; omega)
  refine sg_X12_held_0 hc _ _ _ ?_
  exact (L 1000000) _ _ _ _ hB0 rfl (by have q0 : (0 : Int32).toInt = 0 := rfl; omega) (by have q0 : (0 : Int32).toInt = 0 := rfl; omega)
set_option maxHeartbeats 2000000 in
theorem sp_X12_heldSet {d : Nat} {Q : Qt} {I : Im} {J : Jm} {R : Rm} (hB0 : Bd I) (hR0 : RI R) (hQ : ∀ (x : Int32) (y : Int64) (I2 : Im) (J2 : Jm), Bd I2 → (I = I2) → Q x y I2 J2 R) : AM (d + 1) 246 112 [.ref 97] I J R Q := by
  refine am_X12_heldSet (fun P hc => ?_)
  have L : ∀ n : Nat, (∀ (v1 : Int32) (v2 : Int32) (M : Im) (JM : Jm), Bd M → I = M → (0 ≤ v2.toInt ∧ v2.toInt ≤ 30) → 40 - v2.toInt < (n : Int) → P 4 112 [(0, .ref 97), (1, .int v1), (2, .int v2)] [] M JM R) := by
    intro n
    induction n with
    | zero =>
      exact fun v1 v2 M J _ _ hi hm => absurd hm (by omega)
    | succ n ih =>
      intro v1 v2 M JM hB hM hi hm
      have i_v1 := i32 v1
      have i_v2 := i32 v2
      refine sg_X12_heldSet_4 hc _ _ _ _ _ ?_
      subst hM
      refine ⟨fun c1 => ?_, fun c1 => ?_⟩
      · skip
        have d2 : ((30) : Int) ≤ (v2.toInt) := ci_le rfl rfl c1
        exact hQ _ _ _ _ hB0 rfl
      · skip
        have d3 : ((v2.toInt) : Int) < (30) := ci_nle rfl rfl c1
        have e4 : ((4 + v2) : Int32).toInt = (4) + (v2.toInt) := ti_add rfl rfl (by omega)
        refine ⟨vp_of (a := (4 + v2.toInt)) e4 (by omega) (by omega), ?_⟩
        refine ⟨fun c5 => ?_, fun c5 => ?_⟩
        · skip
          have d6 : (((I 102 (Int32.toNatClampNeg (4 + v2))).toInt) : Int) ≤ (0) := ci_le rfl rfl c5
          have e7 : ((v2 + 1) : Int32).toInt = (v2.toInt) + (1) := ti_add rfl rfl (by omega)
          exact ih _ _ _ _ hB0 rfl (by have q0 : ((v2 + 1) : Int32).toInt = (v2.toInt + 1) := e7; omega) (by have q0 : ((v2 + 1) : Int32).toInt = (v2.toInt + 1) := e7; omega)
        · skip
          have d8 : ((0) : Int) < ((I 102 (Int32.toNatClampNeg (4 + v2))).toInt) := ci_nle rfl rfl c5
          have e9 : ((v2 + 1) : Int32).toInt = (v2.toInt) + (1) := ti_add rfl rfl (by omega)
          exact ih _ _ _ _ hB0 rfl (by have q0 : ((v2 + 1) : Int32).toInt = (v2.toInt + 1) := e9; omega) (by have q0 : ((v2 + 1) : Int32).toInt = (v2.toInt + 1) := e9; omega)
  refine sg_X12_heldSet_0 hc _ _ _ ?_
  exact (L 1000000) _ _ _ _ hB0 rfl (by have q0 : (0 : Int32).toInt = 0 := rfl; omega) (by have q0 : (0 : Int32).toInt = 0 := rfl; omega)
set_option maxHeartbeats 2000000 in
theorem sp_X12_store {d : Nat} {Q : Qt} {v1 : Int32} {I : Im} {J : Jm} {R : Rm} (hB0 : Bd I) (hR0 : RI R) (hQ : ∀ (x : Int32) (y : Int64) (I2 : Im) (J2 : Jm), Bd I2 → (True) → Q x y I2 J2 R) : AM (d + 3) 249 112 [.ref 97, .int v1] I J R Q := by
  have i_v1 := i32 v1
  refine w_X12_store ?_
  have hB1 : Bd (uI I 97 1 0) := Bd.o0 hB0 io9_112_97_12 (by decide) bd9_12_1
  have hB2 : Bd (uI (uI I 97 1 0) 97 0 0) := Bd.o0 hB1 io9_112_97_12 (by decide) bd9_12_0
  refine w_X12_isSlice ?_
  refine w_X12_isIn ?_
  refine ⟨fun c3 => ?_, fun c3 => ?_⟩
  · skip
    rw [lg_cmp_lt] at c3
    have d4 : ((v1.toInt) : Int) < (1) := cl_lt (tl_i2l rfl) rfl c3
    refine ⟨Or.inl rfl, ?_⟩
    intro o5
    refine ⟨Or.inl rfl, ?_⟩
    intro o6
    refine ⟨fun c7 => ?_, fun c7 => ?_⟩
    · skip
      refine w_X12_refuse ?_
      have hB8 : Bd (uI (uI (uI I 97 1 0) 97 0 0) 97 0 2) := Bd.o0 hB2 io9_112_97_12 (by decide) bd9_12_0
      exact hQ _ _ _ _ hB8 trivial
    · exact absurd c7 (by decide)
  · skip
    rw [lg_cmp_lt] at c3
    have d9 : ((1) : Int) ≤ (v1.toInt) := cl_nlt (tl_i2l rfl) rfl c3
    refine ⟨fun c10 => ?_, fun c10 => ?_⟩
    · skip
      rw [lg_cmp_gt] at c10
      have d11 : ((30) : Int) < (v1.toInt) := cl_lt rfl (tl_i2l rfl) c10
      refine ⟨Or.inl rfl, ?_⟩
      intro o12
      refine ⟨Or.inl rfl, ?_⟩
      intro o13
      refine ⟨fun c14 => ?_, fun c14 => ?_⟩
      · skip
        refine w_X12_refuse ?_
        have hB15 : Bd (uI (uI (uI I 97 1 0) 97 0 0) 97 0 2) := Bd.o0 hB2 io9_112_97_12 (by decide) bd9_12_0
        exact hQ _ _ _ _ hB15 trivial
      · exact absurd c14 (by decide)
    · skip
      rw [lg_cmp_gt] at c10
      have d16 : ((v1.toInt) : Int) ≤ (30) := cl_nlt rfl (tl_i2l rfl) c10
      refine ⟨Or.inr rfl, ?_⟩
      intro o17
      refine ⟨Or.inr rfl, ?_⟩
      intro o18
      refine ⟨fun c19 => ?_, fun c19 => ?_⟩
      · exact absurd c19 (by decide)
      · skip
        have e20 : ((4 + v1) : Int32).toInt = (4) + (v1.toInt) := ti_add rfl rfl (by omega)
        have e21 : (((4 + v1) - 1) : Int32).toInt = ((4 + v1.toInt)) - (1) := ti_sub e20 rfl (by omega)
        refine ⟨vp_of (a := ((4 + v1.toInt) - 1)) e21 (by omega) (by omega), ?_⟩
        exact hQ _ _ _ _ hB2 trivial
set_option maxHeartbeats 2000000 in
theorem sp_X12_rule {d : Nat} {Q : Qt} {v1 : Int32} {I : Im} {J : Jm} {R : Rm} (hB0 : Bd I) (hR0 : RI R) (hQ : ∀ (x : Int32) (y : Int64) (I2 : Im) (J2 : Jm), Bd I2 → (Fr pK I I2 ∧ (0 ≤ x.toInt ∧ x.toInt ≤ 1 ∧ (x.toInt = 1 → 0 ≤ v1.toInt ∧ v1.toInt ≤ 16) ∧ (0 ≤ v1.toInt ∧ v1.toInt ≤ 16 → x.toInt = 1))) → Q x y I2 J2 R) : AM (d + 2) 270 112 [.ref 97, .int v1] I J R Q := by
  have i_v1 := i32 v1
  refine w_X12_rule ?_
  have hB1 : Bd (uI I 97 1 0) := Bd.o0 hB0 io9_112_97_12 (by decide) bd9_12_1
  have f2 : Fr pK I (uI I 97 1 0) := Fr.o (Fr.refl _ _) (by decide) (by decide)
  have hB3 : Bd (uI (uI I 97 1 0) 97 0 0) := Bd.o0 hB1 io9_112_97_12 (by decide) bd9_12_0
  have f4 : Fr pK I (uI (uI I 97 1 0) 97 0 0) := Fr.o f2 (by decide) (by decide)
  refine w_X12_isIn ?_
  refine ⟨fun c5 => ?_, fun c5 => ?_⟩
  · skip
    rw [lg_cmp_lt] at c5
    have d6 : ((v1.toInt) : Int) < (0) := cl_lt (tl_i2l rfl) rfl c5
    refine ⟨Or.inl rfl, ?_⟩
    intro o7
    refine ⟨fun c8 => ?_, fun c8 => ?_⟩
    · exact absurd c8 (by decide)
    · skip
      refine w_X12_no ?_
      have hB9 : Bd (uI (uI (uI I 97 1 0) 97 0 0) 97 0 5) := Bd.o0 hB3 io9_112_97_12 (by decide) bd9_12_0
      have f10 : Fr pK I (uI (uI (uI I 97 1 0) 97 0 0) 97 0 5) := Fr.o f4 (by decide) (by decide)
      refine ⟨Or.inl rfl, ?_⟩
      intro o11
      refine ⟨Or.inl rfl, ?_⟩
      exact hQ _ _ _ _ hB9 ⟨f10, (by have q0 : (0 : Int32).toInt = 0 := rfl; omega)⟩
  · skip
    rw [lg_cmp_lt] at c5
    have d12 : ((0) : Int) ≤ (v1.toInt) := cl_nlt (tl_i2l rfl) rfl c5
    refine ⟨fun c13 => ?_, fun c13 => ?_⟩
    · skip
      rw [lg_cmp_gt] at c13
      have d14 : ((16) : Int) < (v1.toInt) := cl_lt rfl (tl_i2l rfl) c13
      refine ⟨Or.inl rfl, ?_⟩
      intro o15
      refine ⟨fun c16 => ?_, fun c16 => ?_⟩
      · exact absurd c16 (by decide)
      · skip
        refine w_X12_no ?_
        have hB17 : Bd (uI (uI (uI I 97 1 0) 97 0 0) 97 0 5) := Bd.o0 hB3 io9_112_97_12 (by decide) bd9_12_0
        have f18 : Fr pK I (uI (uI (uI I 97 1 0) 97 0 0) 97 0 5) := Fr.o f4 (by decide) (by decide)
        refine ⟨Or.inl rfl, ?_⟩
        intro o19
        refine ⟨Or.inl rfl, ?_⟩
        exact hQ _ _ _ _ hB17 ⟨f18, (by have q0 : (0 : Int32).toInt = 0 := rfl; omega)⟩
    · skip
      rw [lg_cmp_gt] at c13
      have d20 : ((v1.toInt) : Int) ≤ (16) := cl_nlt rfl (tl_i2l rfl) c13
      refine ⟨Or.inr rfl, ?_⟩
      intro o21
      refine ⟨fun c22 => ?_, fun c22 => ?_⟩
      · skip
        refine ⟨vp_of (a := 1) rfl (by omega) (by omega), ?_⟩
        have hB23 : Bd (uI (uI (uI I 97 1 0) 97 0 0) 102 (Int32.toNatClampNeg 1) v1) := Bd.cfree hB3 (show (1 : Int32).toInt = 1 from rfl) (by omega) (by omega) (by omega) (by omega)
        have f24 : Fr pK I (uI (uI (uI I 97 1 0) 97 0 0) 102 (Int32.toNatClampNeg 1) v1) := Fr.w f4 (show (1 : Int32).toInt = 1 from rfl) (by omega) (fun j hj hp => by unfold pK at hp; omega)
        refine ⟨Or.inr rfl, ?_⟩
        exact hQ _ _ _ _ hB23 ⟨f24, (by have q0 : (1 : Int32).toInt = 1 := rfl; omega)⟩
      · exact absurd c22 (by decide)
set_option maxHeartbeats 2000000 in
theorem sp_X12_status {d : Nat} {Q : Qt} {I : Im} {J : Jm} {R : Rm} (hB0 : Bd I) (hR0 : RI R) (hQ : ∀ (x : Int32) (y : Int64) (I2 : Im) (J2 : Jm), Bd I2 → (True) → Q x y I2 J2 R) : AM (d + 1) 173 112 [.ref 97] I J R Q := by
  refine w_X12_status ?_
  have hB1 : Bd (uI I 97 1 0) := Bd.o0 hB0 io9_112_97_12 (by decide) bd9_12_1
  exact hQ _ _ _ _ hB1 trivial
set_option maxHeartbeats 2000000 in
theorem sp_X12_top {d : Nat} {Q : Qt} {I : Im} {J : Jm} {R : Rm} (hB0 : Bd I) (hR0 : RI R) (hQ : ∀ (x : Int32) (y : Int64) (I2 : Im) (J2 : Jm), Bd I2 → (True) → Q x y I2 J2 R) : AM (d + 1) 174 112 [.ref 97] I J R Q := by
  refine w_X12_top ?_
  have hB1 : Bd (uI I 97 1 0) := Bd.o0 hB0 io9_112_97_12 (by decide) bd9_12_1
  exact hQ _ _ _ _ hB1 trivial
set_option maxHeartbeats 2000000 in
theorem sp_X12_bottom {d : Nat} {Q : Qt} {I : Im} {J : Jm} {R : Rm} (hB0 : Bd I) (hR0 : RI R) (hQ : ∀ (x : Int32) (y : Int64) (I2 : Im) (J2 : Jm), Bd I2 → (True) → Q x y I2 J2 R) : AM (d + 1) 175 112 [.ref 97] I J R Q := by
  refine w_X12_bottom ?_
  have hB1 : Bd (uI I 97 1 0) := Bd.o0 hB0 io9_112_97_12 (by decide) bd9_12_1
  exact hQ _ _ _ _ hB1 trivial
set_option maxHeartbeats 2000000 in
theorem sp_X12_copyStore {d : Nat} {Q : Qt} {v1 : Int32} {v2 : Int32} {I : Im} {J : Jm} {R : Rm} (hB0 : Bd I) (hR0 : RI R) (hQ : ∀ (x : Int32) (y : Int64) (I2 : Im) (J2 : Jm), Bd I2 → ((((x.toInt = v2.toInt ∧ 0 ≤ v1.toInt ∧ v1.toInt ≤ 3 ∧ 0 ≤ (I 99 (Int32.toNatClampNeg v1)).toInt ∧ 0 ≤ v2.toInt ∧ v2.toInt ≤ 30 ∧ v2.toInt ≤ (I 99 (Int32.toNatClampNeg v1)).toInt) ∨ (x.toInt = -1 ∧ (v1.toInt < 0 ∨ 3 < v1.toInt ∨ (I 99 (Int32.toNatClampNeg v1)).toInt < 0 ∨ v2.toInt < 0 ∨ 30 < v2.toInt ∨ (I 99 (Int32.toNatClampNeg v1)).toInt < v2.toInt))) ∧ K9 I I2)) → Q x y I2 J2 R) : AM (d + 4) 254 112 [.ref 97, .int v1, .int v2] I J R Q := by
  have i_v1 := i32 v1
  have i_v2 := i32 v2
  refine am_X12_copyStore (fun P hc => ?_)
  have L : ∀ n : Nat, (∀ (v3 : Int32) (M : Im) (JM : Jm), Bd M → (K9 I M) → (0 ≤ (I 99 (Int32.toNatClampNeg v1)).toInt ∧ v2.toInt ≤ (I 99 (Int32.toNatClampNeg v1)).toInt ∧ 0 ≤ v1.toInt ∧ v1.toInt ≤ 3 ∧ 0 ≤ v2.toInt ∧ v2.toInt ≤ 30 ∧ 0 ≤ v3.toInt ∧ v3.toInt ≤ v2.toInt) → 40 - v3.toInt < (n : Int) → P 75 112 [(0, .ref 97), (1, .int v1), (2, .int v2), (3, .int v3)] [] M JM R) := by
    intro n
    induction n with
    | zero =>
      exact fun v3 M J _ _ hi hm => absurd hm (by omega)
    | succ n ih =>
      intro v3 M JM hB hq_0 hi hm
      have i_v1 := i32 v1
      have i_v2 := i32 v2
      have i_v3 := i32 v3
      refine sg_X12_copyStore_75 hc _ _ _ _ _ _ ?_
      refine ⟨fun c1 => ?_, fun c1 => ?_⟩
      · skip
        have d2 : ((v2.toInt) : Int) ≤ (v3.toInt) := ci_le rfl rfl c1
        exact hQ _ _ _ _ hB ⟨(by have q0 : (v2 : Int32).toInt = v2.toInt := rfl; omega), hq_0⟩
      · skip
        have d3 : ((v3.toInt) : Int) < (v2.toInt) := ci_nle rfl rfl c1
        have e4 : ((4 + v3) : Int32).toInt = (4) + (v3.toInt) := ti_add rfl rfl (by omega)
        refine ⟨vp_of (a := (4 + v3.toInt)) e4 (by omega) (by omega), ?_⟩
        refine sp_X12_write hB hR0 (fun x5 y10 I6 J7 hB8 p9 => ?_)
        intro o11
        have i12 := i32 x5
        have e13 : ((v3 + 1) : Int32).toInt = (v3.toInt) + (1) := ti_add rfl rfl (by omega)
        have hv14 : K9 I I6 := (K9.tr hq_0 p9.2)
        exact ih _ _ _ hB8 hv14 (by have q0 : ((v3 + 1) : Int32).toInt = (v3.toInt + 1) := e13; omega) (by have q0 : ((v3 + 1) : Int32).toInt = (v3.toInt + 1) := e13; omega)
  refine sg_X12_copyStore_0 hc _ _ _ _ _ ?_
  have hB15 : Bd (uI I 97 1 0) := Bd.o0 hB0 io9_112_97_12 (by decide) bd9_12_1
  have hB16 : Bd (uI (uI I 97 1 0) 97 0 0) := Bd.o0 hB15 io9_112_97_12 (by decide) bd9_12_0
  refine w_X12_isTray ?_
  refine w_X12_isIn ?_
  refine ⟨fun c17 => ?_, fun c17 => ?_⟩
  · skip
    rw [lg_cmp_lt] at c17
    have d18 : ((v1.toInt) : Int) < (0) := cl_lt (tl_i2l rfl) rfl c17
    refine ⟨Or.inl rfl, ?_⟩
    intro o19
    refine ⟨Or.inl rfl, ?_⟩
    intro o20
    refine ⟨fun c21 => ?_, fun c21 => ?_⟩
    · exact absurd c21 (by decide)
    · skip
      refine w_X12_refuse ?_
      have hB22 : Bd (uI (uI (uI I 97 1 0) 97 0 0) 97 0 1) := Bd.o0 hB16 io9_112_97_12 (by decide) bd9_12_0
      exact hQ _ _ _ _ hB22 ⟨(by have q0 : ((-1) : Int32).toInt = (-1) := rfl; omega), ⟨rfl, rfl⟩⟩
  · skip
    rw [lg_cmp_lt] at c17
    have d23 : ((0) : Int) ≤ (v1.toInt) := cl_nlt (tl_i2l rfl) rfl c17
    refine ⟨fun c24 => ?_, fun c24 => ?_⟩
    · skip
      rw [lg_cmp_gt] at c24
      have d25 : ((3) : Int) < (v1.toInt) := cl_lt rfl (tl_i2l rfl) c24
      refine ⟨Or.inl rfl, ?_⟩
      intro o26
      refine ⟨Or.inl rfl, ?_⟩
      intro o27
      refine ⟨fun c28 => ?_, fun c28 => ?_⟩
      · exact absurd c28 (by decide)
      · skip
        refine w_X12_refuse ?_
        have hB29 : Bd (uI (uI (uI I 97 1 0) 97 0 0) 97 0 1) := Bd.o0 hB16 io9_112_97_12 (by decide) bd9_12_0
        exact hQ _ _ _ _ hB29 ⟨(by have q0 : ((-1) : Int32).toInt = (-1) := rfl; omega), ⟨rfl, rfl⟩⟩
    · skip
      rw [lg_cmp_gt] at c24
      have d30 : ((v1.toInt) : Int) ≤ (3) := cl_nlt rfl (tl_i2l rfl) c24
      refine ⟨Or.inr rfl, ?_⟩
      intro o31
      refine ⟨Or.inr rfl, ?_⟩
      intro o32
      refine ⟨fun c33 => ?_, fun c33 => ?_⟩
      · skip
        refine ⟨vp_of (a := v1.toInt) rfl (by omega) (by omega), ?_⟩
        refine ⟨fun c34 => ?_, fun c34 => ?_⟩
        · skip
          have b35 := Bd.a hB0 (Int32.toNatClampNeg v1) (show bna 99 = some _ from rfl)
          have e36 : (((uI (uI I 97 1 0) 97 0 0) 99 (Int32.toNatClampNeg v1)) : Int32).toInt = (I 99 (Int32.toNatClampNeg v1)).toInt := Eq.trans (congrArg Int32.toInt (Eq.trans (rd_ne (by first | decide | omega)) (rd_ne (by first | decide | omega)))) rfl
          have d37 : ((0) : Int) ≤ ((I 99 (Int32.toNatClampNeg v1)).toInt) := ci_le rfl e36 c34
          refine ⟨vp_of (a := v1.toInt) rfl (by omega) (by omega), ?_⟩
          refine ⟨fun c38 => ?_, fun c38 => ?_⟩
          · skip
            have d39 : ((v2.toInt) : Int) ≤ ((I 99 (Int32.toNatClampNeg v1)).toInt) := ci_le rfl e36 c38
            refine w_X12_isIn ?_
            refine ⟨fun c40 => ?_, fun c40 => ?_⟩
            · skip
              rw [lg_cmp_lt] at c40
              have d41 : ((v2.toInt) : Int) < (0) := cl_lt (tl_i2l rfl) rfl c40
              refine ⟨Or.inl rfl, ?_⟩
              intro o42
              refine ⟨fun c43 => ?_, fun c43 => ?_⟩
              · exact absurd c43 (by decide)
              · skip
                refine w_X12_refuse ?_
                have hB44 : Bd (uI (uI (uI I 97 1 0) 97 0 0) 97 0 5) := Bd.o0 hB16 io9_112_97_12 (by decide) bd9_12_0
                exact hQ _ _ _ _ hB44 ⟨(by have q0 : ((-1) : Int32).toInt = (-1) := rfl; omega), ⟨rfl, rfl⟩⟩
            · skip
              rw [lg_cmp_lt] at c40
              have d45 : ((0) : Int) ≤ (v2.toInt) := cl_nlt (tl_i2l rfl) rfl c40
              refine ⟨fun c46 => ?_, fun c46 => ?_⟩
              · skip
                rw [lg_cmp_gt] at c46
                have d47 : ((30) : Int) < (v2.toInt) := cl_lt rfl (tl_i2l rfl) c46
                refine ⟨Or.inl rfl, ?_⟩
                intro o48
                refine ⟨fun c49 => ?_, fun c49 => ?_⟩
                · exact absurd c49 (by decide)
                · skip
                  refine w_X12_refuse ?_
                  have hB50 : Bd (uI (uI (uI I 97 1 0) 97 0 0) 97 0 5) := Bd.o0 hB16 io9_112_97_12 (by decide) bd9_12_0
                  exact hQ _ _ _ _ hB50 ⟨(by have q0 : ((-1) : Int32).toInt = (-1) := rfl; omega), ⟨rfl, rfl⟩⟩
              · skip
                rw [lg_cmp_gt] at c46
                have d51 : ((v2.toInt) : Int) ≤ (30) := cl_nlt rfl (tl_i2l rfl) c46
                refine ⟨Or.inr rfl, ?_⟩
                intro o52
                refine ⟨fun c53 => ?_, fun c53 => ?_⟩
                · skip
                  have hv54 : K9 I (uI (uI I 97 1 0) 97 0 0) := ⟨rfl, rfl⟩
                  exact (L 1000000) _ _ _ hB16 hv54 (by have q0 : (0 : Int32).toInt = 0 := rfl; omega) (by have q0 : (0 : Int32).toInt = 0 := rfl; omega)
                · exact absurd c53 (by decide)
          · skip
            have d55 : (((I 99 (Int32.toNatClampNeg v1)).toInt) : Int) < (v2.toInt) := ci_nle rfl e36 c38
            refine w_X12_refuse ?_
            have hB56 : Bd (uI (uI (uI I 97 1 0) 97 0 0) 97 0 4) := Bd.o0 hB16 io9_112_97_12 (by decide) bd9_12_0
            exact hQ _ _ _ _ hB56 ⟨(by have q0 : ((-1) : Int32).toInt = (-1) := rfl; omega), ⟨rfl, rfl⟩⟩
        · skip
          have b57 := Bd.a hB0 (Int32.toNatClampNeg v1) (show bna 99 = some _ from rfl)
          have e58 : (((uI (uI I 97 1 0) 97 0 0) 99 (Int32.toNatClampNeg v1)) : Int32).toInt = (I 99 (Int32.toNatClampNeg v1)).toInt := Eq.trans (congrArg Int32.toInt (Eq.trans (rd_ne (by first | decide | omega)) (rd_ne (by first | decide | omega)))) rfl
          have d59 : (((I 99 (Int32.toNatClampNeg v1)).toInt) : Int) < (0) := ci_nle rfl e58 c34
          refine w_X12_refuse ?_
          have hB60 : Bd (uI (uI (uI I 97 1 0) 97 0 0) 97 0 3) := Bd.o0 hB16 io9_112_97_12 (by decide) bd9_12_0
          exact hQ _ _ _ _ hB60 ⟨(by have q0 : ((-1) : Int32).toInt = (-1) := rfl; omega), ⟨rfl, rfl⟩⟩
      · exact absurd c33 (by decide)
set_option maxHeartbeats 2000000 in
theorem sp_X12_fault {d : Nat} {Q : Qt} {v1 : Int32} {I : Im} {J : Jm} {R : Rm} (hB0 : Bd I) (hR0 : RI R) (hQ : ∀ (x : Int32) (y : Int64) (I2 : Im) (J2 : Jm), Bd I2 → (True) → Q x y I2 J2 R) : AM (d + 1) 224 112 [.ref 97, .int v1] I J R Q := by
  have i_v1 := i32 v1
  refine w_X12_fault ?_
  have hB1 : Bd (uI I 97 1 0) := Bd.o0 hB0 io9_112_97_12 (by decide) bd9_12_1
  refine ⟨fun c2 => ?_, fun c2 => ?_⟩
  · skip
    have d3 : ¬ ((v1.toInt) : Int) = (0) := ci_ne rfl rfl c2
    refine ⟨fun c4 => ?_, fun c4 => ?_⟩
    · skip
      have d5 : ¬ ((v1.toInt) : Int) = (1) := ci_ne rfl rfl c4
      exact hQ _ _ _ _ hB1 trivial
    · skip
      have d6 : ((v1.toInt) : Int) = (1) := ci_eq rfl rfl c4
      exact hQ _ _ _ _ hB1 trivial
  · skip
    have d7 : ((v1.toInt) : Int) = (0) := ci_eq rfl rfl c2
    exact hQ _ _ _ _ hB1 trivial
set_option maxHeartbeats 2000000 in
theorem sp_X12_learn {d : Nat} {Q : Qt} {v1 : Int32} {v2 : Int32} {I : Im} {J : Jm} {R : Rm} (hB0 : Bd I) (hR0 : RI R) (hQ : ∀ (x : Int32) (y : Int64) (I2 : Im) (J2 : Jm), Bd I2 → (True) → Q x y I2 J2 R) : AM (d + 3) 269 112 [.ref 97, .int v1, .int v2] I J R Q := by
  have i_v1 := i32 v1
  have i_v2 := i32 v2
  refine w_X12_learn ?_
  have hB1 : Bd (uI I 97 1 0) := Bd.o0 hB0 io9_112_97_12 (by decide) bd9_12_1
  have hB2 : Bd (uI (uI I 97 1 0) 97 0 0) := Bd.o0 hB1 io9_112_97_12 (by decide) bd9_12_0
  refine w_X12_isSlice ?_
  refine w_X12_isIn ?_
  refine ⟨fun c3 => ?_, fun c3 => ?_⟩
  · skip
    rw [lg_cmp_lt] at c3
    have d4 : ((v1.toInt) : Int) < (1) := cl_lt (tl_i2l rfl) rfl c3
    refine ⟨Or.inl rfl, ?_⟩
    intro o5
    refine ⟨Or.inl rfl, ?_⟩
    intro o6
    refine ⟨fun c7 => ?_, fun c7 => ?_⟩
    · exact absurd c7 (by decide)
    · skip
      refine w_X12_no ?_
      have hB8 : Bd (uI (uI (uI I 97 1 0) 97 0 0) 97 0 2) := Bd.o0 hB2 io9_112_97_12 (by decide) bd9_12_0
      refine ⟨Or.inl rfl, ?_⟩
      intro o9
      refine ⟨Or.inl rfl, ?_⟩
      exact hQ _ _ _ _ hB8 trivial
  · skip
    rw [lg_cmp_lt] at c3
    have d10 : ((1) : Int) ≤ (v1.toInt) := cl_nlt (tl_i2l rfl) rfl c3
    refine ⟨fun c11 => ?_, fun c11 => ?_⟩
    · skip
      rw [lg_cmp_gt] at c11
      have d12 : ((30) : Int) < (v1.toInt) := cl_lt rfl (tl_i2l rfl) c11
      refine ⟨Or.inl rfl, ?_⟩
      intro o13
      refine ⟨Or.inl rfl, ?_⟩
      intro o14
      refine ⟨fun c15 => ?_, fun c15 => ?_⟩
      · exact absurd c15 (by decide)
      · skip
        refine w_X12_no ?_
        have hB16 : Bd (uI (uI (uI I 97 1 0) 97 0 0) 97 0 2) := Bd.o0 hB2 io9_112_97_12 (by decide) bd9_12_0
        refine ⟨Or.inl rfl, ?_⟩
        intro o17
        refine ⟨Or.inl rfl, ?_⟩
        exact hQ _ _ _ _ hB16 trivial
    · skip
      rw [lg_cmp_gt] at c11
      have d18 : ((v1.toInt) : Int) ≤ (30) := cl_nlt rfl (tl_i2l rfl) c11
      refine ⟨Or.inr rfl, ?_⟩
      intro o19
      refine ⟨Or.inr rfl, ?_⟩
      intro o20
      refine ⟨fun c21 => ?_, fun c21 => ?_⟩
      · skip
        refine ⟨vp_of (a := 3) rfl (by omega) (by omega), ?_⟩
        refine w_X12_isOf ?_
        refine ⟨fun c22 => ?_, fun c22 => ?_⟩
        · skip
          have d23 : ¬ (((((((uI (uI I 97 1 0) 97 0 0) 102 (Int32.toNatClampNeg 3)) >>> ((v1 - 1) &&& 31)) &&& 1) : Int32).toInt) : Int) = (1) := ci_ne rfl rfl c22
          refine ⟨Or.inl rfl, ?_⟩
          intro o24
          refine ⟨fun c25 => ?_, fun c25 => ?_⟩
          · skip
            have d26 : ¬ ((0) : Int) = (v2.toInt) := ci_ne rfl rfl c25
            refine ⟨vp_of (a := 3) rfl (by first | (clear d10 d18 d23 d26; omega) | omega) (by first | (clear d10 d18 d23 d26; omega) | omega), ?_⟩
            refine ⟨vp_of (a := 3) rfl (by first | (clear d10 d18 d23 d26; omega) | omega) (by first | (clear d10 d18 d23 d26; omega) | omega), ?_⟩
            have b28 := (Bd.c hB0 (j := 3) (z := 3) rfl).2.1 (by decide)
            have e29 : (((uI (uI I 97 1 0) 97 0 0) 102 (Int32.toNatClampNeg 3)) : Int32).toInt = (I 102 3).toInt := Eq.trans (congrArg Int32.toInt (Eq.trans (Eq.trans (rd_ne (by first | decide | omega)) (rd_ne (by first | decide | omega))) rfl)) rfl
            have e30 : ((v1 - 1) : Int32).toInt = (v1.toInt) - (1) := ti_sub rfl rfl (by omega)
            have s31 := shlp (show ((v1 - 1) : Int32).toInt = (v1.toInt - 1) from e30) (by omega)
            have s32 := xori (show (((uI (uI I 97 1 0) 97 0 0) 102 (Int32.toNatClampNeg 3)) : Int32).toInt = (I 102 3).toInt from e29) (show ((1 <<< ((v1 - 1) &&& 31)) : Int32).toInt = ((1 <<< ((v1 - 1) &&& 31)) : Int32).toInt from rfl) (by omega) (by omega)
            have hB27 : Bd (uI (uI (uI I 97 1 0) 97 0 0) 102 (Int32.toNatClampNeg 3) (((uI (uI I 97 1 0) 97 0 0) 102 (Int32.toNatClampNeg 3)) ^^^ (1 <<< ((v1 - 1) &&& 31)))) := Bd.cknown hB2 (show (3 : Int32).toInt = 3 from rfl) (show ((((uI (uI I 97 1 0) 97 0 0) 102 (Int32.toNatClampNeg 3)) ^^^ (1 <<< ((v1 - 1) &&& 31))) : Int32).toInt = ((((uI (uI I 97 1 0) 97 0 0) 102 (Int32.toNatClampNeg 3)) ^^^ (1 <<< ((v1 - 1) &&& 31))) : Int32).toInt from rfl) (by omega) (by omega) (by omega) 
            refine ⟨Or.inr rfl, ?_⟩
            exact hQ _ _ _ _ hB27 trivial
          · skip
            have d33 : ((0) : Int) = (v2.toInt) := ci_eq rfl rfl c25
            refine w_X12_no ?_
            have hB34 : Bd (uI (uI (uI I 97 1 0) 97 0 0) 97 0 9) := Bd.o0 hB2 io9_112_97_12 (by decide) bd9_12_0
            refine ⟨Or.inl rfl, ?_⟩
            intro o35
            refine ⟨Or.inl rfl, ?_⟩
            exact hQ _ _ _ _ hB34 trivial
        · skip
          have d36 : (((((((uI (uI I 97 1 0) 97 0 0) 102 (Int32.toNatClampNeg 3)) >>> ((v1 - 1) &&& 31)) &&& 1) : Int32).toInt) : Int) = (1) := ci_eq rfl rfl c22
          refine ⟨Or.inr rfl, ?_⟩
          intro o37
          refine ⟨fun c38 => ?_, fun c38 => ?_⟩
          · skip
            have d39 : ¬ ((1) : Int) = (v2.toInt) := ci_ne rfl rfl c38
            refine ⟨vp_of (a := 3) rfl (by first | (clear d10 d18 d36 d39; omega) | omega) (by first | (clear d10 d18 d36 d39; omega) | omega), ?_⟩
            refine ⟨vp_of (a := 3) rfl (by first | (clear d10 d18 d36 d39; omega) | omega) (by first | (clear d10 d18 d36 d39; omega) | omega), ?_⟩
            have b41 := (Bd.c hB0 (j := 3) (z := 3) rfl).2.1 (by decide)
            have e42 : (((uI (uI I 97 1 0) 97 0 0) 102 (Int32.toNatClampNeg 3)) : Int32).toInt = (I 102 3).toInt := Eq.trans (congrArg Int32.toInt (Eq.trans (Eq.trans (rd_ne (by first | decide | omega)) (rd_ne (by first | decide | omega))) rfl)) rfl
            have e43 : ((v1 - 1) : Int32).toInt = (v1.toInt) - (1) := ti_sub rfl rfl (by omega)
            have s44 := shlp (show ((v1 - 1) : Int32).toInt = (v1.toInt - 1) from e43) (by omega)
            have s45 := xori (show (((uI (uI I 97 1 0) 97 0 0) 102 (Int32.toNatClampNeg 3)) : Int32).toInt = (I 102 3).toInt from e42) (show ((1 <<< ((v1 - 1) &&& 31)) : Int32).toInt = ((1 <<< ((v1 - 1) &&& 31)) : Int32).toInt from rfl) (by omega) (by omega)
            have hB40 : Bd (uI (uI (uI I 97 1 0) 97 0 0) 102 (Int32.toNatClampNeg 3) (((uI (uI I 97 1 0) 97 0 0) 102 (Int32.toNatClampNeg 3)) ^^^ (1 <<< ((v1 - 1) &&& 31)))) := Bd.cknown hB2 (show (3 : Int32).toInt = 3 from rfl) (show ((((uI (uI I 97 1 0) 97 0 0) 102 (Int32.toNatClampNeg 3)) ^^^ (1 <<< ((v1 - 1) &&& 31))) : Int32).toInt = ((((uI (uI I 97 1 0) 97 0 0) 102 (Int32.toNatClampNeg 3)) ^^^ (1 <<< ((v1 - 1) &&& 31))) : Int32).toInt from rfl) (by omega) (by omega) (by omega) 
            refine ⟨Or.inr rfl, ?_⟩
            exact hQ _ _ _ _ hB40 trivial
          · skip
            have d46 : ((1) : Int) = (v2.toInt) := ci_eq rfl rfl c38
            refine w_X12_no ?_
            have hB47 : Bd (uI (uI (uI I 97 1 0) 97 0 0) 97 0 9) := Bd.o0 hB2 io9_112_97_12 (by decide) bd9_12_0
            refine ⟨Or.inl rfl, ?_⟩
            intro o48
            refine ⟨Or.inl rfl, ?_⟩
            exact hQ _ _ _ _ hB47 trivial
      · exact absurd c21 (by decide)
set_option maxHeartbeats 2000000 in
theorem sp_X12_owe {d : Nat} {Q : Qt} {v1 : Int32} {v2 : Int32} {v3 : Int32} {I : Im} {J : Jm} {R : Rm} (hB0 : Bd I) (hR0 : RI R) (hQ : ∀ (x : Int32) (y : Int64) (I2 : Im) (J2 : Jm), Bd I2 → (Fr pK I I2) → Q x y I2 J2 R) : AM (d + 3) 267 112 [.ref 97, .int v1, .int v2, .int v3] I J R Q := by
  have i_v1 := i32 v1
  have i_v2 := i32 v2
  have i_v3 := i32 v3
  refine w_X12_owe ?_
  have hB1 : Bd (uI I 97 1 0) := Bd.o0 hB0 io9_112_97_12 (by decide) bd9_12_1
  have f2 : Fr pK I (uI I 97 1 0) := Fr.o (Fr.refl _ _) (by decide) (by decide)
  have hB3 : Bd (uI (uI I 97 1 0) 97 0 0) := Bd.o0 hB1 io9_112_97_12 (by decide) bd9_12_0
  have f4 : Fr pK I (uI (uI I 97 1 0) 97 0 0) := Fr.o f2 (by decide) (by decide)
  refine w_X12_isManAt ?_
  refine ⟨vp_of (a := 0) rfl (by omega) (by omega), ?_⟩
  refine w_X12_isIn ?_
  refine ⟨fun c5 => ?_, fun c5 => ?_⟩
  · skip
    rw [lg_cmp_lt] at c5
    have d6 : ((v1.toInt) : Int) < (0) := cl_lt (tl_i2l rfl) rfl c5
    refine ⟨Or.inl rfl, ?_⟩
    intro o7
    refine ⟨Or.inl rfl, ?_⟩
    intro o8
    refine ⟨fun c9 => ?_, fun c9 => ?_⟩
    · exact absurd c9 (by decide)
    · skip
      refine w_X12_no ?_
      have hB10 : Bd (uI (uI (uI I 97 1 0) 97 0 0) 97 0 2) := Bd.o0 hB3 io9_112_97_12 (by decide) bd9_12_0
      have f11 : Fr pK I (uI (uI (uI I 97 1 0) 97 0 0) 97 0 2) := Fr.o f4 (by decide) (by decide)
      refine ⟨Or.inl rfl, ?_⟩
      intro o12
      refine ⟨Or.inl rfl, ?_⟩
      exact hQ _ _ _ _ hB10 f11
  · skip
    rw [lg_cmp_lt] at c5
    have d13 : ((0) : Int) ≤ (v1.toInt) := cl_nlt (tl_i2l rfl) rfl c5
    refine ⟨fun c14 => ?_, fun c14 => ?_⟩
    · skip
      rw [lg_cmp_gt] at c14
      have b15 := (Bd.c hB0 (j := 0) (z := 0) rfl).1 (by decide)
      have e16 : (((uI (uI I 97 1 0) 97 0 0) 102 (Int32.toNatClampNeg 0)) : Int32).toInt = (I 102 0).toInt := Eq.trans (congrArg Int32.toInt (Eq.trans (Eq.trans (rd_ne (by first | decide | omega)) (rd_ne (by first | decide | omega))) rfl)) rfl
      have e17 : ((((uI (uI I 97 1 0) 97 0 0) 102 (Int32.toNatClampNeg 0)) - 1) : Int32).toInt = ((I 102 0).toInt) - (1) := ti_sub e16 rfl (by omega)
      have i18 := i32 ((((uI (uI I 97 1 0) 97 0 0) 102 (Int32.toNatClampNeg 0)) - 1))
      have d19 : ((((I 102 0).toInt - 1)) : Int) < (v1.toInt) := cl_lt (tl_i2l e17) (tl_i2l rfl) c14
      refine ⟨Or.inl rfl, ?_⟩
      intro o20
      refine ⟨Or.inl rfl, ?_⟩
      intro o21
      refine ⟨fun c22 => ?_, fun c22 => ?_⟩
      · exact absurd c22 (by decide)
      · skip
        refine w_X12_no ?_
        have hB23 : Bd (uI (uI (uI I 97 1 0) 97 0 0) 97 0 2) := Bd.o0 hB3 io9_112_97_12 (by decide) bd9_12_0
        have f24 : Fr pK I (uI (uI (uI I 97 1 0) 97 0 0) 97 0 2) := Fr.o f4 (by decide) (by decide)
        refine ⟨Or.inl rfl, ?_⟩
        intro o25
        refine ⟨Or.inl rfl, ?_⟩
        exact hQ _ _ _ _ hB23 f24
    · skip
      rw [lg_cmp_gt] at c14
      have b26 := (Bd.c hB0 (j := 0) (z := 0) rfl).1 (by decide)
      have e27 : (((uI (uI I 97 1 0) 97 0 0) 102 (Int32.toNatClampNeg 0)) : Int32).toInt = (I 102 0).toInt := Eq.trans (congrArg Int32.toInt (Eq.trans (Eq.trans (rd_ne (by first | decide | omega)) (rd_ne (by first | decide | omega))) rfl)) rfl
      have e28 : ((((uI (uI I 97 1 0) 97 0 0) 102 (Int32.toNatClampNeg 0)) - 1) : Int32).toInt = ((I 102 0).toInt) - (1) := ti_sub e27 rfl (by omega)
      have i29 := i32 ((((uI (uI I 97 1 0) 97 0 0) 102 (Int32.toNatClampNeg 0)) - 1))
      have d30 : ((v1.toInt) : Int) ≤ (((I 102 0).toInt - 1)) := cl_nlt (tl_i2l e28) (tl_i2l rfl) c14
      refine ⟨Or.inr rfl, ?_⟩
      intro o31
      refine ⟨Or.inr rfl, ?_⟩
      intro o32
      refine ⟨fun c33 => ?_, fun c33 => ?_⟩
      · skip
        refine w_X12_isShare ?_
        refine w_X12_isIn ?_
        refine ⟨fun c34 => ?_, fun c34 => ?_⟩
        · skip
          rw [lg_cmp_lt] at c34
          have d35 : ((v2.toInt) : Int) < (1) := cl_lt (tl_i2l rfl) rfl c34
          refine ⟨Or.inl rfl, ?_⟩
          intro o36
          refine ⟨fun c37 => ?_, fun c37 => ?_⟩
          · skip
            refine ⟨Or.inl rfl, ?_⟩
            intro o38
            refine ⟨fun c39 => ?_, fun c39 => ?_⟩
            · exact absurd c39 (by decide)
            · skip
              refine w_X12_no ?_
              have hB40 : Bd (uI (uI (uI I 97 1 0) 97 0 0) 97 0 5) := Bd.o0 hB3 io9_112_97_12 (by decide) bd9_12_0
              have f41 : Fr pK I (uI (uI (uI I 97 1 0) 97 0 0) 97 0 5) := Fr.o f4 (by decide) (by decide)
              refine ⟨Or.inl rfl, ?_⟩
              intro o42
              refine ⟨Or.inl rfl, ?_⟩
              exact hQ _ _ _ _ hB40 f41
          · exact absurd c37 (by decide)
        · skip
          rw [lg_cmp_lt] at c34
          have d43 : ((1) : Int) ≤ (v2.toInt) := cl_nlt (tl_i2l rfl) rfl c34
          refine ⟨fun c44 => ?_, fun c44 => ?_⟩
          · skip
            rw [lg_cmp_gt] at c44
            have d45 : ((99) : Int) < (v2.toInt) := cl_lt rfl (tl_i2l rfl) c44
            refine ⟨Or.inl rfl, ?_⟩
            intro o46
            refine ⟨fun c47 => ?_, fun c47 => ?_⟩
            · skip
              refine ⟨Or.inl rfl, ?_⟩
              intro o48
              refine ⟨fun c49 => ?_, fun c49 => ?_⟩
              · exact absurd c49 (by decide)
              · skip
                refine w_X12_no ?_
                have hB50 : Bd (uI (uI (uI I 97 1 0) 97 0 0) 97 0 5) := Bd.o0 hB3 io9_112_97_12 (by decide) bd9_12_0
                have f51 : Fr pK I (uI (uI (uI I 97 1 0) 97 0 0) 97 0 5) := Fr.o f4 (by decide) (by decide)
                refine ⟨Or.inl rfl, ?_⟩
                intro o52
                refine ⟨Or.inl rfl, ?_⟩
                exact hQ _ _ _ _ hB50 f51
            · exact absurd c47 (by decide)
          · skip
            rw [lg_cmp_gt] at c44
            have d53 : ((v2.toInt) : Int) ≤ (99) := cl_nlt rfl (tl_i2l rfl) c44
            refine ⟨Or.inr rfl, ?_⟩
            intro o54
            refine ⟨fun c55 => ?_, fun c55 => ?_⟩
            · exact absurd c55 (by decide)
            · skip
              refine w_X12_isIn ?_
              refine ⟨fun c56 => ?_, fun c56 => ?_⟩
              · skip
                rw [lg_cmp_lt] at c56
                have d57 : ((v3.toInt) : Int) < (1) := cl_lt (tl_i2l rfl) rfl c56
                refine ⟨Or.inl rfl, ?_⟩
                intro o58
                refine ⟨fun c59 => ?_, fun c59 => ?_⟩
                · skip
                  refine ⟨Or.inl rfl, ?_⟩
                  intro o60
                  refine ⟨fun c61 => ?_, fun c61 => ?_⟩
                  · exact absurd c61 (by decide)
                  · skip
                    refine w_X12_no ?_
                    have hB62 : Bd (uI (uI (uI I 97 1 0) 97 0 0) 97 0 5) := Bd.o0 hB3 io9_112_97_12 (by decide) bd9_12_0
                    have f63 : Fr pK I (uI (uI (uI I 97 1 0) 97 0 0) 97 0 5) := Fr.o f4 (by decide) (by decide)
                    refine ⟨Or.inl rfl, ?_⟩
                    intro o64
                    refine ⟨Or.inl rfl, ?_⟩
                    exact hQ _ _ _ _ hB62 f63
                · exact absurd c59 (by decide)
              · skip
                rw [lg_cmp_lt] at c56
                have d65 : ((1) : Int) ≤ (v3.toInt) := cl_nlt (tl_i2l rfl) rfl c56
                refine ⟨fun c66 => ?_, fun c66 => ?_⟩
                · skip
                  rw [lg_cmp_gt] at c66
                  have d67 : ((30) : Int) < (v3.toInt) := cl_lt rfl (tl_i2l rfl) c66
                  refine ⟨Or.inl rfl, ?_⟩
                  intro o68
                  refine ⟨fun c69 => ?_, fun c69 => ?_⟩
                  · skip
                    refine ⟨Or.inl rfl, ?_⟩
                    intro o70
                    refine ⟨fun c71 => ?_, fun c71 => ?_⟩
                    · exact absurd c71 (by decide)
                    · skip
                      refine w_X12_no ?_
                      have hB72 : Bd (uI (uI (uI I 97 1 0) 97 0 0) 97 0 5) := Bd.o0 hB3 io9_112_97_12 (by decide) bd9_12_0
                      have f73 : Fr pK I (uI (uI (uI I 97 1 0) 97 0 0) 97 0 5) := Fr.o f4 (by decide) (by decide)
                      refine ⟨Or.inl rfl, ?_⟩
                      intro o74
                      refine ⟨Or.inl rfl, ?_⟩
                      exact hQ _ _ _ _ hB72 f73
                  · exact absurd c69 (by decide)
                · skip
                  rw [lg_cmp_gt] at c66
                  have d75 : ((v3.toInt) : Int) ≤ (30) := cl_nlt rfl (tl_i2l rfl) c66
                  refine ⟨Or.inr rfl, ?_⟩
                  intro o76
                  refine ⟨fun c77 => ?_, fun c77 => ?_⟩
                  · exact absurd c77 (by decide)
                  · skip
                    refine ⟨Or.inr rfl, ?_⟩
                    intro o78
                    refine ⟨fun c79 => ?_, fun c79 => ?_⟩
                    · skip
                      have e80 : ((34 + v1) : Int32).toInt = (34) + (v1.toInt) := ti_add rfl rfl (by first | (clear e27 e28 i29 d43 d53 d65 d75; omega) | omega)
                      refine ⟨vp_of (a := (34 + v1.toInt)) e80 (by first | (clear e27 e28 i29 d43 d53 d65 d75; omega) | omega) (by first | (clear e27 e28 i29 d43 d53 d65 d75; omega) | omega), ?_⟩
                      have hB81 : Bd (uI (uI (uI I 97 1 0) 97 0 0) 102 (Int32.toNatClampNeg (34 + v1)) v2) := Bd.cfree hB3 (show ((34 + v1) : Int32).toInt = (34 + v1.toInt) from e80) (by omega) (by omega) (by omega) (by omega)
                      have f82 : Fr pK I (uI (uI (uI I 97 1 0) 97 0 0) 102 (Int32.toNatClampNeg (34 + v1)) v2) := Fr.w f4 (show ((34 + v1) : Int32).toInt = (34 + v1.toInt) from e80) (by omega) (fun j hj hp => by unfold pK at hp; omega)
                      have e83 : ((40 + v1) : Int32).toInt = (40) + (v1.toInt) := ti_add rfl rfl (by first | (clear e27 e28 i29 d43 d53 d65 d75; omega) | omega)
                      refine ⟨vp_of (a := (40 + v1.toInt)) e83 (by first | (clear e27 e28 i29 d43 d53 d65 d75; omega) | omega) (by first | (clear e27 e28 i29 d43 d53 d65 d75; omega) | omega), ?_⟩
                      have hB84 : Bd (uI (uI (uI (uI I 97 1 0) 97 0 0) 102 (Int32.toNatClampNeg (34 + v1)) v2) 102 (Int32.toNatClampNeg (40 + v1)) v3) := Bd.csecond hB81 (show ((40 + v1) : Int32).toInt = (40 + v1.toInt) from e83) (show (v3 : Int32).toInt = v3.toInt from rfl) (by omega) (by omega) (by omega) 
                      have f85 : Fr pK I (uI (uI (uI (uI I 97 1 0) 97 0 0) 102 (Int32.toNatClampNeg (34 + v1)) v2) 102 (Int32.toNatClampNeg (40 + v1)) v3) := Fr.w f82 (show ((40 + v1) : Int32).toInt = (40 + v1.toInt) from e83) (by omega) (fun j hj hp => by unfold pK at hp; omega)
                      refine ⟨Or.inr rfl, ?_⟩
                      exact hQ _ _ _ _ hB84 f85
                    · exact absurd c79 (by decide)
      · exact absurd c33 (by decide)
set_option maxHeartbeats 2000000 in
theorem sp_X12_rows_r (m : Nat) : ∀ {d : Nat} {Q : Qt} {v1 : Int32} {v2 : Int32} {v3 : Int32} {v4 : Int32} {v5 : Int64} {v7 : Int32} {I : Im} {J : Jm} {R : Rm} (hB0 : Bd I) (hR0 : RI R) (hv1 : 0 ≤ v1.toInt ∧ v1.toInt ≤ v2.toInt ∧ v2.toInt ≤ 5) (hv3 : 1 ≤ v3.toInt ∧ v3.toInt ≤ 31 ∧ v4.toInt ≤ 31) (hm0 : 6 - v1.toInt ≤ (m : Int)) (hQ : ∀ (x : Int32) (y : Int64) (I2 : Im) (J2 : Jm), Bd I2 → (True) → Q x y I2 J2 R), AM (d + m + 3) 271 112 [.ref 97, .int v1, .int v2, .int v3, .int v4, .long v5, .int v7] I J R Q := by
  induction m with
  | zero => intro d Q v1 v2 v3 v4 v5 v7 I J R hB0 hR0 hv1 hv3 hm0 hQ; exact absurd hm0 (by omega)
  | succ m ihm =>
  intro d Q v1 v2 v3 v4 v5 v7 I J R hB0 hR0 hv1 hv3 hm0 hQ
  have i_v1 := i32 v1
  have i_v2 := i32 v2
  have i_v3 := i32 v3
  have i_v4 := i32 v4
  have i_v5 := i64 v5
  have i_v7 := i32 v7
  refine am_X12_rows (fun P hc => ?_)
  have L : ∀ n : Nat, (∀ (v8 : Int32) (M : Im) (JM : Jm), Bd M → (0 ≤ v2.toInt ∧ v2.toInt ≤ 5 ∧ 0 ≤ v8.toInt ∧ v8.toInt ≤ 5) → 500 - v8.toInt < (n : Int) → P 23 112 [(0, .ref 97), (2, .int v2), (8, .int v8)] [] M JM R) ∧ (∀ (M : Im) (JM : Jm), Bd M → (0 ≤ v2.toInt ∧ v2.toInt ≤ 5) → 400 < (n : Int) → P 49 112 [(0, .ref 97), (2, .int v2)] [] M JM R) ∧ (∀ (v8 : Int32) (M : Im) (JM : Jm), Bd M → (0 ≤ v2.toInt ∧ v2.toInt ≤ 5 ∧ 0 ≤ v8.toInt ∧ v8.toInt ≤ 5) → 100 - v8.toInt < (n : Int) → P 62 112 [(0, .ref 97), (2, .int v2), (8, .int v8)] [] M JM R) ∧ (∀ (v8 : Int32) (M : Im) (JM : Jm), Bd M → (0 ≤ v1.toInt ∧ v1.toInt < v2.toInt ∧ v2.toInt ≤ 5 ∧ v4.toInt ≤ 31 ∧ 1 ≤ v8.toInt ∧ v8.toInt ≤ 31) → 50 - v8.toInt < (n : Int) → P 94 112 [(0, .ref 97), (1, .int v1), (2, .int v2), (4, .int v4), (5, .long v5), (7, .int v7), (8, .int v8)] [] M JM R) := by
    intro n
    induction n with
    | zero =>
      exact ⟨fun v8 M J _ hi hm => absurd hm (by omega), fun  M J _ hi hm => absurd hm (by omega), fun v8 M J _ hi hm => absurd hm (by omega), fun v8 M J _ hi hm => absurd hm (by omega)⟩
    | succ n ih =>
      refine ⟨?_, ?_, ?_, ?_⟩
      · skip
        intro v8 M JM hB hi hm
        have i_v2 := i32 v2
        have i_v8 := i32 v8
        refine sg_X12_rows_23 hc _ _ _ _ _ ?_
        refine ⟨fun c1 => ?_, fun c1 => ?_⟩
        · skip
          have d2 : ((v2.toInt) : Int) ≤ (v8.toInt) := ci_le rfl rfl c1
          exact ih.2.1 _ _ hB (by omega) (by omega)
        · skip
          have d3 : ((v8.toInt) : Int) < (v2.toInt) := ci_nle rfl rfl c1
          refine ⟨vp_of (a := v8.toInt) rfl (by omega) (by omega), ?_⟩
          refine ⟨vp_of (a := v8.toInt) rfl (by omega) (by omega), ?_⟩
          have hB4 : Bd (uI M 106 (Int32.toNatClampNeg v8) (M 105 (Int32.toNatClampNeg v8))) := Bd.a0 hB (show isA 112 106 0 = true from rfl) (show bna 106 = none from rfl)
          have e5 : ((v8 + 1) : Int32).toInt = (v8.toInt) + (1) := ti_add rfl rfl (by omega)
          exact ih.1 _ _ _ hB4 (by have q0 : ((v8 + 1) : Int32).toInt = (v8.toInt + 1) := e5; omega) (by have q0 : ((v8 + 1) : Int32).toInt = (v8.toInt + 1) := e5; omega)
      · skip
        intro  M JM hB hi hm
        have i_v2 := i32 v2
        refine sg_X12_rows_49 hc _ _ _ _ ?_
        have hB6 : Bd (uI M 97 31 ((M 97 31) + 1)) := Bd.o0 hB io9_112_97_12 (by decide) bd9_12_31
        exact ih.2.2.1 _ _ _ hB6 (by have q0 : (0 : Int32).toInt = 0 := rfl; omega) (by have q0 : (0 : Int32).toInt = 0 := rfl; omega)
      · skip
        intro v8 M JM hB hi hm
        have i_v2 := i32 v2
        have i_v8 := i32 v8
        refine sg_X12_rows_62 hc _ _ _ _ _ ?_
        refine ⟨fun c7 => ?_, fun c7 => ?_⟩
        · skip
          have d8 : ((v2.toInt) : Int) ≤ (v8.toInt) := ci_le rfl rfl c7
          exact hQ _ _ _ _ hB trivial
        · skip
          have d9 : ((v8.toInt) : Int) < (v2.toInt) := ci_nle rfl rfl c7
          refine ⟨vp_of (a := v8.toInt) rfl (by omega) (by omega), ?_⟩
          have b10 := Bd.a hB (Int32.toNatClampNeg v8) (show bna 105 = some _ from rfl)
          refine ⟨vp_of (a := (M 105 (Int32.toNatClampNeg v8)).toInt) rfl (by omega) (by omega), ?_⟩
          refine ⟨vp_of (a := (M 105 (Int32.toNatClampNeg v8)).toInt) rfl (by omega) (by omega), ?_⟩
          have hB11 : Bd (uI M 107 (Int32.toNatClampNeg (M 105 (Int32.toNatClampNeg v8))) ((M 107 (Int32.toNatClampNeg (M 105 (Int32.toNatClampNeg v8)))) + 1)) := Bd.a0 hB (show isA 112 107 0 = true from rfl) (show bna 107 = none from rfl)
          have e12 : ((v8 + 1) : Int32).toInt = (v8.toInt) + (1) := ti_add rfl rfl (by omega)
          exact ih.2.2.1 _ _ _ hB11 (by have q0 : ((v8 + 1) : Int32).toInt = (v8.toInt + 1) := e12; omega) (by have q0 : ((v8 + 1) : Int32).toInt = (v8.toInt + 1) := e12; omega)
      · skip
        intro v8 M JM hB hi hm
        have i_v1 := i32 v1
        have i_v2 := i32 v2
        have i_v4 := i32 v4
        have i_v5 := i64 v5
        have i_v7 := i32 v7
        have i_v8 := i32 v8
        refine sg_X12_rows_94 hc _ _ _ _ _ _ _ _ _ ?_
        refine ⟨fun c13 => ?_, fun c13 => ?_⟩
        · skip
          have d14 : ((v4.toInt) : Int) ≤ (v8.toInt) := ci_le rfl rfl c13
          exact hQ _ _ _ _ hB trivial
        · skip
          have d15 : ((v8.toInt) : Int) < (v4.toInt) := ci_nle rfl rfl c13
          refine w_X12_partsOf ?_
          refine ⟨(fun z => by have z2 : (v8.toInt : Int) = 0 := cl_eq (tl_i2l rfl) rfl z; omega), ?_⟩
          refine ⟨fun c16 => ?_, fun c16 => ?_⟩
          · skip
            rw [lg_cmp_lt] at c16
            have d17 : (((((2329089562800 / (Int32.toInt64 v8)) * (Int32.toInt64 (v2 - v1))) : Int64).toInt) : Int) < ((v5 : Int64).toInt) := cl_lt rfl rfl c16
            exact hQ _ _ _ _ hB trivial
          · skip
            rw [lg_cmp_lt] at c16
            have d18 : (((v5 : Int64).toInt) : Int) ≤ ((((2329089562800 / (Int32.toInt64 v8)) * (Int32.toInt64 (v2 - v1))) : Int64).toInt) := cl_nlt rfl rfl c16
            refine w_X12_isOf ?_
            refine ⟨fun c19 => ?_, fun c19 => ?_⟩
            · skip
              have d20 : ¬ (((((v7 >>> ((v8 - 1) &&& 31)) &&& 1) : Int32).toInt) : Int) = (1) := ci_ne rfl rfl c19
              refine ⟨Or.inl rfl, ?_⟩
              intro o21
              refine ⟨fun c22 => ?_, fun c22 => ?_⟩
              · skip
                have e23 : ((v8 + 1) : Int32).toInt = (v8.toInt) + (1) := ti_add rfl rfl (by omega)
                exact ih.2.2.2 _ _ _ hB (by have q0 : ((v8 + 1) : Int32).toInt = (v8.toInt + 1) := e23; omega) (by have q0 : ((v8 + 1) : Int32).toInt = (v8.toInt + 1) := e23; omega)
              · exact absurd c22 (by decide)
            · skip
              have d24 : (((((v7 >>> ((v8 - 1) &&& 31)) &&& 1) : Int32).toInt) : Int) = (1) := ci_eq rfl rfl c19
              refine ⟨Or.inr rfl, ?_⟩
              intro o25
              refine ⟨fun c26 => ?_, fun c26 => ?_⟩
              · exact absurd c26 (by decide)
              · skip
                refine w_X12_partsOf ?_
                refine ⟨(fun z => by have z2 : (v8.toInt : Int) = 0 := cl_eq (tl_i2l rfl) rfl z; omega), ?_⟩
                refine ⟨fun c27 => ?_, fun c27 => ?_⟩
                · skip
                  rw [lg_cmp_le] at c27
                  have d28 : ((((2329089562800 / (Int32.toInt64 v8)) : Int64).toInt) : Int) ≤ ((v5 : Int64).toInt) := cl_le rfl rfl c27
                  refine ⟨vp_of (a := v1.toInt) rfl (by omega) (by omega), ?_⟩
                  have hB29 : Bd (uI M 105 (Int32.toNatClampNeg v1) v8) := Bd.a1 hB (show isA 112 105 0 = true from rfl) (show bna 105 = some _ from rfl) (show (v8 : Int32).toInt = v8.toInt from rfl) (by omega)
                  refine w_X12_partsOf ?_
                  refine ⟨(fun z => by have z2 : (v8.toInt : Int) = 0 := cl_eq (tl_i2l rfl) rfl z; omega), ?_⟩
                  have e30 : ((v1 + 1) : Int32).toInt = (v1.toInt) + (1) := ti_add rfl rfl (by omega)
                  have e31 : ((v8 + 1) : Int32).toInt = (v8.toInt) + (1) := ti_add rfl rfl (by omega)
                  refine ihm (d := d) hB29 hR0 (by have z1 : ((v1 + 1) : Int32).toInt = (v1.toInt + 1) := e30; have z2 : (v2 : Int32).toInt = v2.toInt := rfl; omega) (by have z3 : ((v8 + 1) : Int32).toInt = (v8.toInt + 1) := e31; have z4 : (v4 : Int32).toInt = v4.toInt := rfl; omega) (by have z : ((v1 + 1) : Int32).toInt = (v1.toInt + 1) := e30; omega) (fun x32 y37 I33 J34 hB35 p36 => ?_)
                  exact ih.2.2.2 _ _ _ hB35 (by have q0 : ((v8 + 1) : Int32).toInt = (v8.toInt + 1) := e31; omega) (by have q0 : ((v8 + 1) : Int32).toInt = (v8.toInt + 1) := e31; omega)
                · skip
                  rw [lg_cmp_le] at c27
                  have d38 : (((v5 : Int64).toInt) : Int) < (((2329089562800 / (Int32.toInt64 v8)) : Int64).toInt) := cl_nle rfl rfl c27
                  have e39 : ((v8 + 1) : Int32).toInt = (v8.toInt) + (1) := ti_add rfl rfl (by omega)
                  exact ih.2.2.2 _ _ _ hB (by have q0 : ((v8 + 1) : Int32).toInt = (v8.toInt + 1) := e39; omega) (by have q0 : ((v8 + 1) : Int32).toInt = (v8.toInt + 1) := e39; omega)
  refine sg_X12_rows_0 hc _ _ _ _ _ _ _ _ _ ?_
  refine ⟨fun c40 => ?_, fun c40 => ?_⟩
  · skip
    have d41 : ¬ ((v1.toInt) : Int) = (v2.toInt) := ci_ne rfl rfl c40
    exact (L 1000000).2.2.2 _ _ _ hB0 (by have q0 : (v3 : Int32).toInt = v3.toInt := rfl; omega) (by have q0 : (v3 : Int32).toInt = v3.toInt := rfl; omega)
  · skip
    have d42 : ((v1.toInt) : Int) = (v2.toInt) := ci_eq rfl rfl c40
    refine ⟨fun c43 => ?_, fun c43 => ?_⟩
    · skip
      rw [lg_cmp_eq] at c43
      have d44 : (((v5 : Int64).toInt) : Int) = (0) := cl_eq rfl rfl c43
      refine ⟨fun c45 => ?_, fun c45 => ?_⟩
      · skip
        have d46 : ¬ (((I 97 31).toInt) : Int) = (0) := ci_ne rfl rfl c45
        exact (L 1000000).2.1 _ _ hB0 (by omega) (by omega)
      · skip
        have d47 : (((I 97 31).toInt) : Int) = (0) := ci_eq rfl rfl c45
        exact (L 1000000).1 _ _ _ hB0 (by have q0 : (0 : Int32).toInt = 0 := rfl; omega) (by have q0 : (0 : Int32).toInt = 0 := rfl; omega)
    · skip
      rw [lg_cmp_eq] at c43
      have d48 : ¬ (((v5 : Int64).toInt) : Int) = (0) := cl_ne rfl rfl c43
      exact hQ _ _ _ _ hB0 trivial
theorem sp_X12_rows {d : Nat} {Q : Qt} {v1 : Int32} {v2 : Int32} {v3 : Int32} {v4 : Int32} {v5 : Int64} {v7 : Int32} {I : Im} {J : Jm} {R : Rm} (hB0 : Bd I) (hR0 : RI R) (hv1 : 0 ≤ v1.toInt ∧ v1.toInt ≤ v2.toInt ∧ v2.toInt ≤ 5) (hv3 : 1 ≤ v3.toInt ∧ v3.toInt ≤ 31 ∧ v4.toInt ≤ 31) (hQ : ∀ (x : Int32) (y : Int64) (I2 : Im) (J2 : Jm), Bd I2 → (True) → Q x y I2 J2 R) : AM (d + 9) 271 112 [.ref 97, .int v1, .int v2, .int v3, .int v4, .long v5, .int v7] I J R Q := sp_X12_rows_r 6 (d := d) hB0 hR0 hv1 hv3 (by omega) hQ
set_option maxHeartbeats 2000000 in
theorem sp_X12_laysRows {d : Nat} {Q : Qt} {v1 : Int32} {v2 : Int32} {v3 : Int64} {v5 : Int32} {I : Im} {J : Jm} {R : Rm} (hB0 : Bd I) (hR0 : RI R) (hv1 : 0 ≤ v1.toInt ∧ v1.toInt ≤ 5) (hv2 : v2.toInt ≤ 31) (hQ : ∀ (x : Int32) (y : Int64) (I2 : Im) (J2 : Jm), Bd I2 → ((x.toInt = 0 ∨ 0 < (I2 97 31).toInt)) → Q x y I2 J2 R) : AM (d + 10) 272 112 [.ref 97, .int v1, .int v2, .long v3, .int v5] I J R Q := by
  have i_v1 := i32 v1
  have i_v2 := i32 v2
  have i_v3 := i64 v3
  have i_v5 := i32 v5
  refine am_X12_laysRows (fun P hc => ?_)
  have L : ∀ n : Nat, (∀ (v6 : Int32) (M : Im) (JM : Jm), Bd M → (0 ≤ v6.toInt ∧ v6.toInt ≤ 31) → 40 - v6.toInt < (n : Int) → P 8 112 [(0, .ref 97), (1, .int v1), (2, .int v2), (3, .long v3), (5, .int v5), (6, .int v6)] [] M JM R) := by
    intro n
    induction n with
    | zero =>
      exact fun v6 M J _ hi hm => absurd hm (by omega)
    | succ n ih =>
      intro v6 M JM hB hi hm
      have i_v1 := i32 v1
      have i_v2 := i32 v2
      have i_v3 := i64 v3
      have i_v5 := i32 v5
      have i_v6 := i32 v6
      refine sg_X12_laysRows_8 hc _ _ _ _ _ _ _ _ ?_
      refine ⟨fun c1 => ?_, fun c1 => ?_⟩
      · skip
        have d2 : ((30) : Int) < (v6.toInt) := ci_lt rfl rfl c1
        refine sp_X12_rows hB hR0 (by have z1 : (0 : Int32).toInt = 0 := rfl; have z2 : (v1 : Int32).toInt = v1.toInt := rfl; omega) (by have z3 : (1 : Int32).toInt = 1 := rfl; have z4 : (v2 : Int32).toInt = v2.toInt := rfl; omega) (fun x3 y8 I4 J5 hB6 p7 => ?_)
        refine ⟨fun c9 => ?_, fun c9 => ?_⟩
        · skip
          have d10 : (((I4 97 31).toInt) : Int) ≤ (0) := ci_le rfl rfl c9
          refine ⟨Or.inl rfl, ?_⟩
          exact hQ _ _ _ _ hB6 (by have q1 : ((I4 97 31) : Int32).toInt = (I4 97 31).toInt := rfl; have q0 : (0 : Int32).toInt = 0 := rfl; omega)
        · skip
          have d11 : ((0) : Int) < ((I4 97 31).toInt) := ci_nle rfl rfl c9
          refine ⟨Or.inr rfl, ?_⟩
          exact hQ _ _ _ _ hB6 (by have q1 : ((I4 97 31) : Int32).toInt = (I4 97 31).toInt := rfl; have q0 : (1 : Int32).toInt = 1 := rfl; omega)
      · skip
        have d12 : ((v6.toInt) : Int) ≤ (30) := ci_nlt rfl rfl c1
        refine ⟨vp_of (a := v6.toInt) rfl (by omega) (by omega), ?_⟩
        have hB13 : Bd (uI M 107 (Int32.toNatClampNeg v6) 0) := Bd.a0 hB (show isA 112 107 0 = true from rfl) (show bna 107 = none from rfl)
        have e14 : ((v6 + 1) : Int32).toInt = (v6.toInt) + (1) := ti_add rfl rfl (by omega)
        exact ih _ _ _ hB13 (by have q0 : ((v6 + 1) : Int32).toInt = (v6.toInt + 1) := e14; omega) (by have q0 : ((v6 + 1) : Int32).toInt = (v6.toInt + 1) := e14; omega)
  refine sg_X12_laysRows_0 hc _ _ _ _ _ _ _ ?_
  have hB15 : Bd (uI I 97 31 0) := Bd.o0 hB0 io9_112_97_12 (by decide) bd9_12_31
  exact (L 1000000) _ _ _ hB15 (by have q0 : (0 : Int32).toInt = 0 := rfl; omega) (by have q0 : (0 : Int32).toInt = 0 := rfl; omega)
set_option maxHeartbeats 2000000 in
theorem sp_X12_fewestOf {d : Nat} {Q : Qt} {v1 : Int64} {v3 : Int32} {v4 : Int32} {I : Im} {J : Jm} {R : Rm} (hB0 : Bd I) (hR0 : RI R) (hv4 : 0 ≤ v4.toInt ∧ v4.toInt ≤ 1) (hQ : ∀ (x : Int32) (y : Int64) (I2 : Im) (J2 : Jm), Bd I2 → ((-1 ≤ x.toInt ∧ x.toInt ≤ 5)) → Q x y I2 J2 R) : AM (d + 11) 273 112 [.ref 97, .long v1, .int v3, .int v4] I J R Q := by
  have i_v1 := i64 v1
  have i_v3 := i32 v3
  have i_v4 := i32 v4
  refine am_X12_fewestOf (fun P hc => ?_)
  have L : ∀ n : Nat, (∀ (v5 : Int32) (M : Im) (JM : Jm), Bd M → (0 ≤ v5.toInt ∧ v5.toInt ≤ 6) → 10 - v5.toInt < (n : Int) → P 4 112 [(0, .ref 97), (1, .long v1), (3, .int v3), (5, .int v5)] [] M JM R) := by
    intro n
    induction n with
    | zero =>
      exact fun v5 M J _ hi hm => absurd hm (by omega)
    | succ n ih =>
      intro v5 M JM hB hi hm
      have i_v1 := i64 v1
      have i_v3 := i32 v3
      have i_v5 := i32 v5
      refine sg_X12_fewestOf_4 hc _ _ _ _ _ _ ?_
      refine ⟨fun c1 => ?_, fun c1 => ?_⟩
      · skip
        have d2 : ((5) : Int) < (v5.toInt) := ci_lt rfl rfl c1
        exact hQ _ _ _ _ hB (by have q0 : ((-1) : Int32).toInt = (-1) := rfl; omega)
      · skip
        have d3 : ((v5.toInt) : Int) ≤ (5) := ci_nlt rfl rfl c1
        refine sp_X12_laysRows hB hR0 (by have z1 : (v5 : Int32).toInt = v5.toInt := rfl; omega) (by have z2 : (31 : Int32).toInt = 31 := rfl; omega) (fun x4 y9 I5 J6 hB7 p8 => ?_)
        intro o10
        have q11 : (31 : Int32).toInt = 31 := rfl
        have i12 := i32 x4
        refine ⟨fun c13 => ?_, fun c13 => ?_⟩
        · skip
          have d14 : ((x4.toInt) : Int) = (0) := ci_eq rfl rfl c13
          have e15 : ((v5 + 1) : Int32).toInt = (v5.toInt) + (1) := ti_add rfl rfl (by omega)
          exact ih _ _ _ hB7 (by have q0 : ((v5 + 1) : Int32).toInt = (v5.toInt + 1) := e15; omega) (by have q0 : ((v5 + 1) : Int32).toInt = (v5.toInt + 1) := e15; omega)
        · skip
          have d16 : ¬ ((x4.toInt) : Int) = (0) := ci_ne rfl rfl c13
          exact hQ _ _ _ _ hB7 (by have q0 : (v5 : Int32).toInt = v5.toInt := rfl; omega)
  refine sg_X12_fewestOf_0 hc _ _ _ _ _ _ ?_
  exact (L 1000000) _ _ _ hB0 (by have q0 : (v4 : Int32).toInt = v4.toInt := rfl; omega) (by have q0 : (v4 : Int32).toInt = v4.toInt := rfl; omega)
set_option maxHeartbeats 2000000 in
theorem sp_X12_ways {d : Nat} {Q : Qt} {v1 : Int32} {v2 : Int32} {v3 : Int32} {I : Im} {J : Jm} {R : Rm} (hB0 : Bd I) (hR0 : RI R) (hQ : ∀ (x : Int32) (y : Int64) (I2 : Im) (J2 : Jm), Bd I2 → (Fr pT I I2) → Q x y I2 J2 R) : AM (d + 11) 277 112 [.ref 97, .int v1, .int v2, .int v3] I J R Q := by
  have i_v1 := i32 v1
  have i_v2 := i32 v2
  have i_v3 := i32 v3
  refine w_X12_ways ?_
  have hB1 : Bd (uI I 97 1 0) := Bd.o0 hB0 io9_112_97_12 (by decide) bd9_12_1
  have f2 : Fr pT I (uI I 97 1 0) := Fr.o (Fr.refl _ _) (by decide) (by decide)
  have hB3 : Bd (uI (uI I 97 1 0) 97 0 0) := Bd.o0 hB1 io9_112_97_12 (by decide) bd9_12_0
  have f4 : Fr pT I (uI (uI I 97 1 0) 97 0 0) := Fr.o f2 (by decide) (by decide)
  refine w_X12_isShare ?_
  refine w_X12_isIn ?_
  refine ⟨fun c5 => ?_, fun c5 => ?_⟩
  · skip
    rw [lg_cmp_lt] at c5
    have d6 : ((v1.toInt) : Int) < (1) := cl_lt (tl_i2l rfl) rfl c5
    refine ⟨Or.inl rfl, ?_⟩
    intro o7
    refine ⟨fun c8 => ?_, fun c8 => ?_⟩
    · skip
      refine ⟨Or.inl rfl, ?_⟩
      intro o9
      refine ⟨fun c10 => ?_, fun c10 => ?_⟩
      · skip
        refine w_X12_refuse ?_
        have hB11 : Bd (uI (uI (uI I 97 1 0) 97 0 0) 97 0 5) := Bd.o0 hB3 io9_112_97_12 (by decide) bd9_12_0
        have f12 : Fr pT I (uI (uI (uI I 97 1 0) 97 0 0) 97 0 5) := Fr.o f4 (by decide) (by decide)
        exact hQ _ _ _ _ hB11 f12
      · exact absurd c10 (by decide)
    · exact absurd c8 (by decide)
  · skip
    rw [lg_cmp_lt] at c5
    have d13 : ((1) : Int) ≤ (v1.toInt) := cl_nlt (tl_i2l rfl) rfl c5
    refine ⟨fun c14 => ?_, fun c14 => ?_⟩
    · skip
      rw [lg_cmp_gt] at c14
      have d15 : ((99) : Int) < (v1.toInt) := cl_lt rfl (tl_i2l rfl) c14
      refine ⟨Or.inl rfl, ?_⟩
      intro o16
      refine ⟨fun c17 => ?_, fun c17 => ?_⟩
      · skip
        refine ⟨Or.inl rfl, ?_⟩
        intro o18
        refine ⟨fun c19 => ?_, fun c19 => ?_⟩
        · skip
          refine w_X12_refuse ?_
          have hB20 : Bd (uI (uI (uI I 97 1 0) 97 0 0) 97 0 5) := Bd.o0 hB3 io9_112_97_12 (by decide) bd9_12_0
          have f21 : Fr pT I (uI (uI (uI I 97 1 0) 97 0 0) 97 0 5) := Fr.o f4 (by decide) (by decide)
          exact hQ _ _ _ _ hB20 f21
        · exact absurd c19 (by decide)
      · exact absurd c17 (by decide)
    · skip
      rw [lg_cmp_gt] at c14
      have d22 : ((v1.toInt) : Int) ≤ (99) := cl_nlt rfl (tl_i2l rfl) c14
      refine ⟨Or.inr rfl, ?_⟩
      intro o23
      refine ⟨fun c24 => ?_, fun c24 => ?_⟩
      · exact absurd c24 (by decide)
      · skip
        refine w_X12_isIn ?_
        refine ⟨fun c25 => ?_, fun c25 => ?_⟩
        · skip
          rw [lg_cmp_lt] at c25
          have d26 : ((v2.toInt) : Int) < (1) := cl_lt (tl_i2l rfl) rfl c25
          refine ⟨Or.inl rfl, ?_⟩
          intro o27
          refine ⟨fun c28 => ?_, fun c28 => ?_⟩
          · skip
            refine ⟨Or.inl rfl, ?_⟩
            intro o29
            refine ⟨fun c30 => ?_, fun c30 => ?_⟩
            · skip
              refine w_X12_refuse ?_
              have hB31 : Bd (uI (uI (uI I 97 1 0) 97 0 0) 97 0 5) := Bd.o0 hB3 io9_112_97_12 (by decide) bd9_12_0
              have f32 : Fr pT I (uI (uI (uI I 97 1 0) 97 0 0) 97 0 5) := Fr.o f4 (by decide) (by decide)
              exact hQ _ _ _ _ hB31 f32
            · exact absurd c30 (by decide)
          · exact absurd c28 (by decide)
        · skip
          rw [lg_cmp_lt] at c25
          have d33 : ((1) : Int) ≤ (v2.toInt) := cl_nlt (tl_i2l rfl) rfl c25
          refine ⟨fun c34 => ?_, fun c34 => ?_⟩
          · skip
            rw [lg_cmp_gt] at c34
            have d35 : ((30) : Int) < (v2.toInt) := cl_lt rfl (tl_i2l rfl) c34
            refine ⟨Or.inl rfl, ?_⟩
            intro o36
            refine ⟨fun c37 => ?_, fun c37 => ?_⟩
            · skip
              refine ⟨Or.inl rfl, ?_⟩
              intro o38
              refine ⟨fun c39 => ?_, fun c39 => ?_⟩
              · skip
                refine w_X12_refuse ?_
                have hB40 : Bd (uI (uI (uI I 97 1 0) 97 0 0) 97 0 5) := Bd.o0 hB3 io9_112_97_12 (by decide) bd9_12_0
                have f41 : Fr pT I (uI (uI (uI I 97 1 0) 97 0 0) 97 0 5) := Fr.o f4 (by decide) (by decide)
                exact hQ _ _ _ _ hB40 f41
              · exact absurd c39 (by decide)
            · exact absurd c37 (by decide)
          · skip
            rw [lg_cmp_gt] at c34
            have d42 : ((v2.toInt) : Int) ≤ (30) := cl_nlt rfl (tl_i2l rfl) c34
            refine ⟨Or.inr rfl, ?_⟩
            intro o43
            refine ⟨fun c44 => ?_, fun c44 => ?_⟩
            · exact absurd c44 (by decide)
            · skip
              refine ⟨Or.inr rfl, ?_⟩
              intro o45
              refine ⟨fun c46 => ?_, fun c46 => ?_⟩
              · exact absurd c46 (by decide)
              · skip
                refine w_X12_isIn ?_
                refine ⟨fun c47 => ?_, fun c47 => ?_⟩
                · skip
                  rw [lg_cmp_lt] at c47
                  have d48 : ((v3.toInt) : Int) < (1) := cl_lt (tl_i2l rfl) rfl c47
                  refine ⟨Or.inl rfl, ?_⟩
                  intro o49
                  refine ⟨fun c50 => ?_, fun c50 => ?_⟩
                  · exact absurd c50 (by decide)
                  · skip
                    refine w_X12_refuse ?_
                    have hB51 : Bd (uI (uI (uI I 97 1 0) 97 0 0) 97 0 5) := Bd.o0 hB3 io9_112_97_12 (by decide) bd9_12_0
                    have f52 : Fr pT I (uI (uI (uI I 97 1 0) 97 0 0) 97 0 5) := Fr.o f4 (by decide) (by decide)
                    exact hQ _ _ _ _ hB51 f52
                · skip
                  rw [lg_cmp_lt] at c47
                  have d53 : ((1) : Int) ≤ (v3.toInt) := cl_nlt (tl_i2l rfl) rfl c47
                  refine ⟨fun c54 => ?_, fun c54 => ?_⟩
                  · skip
                    rw [lg_cmp_gt] at c54
                    have d55 : ((5) : Int) < (v3.toInt) := cl_lt rfl (tl_i2l rfl) c54
                    refine ⟨Or.inl rfl, ?_⟩
                    intro o56
                    refine ⟨fun c57 => ?_, fun c57 => ?_⟩
                    · exact absurd c57 (by decide)
                    · skip
                      refine w_X12_refuse ?_
                      have hB58 : Bd (uI (uI (uI I 97 1 0) 97 0 0) 97 0 5) := Bd.o0 hB3 io9_112_97_12 (by decide) bd9_12_0
                      have f59 : Fr pT I (uI (uI (uI I 97 1 0) 97 0 0) 97 0 5) := Fr.o f4 (by decide) (by decide)
                      exact hQ _ _ _ _ hB58 f59
                  · skip
                    rw [lg_cmp_gt] at c54
                    have d60 : ((v3.toInt) : Int) ≤ (5) := cl_nlt rfl (tl_i2l rfl) c54
                    refine ⟨Or.inr rfl, ?_⟩
                    intro o61
                    refine ⟨fun c62 => ?_, fun c62 => ?_⟩
                    · skip
                      refine w_X12_shareOf ?_
                      refine ⟨(fun z => by have z2 : (v2.toInt : Int) = 0 := cl_eq (tl_i2l rfl) rfl z; omega), ?_⟩
                      refine ⟨vp_of (a := 3) rfl (by first | (clear d13 d22 d33 d42 d53 d60; omega) | omega) (by first | (clear d13 d22 d33 d42 d53 d60; omega) | omega), ?_⟩
                      refine kp102 rfl hR0 rfl (sp_X12_laysRows hB3 hR0 (by have z1 : (v3 : Int32).toInt = v3.toInt := rfl; omega) (by have z2 : (31 : Int32).toInt = 31 := rfl; omega) (fun x63 y68 I64 J65 hB66 p67 w69 => ?_))
                      intro o70
                      have f71 : Fr pT (uI (uI I 97 1 0) 97 0 0) I64 := ⟨fun j _ => congrFun w69.1 j, w69.2⟩
                      have f72 : Fr pT I I64 := Fr.tr f4 f71 (fun _ _ => trivial)
                      have q73 : (31 : Int32).toInt = 31 := rfl
                      have i74 := i32 x63
                      exact hQ _ _ _ _ hB66 f72
                    · exact absurd c62 (by decide)
set_option maxHeartbeats 2000000 in
theorem sp_X12_fewest {d : Nat} {Q : Qt} {v1 : Int32} {v2 : Int32} {I : Im} {J : Jm} {R : Rm} (hB0 : Bd I) (hR0 : RI R) (hQ : ∀ (x : Int32) (y : Int64) (I2 : Im) (J2 : Jm), Bd I2 → (Fr pT I I2) → Q x y I2 J2 R) : AM (d + 12) 275 112 [.ref 97, .int v1, .int v2] I J R Q := by
  have i_v1 := i32 v1
  have i_v2 := i32 v2
  refine w_X12_fewest ?_
  have hB1 : Bd (uI I 97 1 0) := Bd.o0 hB0 io9_112_97_12 (by decide) bd9_12_1
  have f2 : Fr pT I (uI I 97 1 0) := Fr.o (Fr.refl _ _) (by decide) (by decide)
  have hB3 : Bd (uI (uI I 97 1 0) 97 0 0) := Bd.o0 hB1 io9_112_97_12 (by decide) bd9_12_0
  have f4 : Fr pT I (uI (uI I 97 1 0) 97 0 0) := Fr.o f2 (by decide) (by decide)
  refine w_X12_isShare ?_
  refine w_X12_isIn ?_
  refine ⟨fun c5 => ?_, fun c5 => ?_⟩
  · skip
    rw [lg_cmp_lt] at c5
    have d6 : ((v1.toInt) : Int) < (1) := cl_lt (tl_i2l rfl) rfl c5
    refine ⟨Or.inl rfl, ?_⟩
    intro o7
    refine ⟨fun c8 => ?_, fun c8 => ?_⟩
    · skip
      refine ⟨Or.inl rfl, ?_⟩
      intro o9
      refine ⟨fun c10 => ?_, fun c10 => ?_⟩
      · skip
        refine w_X12_refuse ?_
        have hB11 : Bd (uI (uI (uI I 97 1 0) 97 0 0) 97 0 5) := Bd.o0 hB3 io9_112_97_12 (by decide) bd9_12_0
        have f12 : Fr pT I (uI (uI (uI I 97 1 0) 97 0 0) 97 0 5) := Fr.o f4 (by decide) (by decide)
        exact hQ _ _ _ _ hB11 f12
      · exact absurd c10 (by decide)
    · exact absurd c8 (by decide)
  · skip
    rw [lg_cmp_lt] at c5
    have d13 : ((1) : Int) ≤ (v1.toInt) := cl_nlt (tl_i2l rfl) rfl c5
    refine ⟨fun c14 => ?_, fun c14 => ?_⟩
    · skip
      rw [lg_cmp_gt] at c14
      have d15 : ((99) : Int) < (v1.toInt) := cl_lt rfl (tl_i2l rfl) c14
      refine ⟨Or.inl rfl, ?_⟩
      intro o16
      refine ⟨fun c17 => ?_, fun c17 => ?_⟩
      · skip
        refine ⟨Or.inl rfl, ?_⟩
        intro o18
        refine ⟨fun c19 => ?_, fun c19 => ?_⟩
        · skip
          refine w_X12_refuse ?_
          have hB20 : Bd (uI (uI (uI I 97 1 0) 97 0 0) 97 0 5) := Bd.o0 hB3 io9_112_97_12 (by decide) bd9_12_0
          have f21 : Fr pT I (uI (uI (uI I 97 1 0) 97 0 0) 97 0 5) := Fr.o f4 (by decide) (by decide)
          exact hQ _ _ _ _ hB20 f21
        · exact absurd c19 (by decide)
      · exact absurd c17 (by decide)
    · skip
      rw [lg_cmp_gt] at c14
      have d22 : ((v1.toInt) : Int) ≤ (99) := cl_nlt rfl (tl_i2l rfl) c14
      refine ⟨Or.inr rfl, ?_⟩
      intro o23
      refine ⟨fun c24 => ?_, fun c24 => ?_⟩
      · exact absurd c24 (by decide)
      · skip
        refine w_X12_isIn ?_
        refine ⟨fun c25 => ?_, fun c25 => ?_⟩
        · skip
          rw [lg_cmp_lt] at c25
          have d26 : ((v2.toInt) : Int) < (1) := cl_lt (tl_i2l rfl) rfl c25
          refine ⟨Or.inl rfl, ?_⟩
          intro o27
          refine ⟨fun c28 => ?_, fun c28 => ?_⟩
          · skip
            refine ⟨Or.inl rfl, ?_⟩
            intro o29
            refine ⟨fun c30 => ?_, fun c30 => ?_⟩
            · skip
              refine w_X12_refuse ?_
              have hB31 : Bd (uI (uI (uI I 97 1 0) 97 0 0) 97 0 5) := Bd.o0 hB3 io9_112_97_12 (by decide) bd9_12_0
              have f32 : Fr pT I (uI (uI (uI I 97 1 0) 97 0 0) 97 0 5) := Fr.o f4 (by decide) (by decide)
              exact hQ _ _ _ _ hB31 f32
            · exact absurd c30 (by decide)
          · exact absurd c28 (by decide)
        · skip
          rw [lg_cmp_lt] at c25
          have d33 : ((1) : Int) ≤ (v2.toInt) := cl_nlt (tl_i2l rfl) rfl c25
          refine ⟨fun c34 => ?_, fun c34 => ?_⟩
          · skip
            rw [lg_cmp_gt] at c34
            have d35 : ((30) : Int) < (v2.toInt) := cl_lt rfl (tl_i2l rfl) c34
            refine ⟨Or.inl rfl, ?_⟩
            intro o36
            refine ⟨fun c37 => ?_, fun c37 => ?_⟩
            · skip
              refine ⟨Or.inl rfl, ?_⟩
              intro o38
              refine ⟨fun c39 => ?_, fun c39 => ?_⟩
              · skip
                refine w_X12_refuse ?_
                have hB40 : Bd (uI (uI (uI I 97 1 0) 97 0 0) 97 0 5) := Bd.o0 hB3 io9_112_97_12 (by decide) bd9_12_0
                have f41 : Fr pT I (uI (uI (uI I 97 1 0) 97 0 0) 97 0 5) := Fr.o f4 (by decide) (by decide)
                exact hQ _ _ _ _ hB40 f41
              · exact absurd c39 (by decide)
            · exact absurd c37 (by decide)
          · skip
            rw [lg_cmp_gt] at c34
            have d42 : ((v2.toInt) : Int) ≤ (30) := cl_nlt rfl (tl_i2l rfl) c34
            refine ⟨Or.inr rfl, ?_⟩
            intro o43
            refine ⟨fun c44 => ?_, fun c44 => ?_⟩
            · exact absurd c44 (by decide)
            · skip
              refine ⟨Or.inr rfl, ?_⟩
              intro o45
              refine ⟨fun c46 => ?_, fun c46 => ?_⟩
              · exact absurd c46 (by decide)
              · skip
                refine w_X12_shareOf ?_
                refine ⟨(fun z => by have z2 : (v2.toInt : Int) = 0 := cl_eq (tl_i2l rfl) rfl z; omega), ?_⟩
                refine ⟨vp_of (a := 3) rfl (by first | (clear d13 d22 d33 d42; omega) | omega) (by first | (clear d13 d22 d33 d42; omega) | omega), ?_⟩
                refine kp102 rfl hR0 rfl (sp_X12_fewestOf hB3 hR0 (by have z3 : (1 : Int32).toInt = 1 := rfl; omega) (fun x47 y52 I48 J49 hB50 p51 w53 => ?_))
                have f54 : Fr pT (uI (uI I 97 1 0) 97 0 0) I48 := ⟨fun j _ => congrFun w53.1 j, w53.2⟩
                have f55 : Fr pT I I48 := Fr.tr f4 f54 (fun _ _ => trivial)
                have q56 : (1 : Int32).toInt = 1 := rfl
                have i57 := i32 x47
                refine w_X12_answer ?_
                refine ⟨fun c58 => ?_, fun c58 => ?_⟩
                · skip
                  have d59 : ((0) : Int) ≤ (x47.toInt) := ci_le rfl rfl c58
                  exact hQ _ _ _ _ hB50 f55
                · skip
                  have d60 : ((x47.toInt) : Int) < (0) := ci_nle rfl rfl c58
                  refine w_X12_refuse ?_
                  have hB61 : Bd (uI I48 97 0 8) := Bd.o0 hB50 io9_112_97_12 (by decide) bd9_12_0
                  have f62 : Fr pT I (uI I48 97 0 8) := Fr.o f55 (by decide) (by decide)
                  exact hQ _ _ _ _ hB61 f62
set_option maxHeartbeats 2000000 in
theorem sp_X12_fewestAt {d : Nat} {Q : Qt} {v1 : Int32} {v2 : Int32} {v3 : Int32} {I : Im} {J : Jm} {R : Rm} (hB0 : Bd I) (hR0 : RI R) (hQ : ∀ (x : Int32) (y : Int64) (I2 : Im) (J2 : Jm), Bd I2 → (Fr pT I I2) → Q x y I2 J2 R) : AM (d + 12) 276 112 [.ref 97, .int v1, .int v2, .int v3] I J R Q := by
  have i_v1 := i32 v1
  have i_v2 := i32 v2
  have i_v3 := i32 v3
  refine w_X12_fewestAt ?_
  have hB1 : Bd (uI I 97 1 0) := Bd.o0 hB0 io9_112_97_12 (by decide) bd9_12_1
  have f2 : Fr pT I (uI I 97 1 0) := Fr.o (Fr.refl _ _) (by decide) (by decide)
  have hB3 : Bd (uI (uI I 97 1 0) 97 0 0) := Bd.o0 hB1 io9_112_97_12 (by decide) bd9_12_0
  have f4 : Fr pT I (uI (uI I 97 1 0) 97 0 0) := Fr.o f2 (by decide) (by decide)
  refine w_X12_isShare ?_
  refine w_X12_isIn ?_
  refine ⟨fun c5 => ?_, fun c5 => ?_⟩
  · skip
    rw [lg_cmp_lt] at c5
    have d6 : ((v1.toInt) : Int) < (1) := cl_lt (tl_i2l rfl) rfl c5
    refine ⟨Or.inl rfl, ?_⟩
    intro o7
    refine ⟨fun c8 => ?_, fun c8 => ?_⟩
    · skip
      refine ⟨Or.inl rfl, ?_⟩
      intro o9
      refine ⟨fun c10 => ?_, fun c10 => ?_⟩
      · exact absurd c10 (by decide)
      · skip
        refine w_X12_refuse ?_
        have hB11 : Bd (uI (uI (uI I 97 1 0) 97 0 0) 97 0 5) := Bd.o0 hB3 io9_112_97_12 (by decide) bd9_12_0
        have f12 : Fr pT I (uI (uI (uI I 97 1 0) 97 0 0) 97 0 5) := Fr.o f4 (by decide) (by decide)
        exact hQ _ _ _ _ hB11 f12
    · exact absurd c8 (by decide)
  · skip
    rw [lg_cmp_lt] at c5
    have d13 : ((1) : Int) ≤ (v1.toInt) := cl_nlt (tl_i2l rfl) rfl c5
    refine ⟨fun c14 => ?_, fun c14 => ?_⟩
    · skip
      rw [lg_cmp_gt] at c14
      have d15 : ((99) : Int) < (v1.toInt) := cl_lt rfl (tl_i2l rfl) c14
      refine ⟨Or.inl rfl, ?_⟩
      intro o16
      refine ⟨fun c17 => ?_, fun c17 => ?_⟩
      · skip
        refine ⟨Or.inl rfl, ?_⟩
        intro o18
        refine ⟨fun c19 => ?_, fun c19 => ?_⟩
        · exact absurd c19 (by decide)
        · skip
          refine w_X12_refuse ?_
          have hB20 : Bd (uI (uI (uI I 97 1 0) 97 0 0) 97 0 5) := Bd.o0 hB3 io9_112_97_12 (by decide) bd9_12_0
          have f21 : Fr pT I (uI (uI (uI I 97 1 0) 97 0 0) 97 0 5) := Fr.o f4 (by decide) (by decide)
          exact hQ _ _ _ _ hB20 f21
      · exact absurd c17 (by decide)
    · skip
      rw [lg_cmp_gt] at c14
      have d22 : ((v1.toInt) : Int) ≤ (99) := cl_nlt rfl (tl_i2l rfl) c14
      refine ⟨Or.inr rfl, ?_⟩
      intro o23
      refine ⟨fun c24 => ?_, fun c24 => ?_⟩
      · exact absurd c24 (by decide)
      · skip
        refine w_X12_isIn ?_
        refine ⟨fun c25 => ?_, fun c25 => ?_⟩
        · skip
          rw [lg_cmp_lt] at c25
          have d26 : ((v2.toInt) : Int) < (1) := cl_lt (tl_i2l rfl) rfl c25
          refine ⟨Or.inl rfl, ?_⟩
          intro o27
          refine ⟨fun c28 => ?_, fun c28 => ?_⟩
          · skip
            refine ⟨Or.inl rfl, ?_⟩
            intro o29
            refine ⟨fun c30 => ?_, fun c30 => ?_⟩
            · exact absurd c30 (by decide)
            · skip
              refine w_X12_refuse ?_
              have hB31 : Bd (uI (uI (uI I 97 1 0) 97 0 0) 97 0 5) := Bd.o0 hB3 io9_112_97_12 (by decide) bd9_12_0
              have f32 : Fr pT I (uI (uI (uI I 97 1 0) 97 0 0) 97 0 5) := Fr.o f4 (by decide) (by decide)
              exact hQ _ _ _ _ hB31 f32
          · exact absurd c28 (by decide)
        · skip
          rw [lg_cmp_lt] at c25
          have d33 : ((1) : Int) ≤ (v2.toInt) := cl_nlt (tl_i2l rfl) rfl c25
          refine ⟨fun c34 => ?_, fun c34 => ?_⟩
          · skip
            rw [lg_cmp_gt] at c34
            have d35 : ((30) : Int) < (v2.toInt) := cl_lt rfl (tl_i2l rfl) c34
            refine ⟨Or.inl rfl, ?_⟩
            intro o36
            refine ⟨fun c37 => ?_, fun c37 => ?_⟩
            · skip
              refine ⟨Or.inl rfl, ?_⟩
              intro o38
              refine ⟨fun c39 => ?_, fun c39 => ?_⟩
              · exact absurd c39 (by decide)
              · skip
                refine w_X12_refuse ?_
                have hB40 : Bd (uI (uI (uI I 97 1 0) 97 0 0) 97 0 5) := Bd.o0 hB3 io9_112_97_12 (by decide) bd9_12_0
                have f41 : Fr pT I (uI (uI (uI I 97 1 0) 97 0 0) 97 0 5) := Fr.o f4 (by decide) (by decide)
                exact hQ _ _ _ _ hB40 f41
            · exact absurd c37 (by decide)
          · skip
            rw [lg_cmp_gt] at c34
            have d42 : ((v2.toInt) : Int) ≤ (30) := cl_nlt rfl (tl_i2l rfl) c34
            refine ⟨Or.inr rfl, ?_⟩
            intro o43
            refine ⟨fun c44 => ?_, fun c44 => ?_⟩
            · exact absurd c44 (by decide)
            · skip
              refine ⟨Or.inr rfl, ?_⟩
              intro o45
              refine ⟨fun c46 => ?_, fun c46 => ?_⟩
              · skip
                refine w_X12_shareOf ?_
                refine ⟨(fun z => by have z2 : (v2.toInt : Int) = 0 := cl_eq (tl_i2l rfl) rfl z; omega), ?_⟩
                refine ⟨vp_of (a := 3) rfl (by first | (clear d13 d22 d33 d42; omega) | omega) (by first | (clear d13 d22 d33 d42; omega) | omega), ?_⟩
                refine kp102 rfl hR0 rfl (sp_X12_fewestOf hB3 hR0 (by have z3 : (1 : Int32).toInt = 1 := rfl; omega) (fun x47 y52 I48 J49 hB50 p51 w53 => ?_))
                have f54 : Fr pT (uI (uI I 97 1 0) 97 0 0) I48 := ⟨fun j _ => congrFun w53.1 j, w53.2⟩
                have f55 : Fr pT I I48 := Fr.tr f4 f54 (fun _ _ => trivial)
                have q56 : (1 : Int32).toInt = 1 := rfl
                have i57 := i32 x47
                refine w_X12_isIn ?_
                refine ⟨fun c58 => ?_, fun c58 => ?_⟩
                · skip
                  rw [lg_cmp_lt] at c58
                  have d59 : ((v3.toInt) : Int) < (0) := cl_lt (tl_i2l rfl) rfl c58
                  refine ⟨Or.inl rfl, ?_⟩
                  intro o60
                  refine ⟨fun c61 => ?_, fun c61 => ?_⟩
                  · skip
                    refine w_X12_refuse ?_
                    have hB62 : Bd (uI I48 97 0 8) := Bd.o0 hB50 io9_112_97_12 (by decide) bd9_12_0
                    have f63 : Fr pT I (uI I48 97 0 8) := Fr.o f55 (by decide) (by decide)
                    exact hQ _ _ _ _ hB62 f63
                  · exact absurd c61 (by decide)
                · skip
                  rw [lg_cmp_lt] at c58
                  have d64 : ((0) : Int) ≤ (v3.toInt) := cl_nlt (tl_i2l rfl) rfl c58
                  refine ⟨fun c65 => ?_, fun c65 => ?_⟩
                  · skip
                    rw [lg_cmp_gt] at c65
                    have e66 : ((x47 - 1) : Int32).toInt = (x47.toInt) - (1) := ti_sub rfl rfl (by first | (clear d13 d22 d33 d42 d64; omega) | omega)
                    have i67 := i32 ((x47 - 1))
                    have d68 : (((x47.toInt - 1)) : Int) < (v3.toInt) := cl_lt (tl_i2l e66) (tl_i2l rfl) c65
                    refine ⟨Or.inl rfl, ?_⟩
                    intro o69
                    refine ⟨fun c70 => ?_, fun c70 => ?_⟩
                    · skip
                      refine w_X12_refuse ?_
                      have hB71 : Bd (uI I48 97 0 8) := Bd.o0 hB50 io9_112_97_12 (by decide) bd9_12_0
                      have f72 : Fr pT I (uI I48 97 0 8) := Fr.o f55 (by decide) (by decide)
                      exact hQ _ _ _ _ hB71 f72
                    · exact absurd c70 (by decide)
                  · skip
                    rw [lg_cmp_gt] at c65
                    have e73 : ((x47 - 1) : Int32).toInt = (x47.toInt) - (1) := ti_sub rfl rfl (by first | (clear d13 d22 d33 d42 d64; omega) | omega)
                    have i74 := i32 ((x47 - 1))
                    have d75 : ((v3.toInt) : Int) ≤ ((x47.toInt - 1)) := cl_nlt (tl_i2l e73) (tl_i2l rfl) c65
                    refine ⟨Or.inr rfl, ?_⟩
                    intro o76
                    refine ⟨fun c77 => ?_, fun c77 => ?_⟩
                    · exact absurd c77 (by decide)
                    · skip
                      refine ⟨vp_of (a := v3.toInt) rfl (by first | (clear d13 d22 d33 d42 p51 i57 e73 i74; omega) | omega) (by first | (clear d13 d22 d33 d42 p51 i57 e73 i74; omega) | omega), ?_⟩
                      exact hQ _ _ _ _ hB50 f55
              · exact absurd c46 (by decide)
set_option maxHeartbeats 2000000 in
theorem sp_X12_ask {d : Nat} {Q : Qt} {v1 : Int32} {v2 : Int32} {v3 : Int32} {I : Im} {J : Jm} {R : Rm} (hB0 : Bd I) (hR0 : RI R) (hQ : ∀ (x : Int32) (y : Int64) (I2 : Im) (J2 : Jm), Bd I2 → (Fr pT I I2) → Q x y I2 J2 R) : AM (d + 11) 279 112 [.ref 97, .int v1, .int v2, .int v3] I J R Q := by
  have i_v1 := i32 v1
  have i_v2 := i32 v2
  have i_v3 := i32 v3
  refine am_X12_ask (fun P hc => ?_)
  have L : ∀ n : Nat, (∀ (v4 : Int32) (v5 : Int32) (v6 : Int32) (M : Im) (JM : Jm), Bd M → Fr pT I M → (1 ≤ v6.toInt ∧ v6.toInt ≤ 31) → 40 - v6.toInt < (n : Int) → P 79 112 [(0, .ref 97), (4, .int v4), (5, .int v5), (6, .int v6)] [] M JM R) := by
    intro n
    induction n with
    | zero =>
      exact fun v4 v5 v6 M J _ _ hi hm => absurd hm (by omega)
    | succ n ih =>
      intro v4 v5 v6 M JM hB hf hi hm
      have i_v4 := i32 v4
      have i_v5 := i32 v5
      have i_v6 := i32 v6
      refine sg_X12_ask_79 hc _ _ _ _ _ _ ?_
      refine ⟨fun c1 => ?_, fun c1 => ?_⟩
      · skip
        have d2 : ((30) : Int) < (v6.toInt) := ci_lt rfl rfl c1
        exact hQ _ _ _ _ hB hf
      · skip
        have d3 : ((v6.toInt) : Int) ≤ (30) := ci_nlt rfl rfl c1
        refine ⟨vp_of (a := v6.toInt) rfl (by omega) (by omega), ?_⟩
        refine ⟨vp_of (a := v6.toInt) rfl (by omega) (by omega), ?_⟩
        refine ⟨vp_of (a := 3) rfl (by omega) (by omega), ?_⟩
        refine w_X12_isOf ?_
        refine ⟨fun c4 => ?_, fun c4 => ?_⟩
        · skip
          have d5 : ¬ ((((((M 102 (Int32.toNatClampNeg 3)) >>> ((v6 - 1) &&& 31)) &&& 1) : Int32).toInt) : Int) = (1) := ci_ne rfl rfl c4
          refine ⟨Or.inl rfl, ?_⟩
          intro o6
          refine ⟨fun c7 => ?_, fun c7 => ?_⟩
          · skip
            have e8 : ((v6 + 1) : Int32).toInt = (v6.toInt) + (1) := ti_add rfl rfl (by omega)
            exact ih _ _ _ _ _ hB hf (by have q0 : ((v6 + 1) : Int32).toInt = (v6.toInt + 1) := e8; omega) (by have q0 : ((v6 + 1) : Int32).toInt = (v6.toInt + 1) := e8; omega)
          · exact absurd c7 (by decide)
        · skip
          have d9 : ((((((M 102 (Int32.toNatClampNeg 3)) >>> ((v6 - 1) &&& 31)) &&& 1) : Int32).toInt) : Int) = (1) := ci_eq rfl rfl c4
          refine ⟨Or.inr rfl, ?_⟩
          intro o10
          refine ⟨fun c11 => ?_, fun c11 => ?_⟩
          · exact absurd c11 (by decide)
          · skip
            refine ⟨fun c12 => ?_, fun c12 => ?_⟩
            · skip
              have d13 : ((v4.toInt) : Int) < (0) := ci_lt rfl rfl c12
              have e14 : ((v6 + 1) : Int32).toInt = (v6.toInt) + (1) := ti_add rfl rfl (by omega)
              exact ih _ _ _ _ _ hB hf (by have q0 : ((v6 + 1) : Int32).toInt = (v6.toInt + 1) := e14; omega) (by have q0 : ((v6 + 1) : Int32).toInt = (v6.toInt + 1) := e14; omega)
            · skip
              have d15 : ((0) : Int) ≤ (v4.toInt) := ci_nlt rfl rfl c12
              refine ⟨fun c16 => ?_, fun c16 => ?_⟩
              · skip
                have e17 : ((if ((M 107 (Int32.toNatClampNeg v6)) : Int32) < ((M 97 31) - (M 107 (Int32.toNatClampNeg v6))) then ((M 97 31) - (M 107 (Int32.toNatClampNeg v6))) else (M 107 (Int32.toNatClampNeg v6))) : Int32).toInt = max ((M 107 (Int32.toNatClampNeg v6)).toInt) ((((M 97 31) - (M 107 (Int32.toNatClampNeg v6))) : Int32).toInt) := ti_max rfl rfl
                have d18 : (((max ((M 107 (Int32.toNatClampNeg v6)).toInt) ((((M 97 31) - (M 107 (Int32.toNatClampNeg v6))) : Int32).toInt))) : Int) < (v5.toInt) := ci_lt e17 rfl c16
                have e19 : ((v6 + 1) : Int32).toInt = (v6.toInt) + (1) := ti_add rfl rfl (by omega)
                exact ih _ _ _ _ _ hB hf (by have q0 : ((v6 + 1) : Int32).toInt = (v6.toInt + 1) := e19; omega) (by have q0 : ((v6 + 1) : Int32).toInt = (v6.toInt + 1) := e19; omega)
              · skip
                have e20 : ((if ((M 107 (Int32.toNatClampNeg v6)) : Int32) < ((M 97 31) - (M 107 (Int32.toNatClampNeg v6))) then ((M 97 31) - (M 107 (Int32.toNatClampNeg v6))) else (M 107 (Int32.toNatClampNeg v6))) : Int32).toInt = max ((M 107 (Int32.toNatClampNeg v6)).toInt) ((((M 97 31) - (M 107 (Int32.toNatClampNeg v6))) : Int32).toInt) := ti_max rfl rfl
                have d21 : ((v5.toInt) : Int) ≤ ((max ((M 107 (Int32.toNatClampNeg v6)).toInt) ((((M 97 31) - (M 107 (Int32.toNatClampNeg v6))) : Int32).toInt))) := ci_nlt e20 rfl c16
                have e22 : ((v6 + 1) : Int32).toInt = (v6.toInt) + (1) := ti_add rfl rfl (by omega)
                exact ih _ _ _ _ _ hB hf (by have q0 : ((v6 + 1) : Int32).toInt = (v6.toInt + 1) := e22; omega) (by have q0 : ((v6 + 1) : Int32).toInt = (v6.toInt + 1) := e22; omega)
  refine sg_X12_ask_0 hc _ _ _ _ _ _ ?_
  have hB23 : Bd (uI I 97 1 0) := Bd.o0 hB0 io9_112_97_12 (by decide) bd9_12_1
  have f24 : Fr pT I (uI I 97 1 0) := Fr.o (Fr.refl _ _) (by decide) (by decide)
  have hB25 : Bd (uI (uI I 97 1 0) 97 0 0) := Bd.o0 hB23 io9_112_97_12 (by decide) bd9_12_0
  have f26 : Fr pT I (uI (uI I 97 1 0) 97 0 0) := Fr.o f24 (by decide) (by decide)
  refine w_X12_isShare ?_
  refine w_X12_isIn ?_
  refine ⟨fun c27 => ?_, fun c27 => ?_⟩
  · skip
    rw [lg_cmp_lt] at c27
    have d28 : ((v1.toInt) : Int) < (1) := cl_lt (tl_i2l rfl) rfl c27
    refine ⟨Or.inl rfl, ?_⟩
    intro o29
    refine ⟨fun c30 => ?_, fun c30 => ?_⟩
    · skip
      refine ⟨Or.inl rfl, ?_⟩
      intro o31
      refine ⟨fun c32 => ?_, fun c32 => ?_⟩
      · skip
        refine w_X12_refuse ?_
        have hB33 : Bd (uI (uI (uI I 97 1 0) 97 0 0) 97 0 5) := Bd.o0 hB25 io9_112_97_12 (by decide) bd9_12_0
        have f34 : Fr pT I (uI (uI (uI I 97 1 0) 97 0 0) 97 0 5) := Fr.o f26 (by decide) (by decide)
        exact hQ _ _ _ _ hB33 f34
      · exact absurd c32 (by decide)
    · exact absurd c30 (by decide)
  · skip
    rw [lg_cmp_lt] at c27
    have d35 : ((1) : Int) ≤ (v1.toInt) := cl_nlt (tl_i2l rfl) rfl c27
    refine ⟨fun c36 => ?_, fun c36 => ?_⟩
    · skip
      rw [lg_cmp_gt] at c36
      have d37 : ((99) : Int) < (v1.toInt) := cl_lt rfl (tl_i2l rfl) c36
      refine ⟨Or.inl rfl, ?_⟩
      intro o38
      refine ⟨fun c39 => ?_, fun c39 => ?_⟩
      · skip
        refine ⟨Or.inl rfl, ?_⟩
        intro o40
        refine ⟨fun c41 => ?_, fun c41 => ?_⟩
        · skip
          refine w_X12_refuse ?_
          have hB42 : Bd (uI (uI (uI I 97 1 0) 97 0 0) 97 0 5) := Bd.o0 hB25 io9_112_97_12 (by decide) bd9_12_0
          have f43 : Fr pT I (uI (uI (uI I 97 1 0) 97 0 0) 97 0 5) := Fr.o f26 (by decide) (by decide)
          exact hQ _ _ _ _ hB42 f43
        · exact absurd c41 (by decide)
      · exact absurd c39 (by decide)
    · skip
      rw [lg_cmp_gt] at c36
      have d44 : ((v1.toInt) : Int) ≤ (99) := cl_nlt rfl (tl_i2l rfl) c36
      refine ⟨Or.inr rfl, ?_⟩
      intro o45
      refine ⟨fun c46 => ?_, fun c46 => ?_⟩
      · exact absurd c46 (by decide)
      · skip
        refine w_X12_isIn ?_
        refine ⟨fun c47 => ?_, fun c47 => ?_⟩
        · skip
          rw [lg_cmp_lt] at c47
          have d48 : ((v2.toInt) : Int) < (1) := cl_lt (tl_i2l rfl) rfl c47
          refine ⟨Or.inl rfl, ?_⟩
          intro o49
          refine ⟨fun c50 => ?_, fun c50 => ?_⟩
          · skip
            refine ⟨Or.inl rfl, ?_⟩
            intro o51
            refine ⟨fun c52 => ?_, fun c52 => ?_⟩
            · skip
              refine w_X12_refuse ?_
              have hB53 : Bd (uI (uI (uI I 97 1 0) 97 0 0) 97 0 5) := Bd.o0 hB25 io9_112_97_12 (by decide) bd9_12_0
              have f54 : Fr pT I (uI (uI (uI I 97 1 0) 97 0 0) 97 0 5) := Fr.o f26 (by decide) (by decide)
              exact hQ _ _ _ _ hB53 f54
            · exact absurd c52 (by decide)
          · exact absurd c50 (by decide)
        · skip
          rw [lg_cmp_lt] at c47
          have d55 : ((1) : Int) ≤ (v2.toInt) := cl_nlt (tl_i2l rfl) rfl c47
          refine ⟨fun c56 => ?_, fun c56 => ?_⟩
          · skip
            rw [lg_cmp_gt] at c56
            have d57 : ((30) : Int) < (v2.toInt) := cl_lt rfl (tl_i2l rfl) c56
            refine ⟨Or.inl rfl, ?_⟩
            intro o58
            refine ⟨fun c59 => ?_, fun c59 => ?_⟩
            · skip
              refine ⟨Or.inl rfl, ?_⟩
              intro o60
              refine ⟨fun c61 => ?_, fun c61 => ?_⟩
              · skip
                refine w_X12_refuse ?_
                have hB62 : Bd (uI (uI (uI I 97 1 0) 97 0 0) 97 0 5) := Bd.o0 hB25 io9_112_97_12 (by decide) bd9_12_0
                have f63 : Fr pT I (uI (uI (uI I 97 1 0) 97 0 0) 97 0 5) := Fr.o f26 (by decide) (by decide)
                exact hQ _ _ _ _ hB62 f63
              · exact absurd c61 (by decide)
            · exact absurd c59 (by decide)
          · skip
            rw [lg_cmp_gt] at c56
            have d64 : ((v2.toInt) : Int) ≤ (30) := cl_nlt rfl (tl_i2l rfl) c56
            refine ⟨Or.inr rfl, ?_⟩
            intro o65
            refine ⟨fun c66 => ?_, fun c66 => ?_⟩
            · exact absurd c66 (by decide)
            · skip
              refine ⟨Or.inr rfl, ?_⟩
              intro o67
              refine ⟨fun c68 => ?_, fun c68 => ?_⟩
              · exact absurd c68 (by decide)
              · skip
                refine w_X12_isIn ?_
                refine ⟨fun c69 => ?_, fun c69 => ?_⟩
                · skip
                  rw [lg_cmp_lt] at c69
                  have d70 : ((v3.toInt) : Int) < (1) := cl_lt (tl_i2l rfl) rfl c69
                  refine ⟨Or.inl rfl, ?_⟩
                  intro o71
                  refine ⟨fun c72 => ?_, fun c72 => ?_⟩
                  · exact absurd c72 (by decide)
                  · skip
                    refine w_X12_refuse ?_
                    have hB73 : Bd (uI (uI (uI I 97 1 0) 97 0 0) 97 0 5) := Bd.o0 hB25 io9_112_97_12 (by decide) bd9_12_0
                    have f74 : Fr pT I (uI (uI (uI I 97 1 0) 97 0 0) 97 0 5) := Fr.o f26 (by decide) (by decide)
                    exact hQ _ _ _ _ hB73 f74
                · skip
                  rw [lg_cmp_lt] at c69
                  have d75 : ((1) : Int) ≤ (v3.toInt) := cl_nlt (tl_i2l rfl) rfl c69
                  refine ⟨fun c76 => ?_, fun c76 => ?_⟩
                  · skip
                    rw [lg_cmp_gt] at c76
                    have d77 : ((5) : Int) < (v3.toInt) := cl_lt rfl (tl_i2l rfl) c76
                    refine ⟨Or.inl rfl, ?_⟩
                    intro o78
                    refine ⟨fun c79 => ?_, fun c79 => ?_⟩
                    · exact absurd c79 (by decide)
                    · skip
                      refine w_X12_refuse ?_
                      have hB80 : Bd (uI (uI (uI I 97 1 0) 97 0 0) 97 0 5) := Bd.o0 hB25 io9_112_97_12 (by decide) bd9_12_0
                      have f81 : Fr pT I (uI (uI (uI I 97 1 0) 97 0 0) 97 0 5) := Fr.o f26 (by decide) (by decide)
                      exact hQ _ _ _ _ hB80 f81
                  · skip
                    rw [lg_cmp_gt] at c76
                    have d82 : ((v3.toInt) : Int) ≤ (5) := cl_nlt rfl (tl_i2l rfl) c76
                    refine ⟨Or.inr rfl, ?_⟩
                    intro o83
                    refine ⟨fun c84 => ?_, fun c84 => ?_⟩
                    · skip
                      refine w_X12_shareOf ?_
                      refine ⟨(fun z => by have z2 : (v2.toInt : Int) = 0 := cl_eq (tl_i2l rfl) rfl z; omega), ?_⟩
                      refine ⟨vp_of (a := 3) rfl (by first | (clear d35 d44 d55 d64 d75 d82; omega) | omega) (by first | (clear d35 d44 d55 d64 d75 d82; omega) | omega), ?_⟩
                      refine kp102 rfl hR0 rfl (sp_X12_laysRows hB25 hR0 (by have z1 : (v3 : Int32).toInt = v3.toInt := rfl; omega) (by have z2 : (31 : Int32).toInt = 31 := rfl; omega) (fun x85 y90 I86 J87 hB88 p89 w91 => ?_))
                      intro o92
                      have f93 : Fr pT (uI (uI I 97 1 0) 97 0 0) I86 := ⟨fun j _ => congrFun w91.1 j, w91.2⟩
                      have f94 : Fr pT I I86 := Fr.tr f26 f93 (fun _ _ => trivial)
                      have q95 : (31 : Int32).toInt = 31 := rfl
                      have i96 := i32 x85
                      refine ⟨fun c97 => ?_, fun c97 => ?_⟩
                      · skip
                        have d98 : ((2) : Int) ≤ ((I86 97 31).toInt) := ci_le rfl rfl c97
                        exact (L 1000000) _ _ _ _ _ hB88 f94 (by have q0 : (1 : Int32).toInt = 1 := rfl; omega) (by have q0 : (1 : Int32).toInt = 1 := rfl; omega)
                      · skip
                        have d99 : (((I86 97 31).toInt) : Int) < (2) := ci_nle rfl rfl c97
                        refine w_X12_refuse ?_
                        have hB100 : Bd (uI I86 97 0 8) := Bd.o0 hB88 io9_112_97_12 (by decide) bd9_12_0
                        have f101 : Fr pT I (uI I86 97 0 8) := Fr.o f94 (by decide) (by decide)
                        exact hQ _ _ _ _ hB100 f101
                    · exact absurd c84 (by decide)
set_option maxHeartbeats 2000000 in
theorem sp_X12_kindestOf {d : Nat} {Q : Qt} {v1 : Int64} {I : Im} {J : Jm} {R : Rm} (hB0 : Bd I) (hR0 : RI R) (hQ : ∀ (x : Int32) (y : Int64) (I2 : Im) (J2 : Jm), Bd I2 → (Fr pT I I2 ∧ (-1 ≤ x.toInt ∧ x.toInt ≤ 5)) → Q x y I2 J2 R) : AM (d + 11) 280 112 [.ref 97, .long v1] I J R Q := by
  have i_v1 := i64 v1
  refine am_X12_kindestOf (fun P hc => ?_)
  have L : ∀ n : Nat, (∀ (v3 : Int32) (M : Im) (JM : Jm), Bd M → Fr pT I M → (1 ≤ v3.toInt ∧ v3.toInt ≤ 31) → 1000 - 10 * v3.toInt < (n : Int) → P 2 112 [(0, .ref 97), (1, .long v1), (3, .int v3)] [] M JM R) ∧ (∀ (v3 : Int32) (v4 : Int32) (M : Im) (JM : Jm), Bd M → Fr pT I M → (1 ≤ v3.toInt ∧ v3.toInt ≤ 30 ∧ 1 ≤ v4.toInt ∧ v4.toInt ≤ 6) → 998 - 10 * v3.toInt - v4.toInt < (n : Int) → P 29 112 [(0, .ref 97), (1, .long v1), (3, .int v3), (4, .int v4)] [] M JM R) := by
    intro n
    induction n with
    | zero =>
      exact ⟨fun v3 M J _ _ hi hm => absurd hm (by omega), fun v3 v4 M J _ _ hi hm => absurd hm (by omega)⟩
    | succ n ih =>
      refine ⟨?_, ?_⟩
      · skip
        intro v3 M JM hB hf hi hm
        have i_v1 := i64 v1
        have i_v3 := i32 v3
        refine sg_X12_kindestOf_2 hc _ _ _ _ _ ?_
        refine ⟨fun c1 => ?_, fun c1 => ?_⟩
        · skip
          have d2 : ((30) : Int) < (v3.toInt) := ci_lt rfl rfl c1
          exact hQ _ _ _ _ hB ⟨hf, (by have q0 : ((-1) : Int32).toInt = (-1) := rfl; omega)⟩
        · skip
          have d3 : ((v3.toInt) : Int) ≤ (30) := ci_nlt rfl rfl c1
          refine ⟨vp_of (a := 3) rfl (by omega) (by omega), ?_⟩
          refine w_X12_isOf ?_
          refine ⟨fun c4 => ?_, fun c4 => ?_⟩
          · skip
            have d5 : ¬ ((((((M 102 (Int32.toNatClampNeg 3)) >>> ((v3 - 1) &&& 31)) &&& 1) : Int32).toInt) : Int) = (1) := ci_ne rfl rfl c4
            refine ⟨Or.inl rfl, ?_⟩
            intro o6
            refine ⟨fun c7 => ?_, fun c7 => ?_⟩
            · exact absurd c7 (by decide)
            · skip
              have e8 : ((v3 + 1) : Int32).toInt = (v3.toInt) + (1) := ti_add rfl rfl (by omega)
              exact ih.1 _ _ _ hB hf (by have q0 : ((v3 + 1) : Int32).toInt = (v3.toInt + 1) := e8; omega) (by have q0 : ((v3 + 1) : Int32).toInt = (v3.toInt + 1) := e8; omega)
          · skip
            have d9 : ((((((M 102 (Int32.toNatClampNeg 3)) >>> ((v3 - 1) &&& 31)) &&& 1) : Int32).toInt) : Int) = (1) := ci_eq rfl rfl c4
            refine ⟨Or.inr rfl, ?_⟩
            intro o10
            refine ⟨fun c11 => ?_, fun c11 => ?_⟩
            · skip
              exact ih.2 _ _ _ _ hB hf (by have q0 : (v3 : Int32).toInt = v3.toInt := rfl; have q1 : (1 : Int32).toInt = 1 := rfl; omega) (by have q0 : (v3 : Int32).toInt = v3.toInt := rfl; have q1 : (1 : Int32).toInt = 1 := rfl; omega)
            · exact absurd c11 (by decide)
      · skip
        intro v3 v4 M JM hB hf hi hm
        have i_v1 := i64 v1
        have i_v3 := i32 v3
        have i_v4 := i32 v4
        refine sg_X12_kindestOf_29 hc _ _ _ _ _ _ ?_
        refine ⟨fun c12 => ?_, fun c12 => ?_⟩
        · skip
          have d13 : ((5) : Int) < (v4.toInt) := ci_lt rfl rfl c12
          have e14 : ((v3 + 1) : Int32).toInt = (v3.toInt) + (1) := ti_add rfl rfl (by omega)
          exact ih.1 _ _ _ hB hf (by have q0 : ((v3 + 1) : Int32).toInt = (v3.toInt + 1) := e14; omega) (by have q0 : ((v3 + 1) : Int32).toInt = (v3.toInt + 1) := e14; omega)
        · skip
          have d15 : ((v4.toInt) : Int) ≤ (5) := ci_nlt rfl rfl c12
          refine w_X12_partsOf ?_
          refine ⟨(fun z => by have z2 : (v3.toInt : Int) = 0 := cl_eq (tl_i2l rfl) rfl z; omega), ?_⟩
          refine ⟨vp_of (a := 3) rfl (by omega) (by omega), ?_⟩
          have e16 : ((v4 - 1) : Int32).toInt = (v4.toInt) - (1) := ti_sub rfl rfl (by omega)
          refine kp102 rfl hR0 rfl (sp_X12_laysRows hB hR0 (by have z1 : ((v4 - 1) : Int32).toInt = (v4.toInt - 1) := e16; omega) (by have z2 : (v3 : Int32).toInt = v3.toInt := rfl; omega) (fun x17 y22 I18 J19 hB20 p21 w23 => ?_))
          intro o24
          have f25 : Fr pT M I18 := ⟨fun j _ => congrFun w23.1 j, w23.2⟩
          have f26 : Fr pT I I18 := Fr.tr hf f25 (fun _ _ => trivial)
          have q27 : ((v4 - 1) : Int32).toInt = (v4.toInt - 1) := e16
          have i28 := i32 x17
          refine ⟨fun c29 => ?_, fun c29 => ?_⟩
          · skip
            have d30 : ¬ ((x17.toInt) : Int) = (0) := ci_ne rfl rfl c29
            refine ⟨vp_of (a := (v4.toInt - 1)) e16 (by omega) (by omega), ?_⟩
            have hB31 : Bd (uI I18 106 (Int32.toNatClampNeg (v4 - 1)) v3) := Bd.a0 hB20 (show isA 112 106 0 = true from rfl) (show bna 106 = none from rfl)
            have f32 : Fr pT I (uI I18 106 (Int32.toNatClampNeg (v4 - 1)) v3) := Fr.o f26 (by decide) (by decide)
            exact hQ _ _ _ _ hB31 ⟨f32, (by have q0 : (v4 : Int32).toInt = v4.toInt := rfl; omega)⟩
          · skip
            have d33 : ((x17.toInt) : Int) = (0) := ci_eq rfl rfl c29
            have e34 : ((v4 + 1) : Int32).toInt = (v4.toInt) + (1) := ti_add rfl rfl (by omega)
            exact ih.2 _ _ _ _ hB20 f26 (by have q0 : (v3 : Int32).toInt = v3.toInt := rfl; have q1 : ((v4 + 1) : Int32).toInt = (v4.toInt + 1) := e34; omega) (by have q0 : (v3 : Int32).toInt = v3.toInt := rfl; have q1 : ((v4 + 1) : Int32).toInt = (v4.toInt + 1) := e34; omega)
  refine sg_X12_kindestOf_0 hc _ _ _ _ ?_
  exact (L 1000000).1 _ _ _ hB0 (Fr.refl _ _) (by have q0 : (1 : Int32).toInt = 1 := rfl; omega) (by have q0 : (1 : Int32).toInt = 1 := rfl; omega)
set_option maxHeartbeats 2000000 in
theorem sp_X12_kindestAt {d : Nat} {Q : Qt} {v1 : Int32} {v2 : Int32} {v3 : Int32} {I : Im} {J : Jm} {R : Rm} (hB0 : Bd I) (hR0 : RI R) (hQ : ∀ (x : Int32) (y : Int64) (I2 : Im) (J2 : Jm), Bd I2 → (Fr pT I I2) → Q x y I2 J2 R) : AM (d + 12) 281 112 [.ref 97, .int v1, .int v2, .int v3] I J R Q := by
  have i_v1 := i32 v1
  have i_v2 := i32 v2
  have i_v3 := i32 v3
  refine w_X12_kindestAt ?_
  have hB1 : Bd (uI I 97 1 0) := Bd.o0 hB0 io9_112_97_12 (by decide) bd9_12_1
  have f2 : Fr pT I (uI I 97 1 0) := Fr.o (Fr.refl _ _) (by decide) (by decide)
  have hB3 : Bd (uI (uI I 97 1 0) 97 0 0) := Bd.o0 hB1 io9_112_97_12 (by decide) bd9_12_0
  have f4 : Fr pT I (uI (uI I 97 1 0) 97 0 0) := Fr.o f2 (by decide) (by decide)
  refine w_X12_isShare ?_
  refine w_X12_isIn ?_
  refine ⟨fun c5 => ?_, fun c5 => ?_⟩
  · skip
    rw [lg_cmp_lt] at c5
    have d6 : ((v1.toInt) : Int) < (1) := cl_lt (tl_i2l rfl) rfl c5
    refine ⟨Or.inl rfl, ?_⟩
    intro o7
    refine ⟨fun c8 => ?_, fun c8 => ?_⟩
    · skip
      refine ⟨Or.inl rfl, ?_⟩
      intro o9
      refine ⟨fun c10 => ?_, fun c10 => ?_⟩
      · exact absurd c10 (by decide)
      · skip
        refine w_X12_refuse ?_
        have hB11 : Bd (uI (uI (uI I 97 1 0) 97 0 0) 97 0 5) := Bd.o0 hB3 io9_112_97_12 (by decide) bd9_12_0
        have f12 : Fr pT I (uI (uI (uI I 97 1 0) 97 0 0) 97 0 5) := Fr.o f4 (by decide) (by decide)
        exact hQ _ _ _ _ hB11 f12
    · exact absurd c8 (by decide)
  · skip
    rw [lg_cmp_lt] at c5
    have d13 : ((1) : Int) ≤ (v1.toInt) := cl_nlt (tl_i2l rfl) rfl c5
    refine ⟨fun c14 => ?_, fun c14 => ?_⟩
    · skip
      rw [lg_cmp_gt] at c14
      have d15 : ((99) : Int) < (v1.toInt) := cl_lt rfl (tl_i2l rfl) c14
      refine ⟨Or.inl rfl, ?_⟩
      intro o16
      refine ⟨fun c17 => ?_, fun c17 => ?_⟩
      · skip
        refine ⟨Or.inl rfl, ?_⟩
        intro o18
        refine ⟨fun c19 => ?_, fun c19 => ?_⟩
        · exact absurd c19 (by decide)
        · skip
          refine w_X12_refuse ?_
          have hB20 : Bd (uI (uI (uI I 97 1 0) 97 0 0) 97 0 5) := Bd.o0 hB3 io9_112_97_12 (by decide) bd9_12_0
          have f21 : Fr pT I (uI (uI (uI I 97 1 0) 97 0 0) 97 0 5) := Fr.o f4 (by decide) (by decide)
          exact hQ _ _ _ _ hB20 f21
      · exact absurd c17 (by decide)
    · skip
      rw [lg_cmp_gt] at c14
      have d22 : ((v1.toInt) : Int) ≤ (99) := cl_nlt rfl (tl_i2l rfl) c14
      refine ⟨Or.inr rfl, ?_⟩
      intro o23
      refine ⟨fun c24 => ?_, fun c24 => ?_⟩
      · exact absurd c24 (by decide)
      · skip
        refine w_X12_isIn ?_
        refine ⟨fun c25 => ?_, fun c25 => ?_⟩
        · skip
          rw [lg_cmp_lt] at c25
          have d26 : ((v2.toInt) : Int) < (1) := cl_lt (tl_i2l rfl) rfl c25
          refine ⟨Or.inl rfl, ?_⟩
          intro o27
          refine ⟨fun c28 => ?_, fun c28 => ?_⟩
          · skip
            refine ⟨Or.inl rfl, ?_⟩
            intro o29
            refine ⟨fun c30 => ?_, fun c30 => ?_⟩
            · exact absurd c30 (by decide)
            · skip
              refine w_X12_refuse ?_
              have hB31 : Bd (uI (uI (uI I 97 1 0) 97 0 0) 97 0 5) := Bd.o0 hB3 io9_112_97_12 (by decide) bd9_12_0
              have f32 : Fr pT I (uI (uI (uI I 97 1 0) 97 0 0) 97 0 5) := Fr.o f4 (by decide) (by decide)
              exact hQ _ _ _ _ hB31 f32
          · exact absurd c28 (by decide)
        · skip
          rw [lg_cmp_lt] at c25
          have d33 : ((1) : Int) ≤ (v2.toInt) := cl_nlt (tl_i2l rfl) rfl c25
          refine ⟨fun c34 => ?_, fun c34 => ?_⟩
          · skip
            rw [lg_cmp_gt] at c34
            have d35 : ((30) : Int) < (v2.toInt) := cl_lt rfl (tl_i2l rfl) c34
            refine ⟨Or.inl rfl, ?_⟩
            intro o36
            refine ⟨fun c37 => ?_, fun c37 => ?_⟩
            · skip
              refine ⟨Or.inl rfl, ?_⟩
              intro o38
              refine ⟨fun c39 => ?_, fun c39 => ?_⟩
              · exact absurd c39 (by decide)
              · skip
                refine w_X12_refuse ?_
                have hB40 : Bd (uI (uI (uI I 97 1 0) 97 0 0) 97 0 5) := Bd.o0 hB3 io9_112_97_12 (by decide) bd9_12_0
                have f41 : Fr pT I (uI (uI (uI I 97 1 0) 97 0 0) 97 0 5) := Fr.o f4 (by decide) (by decide)
                exact hQ _ _ _ _ hB40 f41
            · exact absurd c37 (by decide)
          · skip
            rw [lg_cmp_gt] at c34
            have d42 : ((v2.toInt) : Int) ≤ (30) := cl_nlt rfl (tl_i2l rfl) c34
            refine ⟨Or.inr rfl, ?_⟩
            intro o43
            refine ⟨fun c44 => ?_, fun c44 => ?_⟩
            · exact absurd c44 (by decide)
            · skip
              refine ⟨Or.inr rfl, ?_⟩
              intro o45
              refine ⟨fun c46 => ?_, fun c46 => ?_⟩
              · skip
                refine w_X12_shareOf ?_
                refine ⟨(fun z => by have z2 : (v2.toInt : Int) = 0 := cl_eq (tl_i2l rfl) rfl z; omega), ?_⟩
                refine sp_X12_kindestOf hB3 hR0 (fun x47 y52 I48 J49 hB50 p51 => ?_)
                have f53 : Fr pT (uI (uI I 97 1 0) 97 0 0) I48 := p51.1
                have f54 : Fr pT I I48 := Fr.tr f4 f53 (fun _ _ => trivial)
                have i55 := i32 x47
                refine w_X12_isIn ?_
                refine ⟨fun c56 => ?_, fun c56 => ?_⟩
                · skip
                  rw [lg_cmp_lt] at c56
                  have d57 : ((v3.toInt) : Int) < (0) := cl_lt (tl_i2l rfl) rfl c56
                  refine ⟨Or.inl rfl, ?_⟩
                  intro o58
                  refine ⟨fun c59 => ?_, fun c59 => ?_⟩
                  · skip
                    refine w_X12_refuse ?_
                    have hB60 : Bd (uI I48 97 0 8) := Bd.o0 hB50 io9_112_97_12 (by decide) bd9_12_0
                    have f61 : Fr pT I (uI I48 97 0 8) := Fr.o f54 (by decide) (by decide)
                    exact hQ _ _ _ _ hB60 f61
                  · exact absurd c59 (by decide)
                · skip
                  rw [lg_cmp_lt] at c56
                  have d62 : ((0) : Int) ≤ (v3.toInt) := cl_nlt (tl_i2l rfl) rfl c56
                  refine ⟨fun c63 => ?_, fun c63 => ?_⟩
                  · skip
                    rw [lg_cmp_gt] at c63
                    have e64 : ((x47 - 1) : Int32).toInt = (x47.toInt) - (1) := ti_sub rfl rfl (by first | (clear d13 d22 d33 d42 d62; omega) | omega)
                    have i65 := i32 ((x47 - 1))
                    have d66 : (((x47.toInt - 1)) : Int) < (v3.toInt) := cl_lt (tl_i2l e64) (tl_i2l rfl) c63
                    refine ⟨Or.inl rfl, ?_⟩
                    intro o67
                    refine ⟨fun c68 => ?_, fun c68 => ?_⟩
                    · skip
                      refine w_X12_refuse ?_
                      have hB69 : Bd (uI I48 97 0 8) := Bd.o0 hB50 io9_112_97_12 (by decide) bd9_12_0
                      have f70 : Fr pT I (uI I48 97 0 8) := Fr.o f54 (by decide) (by decide)
                      exact hQ _ _ _ _ hB69 f70
                    · exact absurd c68 (by decide)
                  · skip
                    rw [lg_cmp_gt] at c63
                    have e71 : ((x47 - 1) : Int32).toInt = (x47.toInt) - (1) := ti_sub rfl rfl (by first | (clear d13 d22 d33 d42 d62; omega) | omega)
                    have i72 := i32 ((x47 - 1))
                    have d73 : ((v3.toInt) : Int) ≤ ((x47.toInt - 1)) := cl_nlt (tl_i2l e71) (tl_i2l rfl) c63
                    refine ⟨Or.inr rfl, ?_⟩
                    intro o74
                    refine ⟨fun c75 => ?_, fun c75 => ?_⟩
                    · exact absurd c75 (by decide)
                    · skip
                      refine ⟨vp_of (a := v3.toInt) rfl (by first | (clear d13 d22 d33 d42 p51 i55 e71 i72; omega) | omega) (by first | (clear d13 d22 d33 d42 p51 i55 e71 i72; omega) | omega), ?_⟩
                      exact hQ _ _ _ _ hB50 f54
              · exact absurd c46 (by decide)
