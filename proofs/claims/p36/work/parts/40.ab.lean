set_option maxHeartbeats 2000000 in
theorem sp_X6_takeCompares {d : Nat} {Q : Qt} {I : Im} {J : Jm} {R : Rm} (hB0 : Bd I) (hR0 : RI R) (hQ : ∀ (x : Int32) (y : Int64) (I2 : Im) (J2 : Jm), Bd I2 → (I2 7 1 = I 7 1) → Q x y I2 J2 R) : AM (d + 3) 71 112 [.ref 3] I J R Q := by
  refine w_X6_takeCompares ?_
  refine ⟨fun c1 => ?_, fun c1 => ?_⟩
  · skip
    have d2 : ¬ (((I 3 8).toInt) : Int) = (3) := ci_ne rfl rfl c1
    refine w_X6_misplaced ?_
    refine ⟨fun c3 => ?_, fun c3 => ?_⟩
    · skip
      have d4 : ¬ (((I 3 8).toInt) : Int) = (4) := ci_ne rfl rfl c3
      refine w_X6_wrong ?_
      have hB5 : Bd (uI I 3 12 2) := Bd.o0 hB0 io9_112_3_6 (by omega) bd9_6_12
      have hB6 : Bd (uI (uI I 3 12 2) 3 13 (I 3 6)) := Bd.o0 hB5 io9_112_3_6 (by omega) bd9_6_13
      refine ⟨Or.inl rfl, ?_⟩
      intro o7
      refine ⟨Or.inl rfl, ?_⟩
      intro o8
      exact hQ _ _ _ _ hB6 (Eq.trans (rd_ne (by first | decide | omega)) (rd_ne (by first | decide | omega)))
    · skip
      have d9 : (((I 3 8).toInt) : Int) = (4) := ci_eq rfl rfl c3
      refine w_X6_wrong ?_
      have hB10 : Bd (uI I 3 12 1) := Bd.o0 hB0 io9_112_3_6 (by omega) bd9_6_12
      have hB11 : Bd (uI (uI I 3 12 1) 3 13 (I 3 6)) := Bd.o0 hB10 io9_112_3_6 (by omega) bd9_6_13
      refine ⟨Or.inl rfl, ?_⟩
      intro o12
      refine ⟨Or.inl rfl, ?_⟩
      intro o13
      exact hQ _ _ _ _ hB11 (Eq.trans (rd_ne (by first | decide | omega)) (rd_ne (by first | decide | omega)))
  · skip
    have d14 : (((I 3 8).toInt) : Int) = (3) := ci_eq rfl rfl c1
    refine ⟨fun c15 => ?_, fun c15 => ?_⟩
    · skip
      have d16 : ¬ (((I 3 11).toInt) : Int) = (59) := ci_ne rfl rfl c15
      refine sp_X6_advance hB0 hR0 (fun x17 y22 I18 J19 hB20 p21 => ?_)
      exact hQ _ _ _ _ hB20 p21
    · skip
      have d23 : (((I 3 11).toInt) : Int) = (59) := ci_eq rfl rfl c15
      refine w_X6_misplaced ?_
      refine ⟨fun c24 => ?_, fun c24 => ?_⟩
      · skip
        have d25 : ¬ (((I 3 8).toInt) : Int) = (4) := ci_ne rfl rfl c24
        refine w_X6_wrong ?_
        have hB26 : Bd (uI I 3 12 2) := Bd.o0 hB0 io9_112_3_6 (by omega) bd9_6_12
        have hB27 : Bd (uI (uI I 3 12 2) 3 13 (I 3 6)) := Bd.o0 hB26 io9_112_3_6 (by omega) bd9_6_13
        refine ⟨Or.inl rfl, ?_⟩
        intro o28
        refine ⟨Or.inl rfl, ?_⟩
        intro o29
        exact hQ _ _ _ _ hB27 (Eq.trans (rd_ne (by first | decide | omega)) (rd_ne (by first | decide | omega)))
      · skip
        have d30 : (((I 3 8).toInt) : Int) = (4) := ci_eq rfl rfl c24
        refine w_X6_wrong ?_
        have hB31 : Bd (uI I 3 12 1) := Bd.o0 hB0 io9_112_3_6 (by omega) bd9_6_12
        have hB32 : Bd (uI (uI I 3 12 1) 3 13 (I 3 6)) := Bd.o0 hB31 io9_112_3_6 (by omega) bd9_6_13
        refine ⟨Or.inl rfl, ?_⟩
        intro o33
        refine ⟨Or.inl rfl, ?_⟩
        intro o34
        exact hQ _ _ _ _ hB32 (Eq.trans (rd_ne (by first | decide | omega)) (rd_ne (by first | decide | omega)))
set_option maxHeartbeats 2000000 in
theorem sp_X0_manNamed {d : Nat} {Q : Qt} {v0 : Nat} {v1 : Int64} {I : Im} {J : Jm} {R : Rm} (hB0 : Bd I) (hR0 : RI R) (ho0 : isO 112 v0 0 = true) (hQ : ∀ (x : Int32) (y : Int64) (I2 : Im) (J2 : Jm), Bd I2 → (I2 7 1 = I 7 1) → Q x y I2 J2 R) : AM (d + 1) 5 112 [.ref v0, .long v1] I J R Q := by
  have i_v1 := i64 v1
  refine am_X0_manNamed (fun P hc => ?_)
  have L : ∀ n : Nat, (∀ (v3 : Int32) (M : Im) (JM : Jm), Bd M → (M 7 1 = I 7 1) → (0 ≤ v3.toInt ∧ v3.toInt ≤ 6) → 6 - v3.toInt < (n : Int) → P 2 112 [(0, .ref v0), (1, .long v1), (3, .int v3)] [] M JM R) := by
    intro n
    induction n with
    | zero =>
      exact fun v3 M J _ _ hi hm => absurd hm (by omega)
    | succ n ih =>
      intro v3 M JM hB hk_7_1 hi hm
      have i_v1 := i64 v1
      have i_v3 := i32 v3
      refine sg_X0_manNamed_2 hc _ _ _ _ _ _ ?_
      refine bif_t ho0 ?_
      refine ⟨fun c1 => ?_, fun c1 => ?_⟩
      · skip
        have b2 := Bd.o hB ho0 bd9_0_4
        have d3 : (((M v0 4).toInt) : Int) ≤ (v3.toInt) := ci_le rfl rfl c1
        exact hQ _ _ _ _ hB hk_7_1
      · skip
        have b4 := Bd.o hB ho0 bd9_0_4
        have d5 : ((v3.toInt) : Int) < ((M v0 4).toInt) := ci_nle rfl rfl c1
        refine bif_t ho0 ?_
        refine bif_t (fa_0_5 ho0).1 ?_
        refine ⟨by rw [(fa_0_5 ho0).2.1]; exact vp_of (a := v3.toInt) rfl (by omega) (by omega), ?_⟩
        refine ⟨fun c6 => ?_, fun c6 => ?_⟩
        · skip
          rw [lg_cmp_eq] at c6
          have d7 : ¬ ((((JM (v0 + 2) (Int32.toNatClampNeg v3)) : Int64).toInt) : Int) = ((v1 : Int64).toInt) := cl_ne rfl rfl c6
          have e8 : ((v3 + 1) : Int32).toInt = (v3.toInt) + (1) := ti_add rfl rfl (by omega)
          exact ih _ _ _ hB hk_7_1 (by have q0 : ((v3 + 1) : Int32).toInt = (v3.toInt + 1) := e8; omega) (by have q0 : ((v3 + 1) : Int32).toInt = (v3.toInt + 1) := e8; omega)
        · skip
          rw [lg_cmp_eq] at c6
          have d9 : ((((JM (v0 + 2) (Int32.toNatClampNeg v3)) : Int64).toInt) : Int) = ((v1 : Int64).toInt) := cl_eq rfl rfl c6
          exact hQ _ _ _ _ hB hk_7_1
  refine sg_X0_manNamed_0 hc _ _ _ _ _ ?_
  exact (L 1000000) _ _ _ hB0 rfl (by have q0 : (0 : Int32).toInt = 0 := rfl; omega) (by have q0 : (0 : Int32).toInt = 0 := rfl; omega)
set_option maxHeartbeats 2000000 in
theorem sp_X0_pieces {d : Nat} {Q : Qt} {v0 : Nat} {I : Im} {J : Jm} {R : Rm} (hB0 : Bd I) (hR0 : RI R) (ho0 : isO 112 v0 0 = true) (hQ : ∀ (x : Int32) (y : Int64) (I2 : Im) (J2 : Jm), Bd I2 → (True) → Q x y I2 J2 R) : AM (d + 1) 6 112 [.ref v0] I J R Q := by
  refine am_X0_pieces (fun P hc => ?_)
  have L : ∀ n : Nat, (∀ (v1 : Int32) (v2 : Int32) (M : Im) (JM : Jm), Bd M → (1 ≤ v2.toInt ∧ v2.toInt ≤ 31) → 31 - v2.toInt < (n : Int) → P 4 112 [(0, .ref v0), (1, .int v1), (2, .int v2)] [] M JM R) := by
    intro n
    induction n with
    | zero =>
      exact fun v1 v2 M J _ hi hm => absurd hm (by omega)
    | succ n ih =>
      intro v1 v2 M JM hB hi hm
      have i_v1 := i32 v1
      have i_v2 := i32 v2
      refine sg_X0_pieces_4 hc _ _ _ _ _ _ ?_
      refine ⟨fun c1 => ?_, fun c1 => ?_⟩
      · skip
        have d2 : ((30) : Int) < (v2.toInt) := ci_lt rfl rfl c1
        exact hQ _ _ _ _ hB trivial
      · skip
        have d3 : ((v2.toInt) : Int) ≤ (30) := ci_nlt rfl rfl c1
        refine bif_t ho0 ?_
        refine bif_t (fa_0_0 ho0).1 ?_
        refine ⟨by rw [(fa_0_0 ho0).2.1]; exact vp_of (a := v2.toInt) rfl (by omega) (by omega), ?_⟩
        have e4 : ((v2 + 1) : Int32).toInt = (v2.toInt) + (1) := ti_add rfl rfl (by omega)
        exact ih _ _ _ _ hB (by have q0 : ((v2 + 1) : Int32).toInt = (v2.toInt + 1) := e4; omega) (by have q0 : ((v2 + 1) : Int32).toInt = (v2.toInt + 1) := e4; omega)
  refine sg_X0_pieces_0 hc _ _ _ _ ?_
  exact (L 1000000) _ _ _ _ hB0 (by have q0 : (1 : Int32).toInt = 1 := rfl; omega) (by have q0 : (1 : Int32).toInt = 1 := rfl; omega)
set_option maxHeartbeats 2000000 in
theorem sp_X0_stockSet {d : Nat} {Q : Qt} {v0 : Nat} {I : Im} {J : Jm} {R : Rm} (hB0 : Bd I) (hR0 : RI R) (ho0 : isO 112 v0 0 = true) (hQ : ∀ (x : Int32) (y : Int64) (I2 : Im) (J2 : Jm), Bd I2 → (True) → Q x y I2 J2 R) : AM (d + 2) 7 112 [.ref v0] I J R Q := by
  refine am_X0_stockSet (fun P hc => ?_)
  have L : ∀ n : Nat, (∀ (v1 : Int32) (v2 : Int32) (M : Im) (JM : Jm), Bd M → (1 ≤ v2.toInt ∧ v2.toInt ≤ 31) → 31 - v2.toInt < (n : Int) → P 4 112 [(0, .ref v0), (1, .int v1), (2, .int v2)] [] M JM R) := by
    intro n
    induction n with
    | zero =>
      exact fun v1 v2 M J _ hi hm => absurd hm (by omega)
    | succ n ih =>
      intro v1 v2 M JM hB hi hm
      have i_v1 := i32 v1
      have i_v2 := i32 v2
      refine sg_X0_stockSet_4 hc _ _ _ _ _ _ ?_
      refine ⟨fun c1 => ?_, fun c1 => ?_⟩
      · skip
        have d2 : ((30) : Int) < (v2.toInt) := ci_lt rfl rfl c1
        exact hQ _ _ _ _ hB trivial
      · skip
        have d3 : ((v2.toInt) : Int) ≤ (30) := ci_nlt rfl rfl c1
        refine bif_t ho0 ?_
        refine bif_t (fa_0_0 ho0).1 ?_
        refine ⟨by rw [(fa_0_0 ho0).2.1]; exact vp_of (a := v2.toInt) rfl (by omega) (by omega), ?_⟩
        refine ⟨fun c4 => ?_, fun c4 => ?_⟩
        · skip
          have d5 : (((M (v0 + 1) (Int32.toNatClampNeg v2)).toInt) : Int) ≤ (0) := ci_le rfl rfl c4
          have e6 : ((v2 + 1) : Int32).toInt = (v2.toInt) + (1) := ti_add rfl rfl (by omega)
          exact ih _ _ _ _ hB (by have q0 : ((v2 + 1) : Int32).toInt = (v2.toInt + 1) := e6; omega) (by have q0 : ((v2 + 1) : Int32).toInt = (v2.toInt + 1) := e6; omega)
        · skip
          have d7 : ((0) : Int) < ((M (v0 + 1) (Int32.toNatClampNeg v2)).toInt) := ci_nle rfl rfl c4
          refine w_X11_bit ?_
          have e8 : ((v2 + 1) : Int32).toInt = (v2.toInt) + (1) := ti_add rfl rfl (by omega)
          exact ih _ _ _ _ hB (by have q0 : ((v2 + 1) : Int32).toInt = (v2.toInt + 1) := e8; omega) (by have q0 : ((v2 + 1) : Int32).toInt = (v2.toInt + 1) := e8; omega)
  refine sg_X0_stockSet_0 hc _ _ _ _ ?_
  exact (L 1000000) _ _ _ _ hB0 (by have q0 : (1 : Int32).toInt = 1 := rfl; omega) (by have q0 : (1 : Int32).toInt = 1 := rfl; omega)
set_option maxHeartbeats 2000000 in
theorem sp_X0_stockCrumbs {d : Nat} {Q : Qt} {v0 : Nat} {I : Im} {J : Jm} {R : Rm} (hB0 : Bd I) (hR0 : RI R) (ho0 : isO 112 v0 0 = true) (hQ : ∀ (x : Int32) (y : Int64) (I2 : Im) (J2 : Jm), Bd I2 → (True) → Q x y I2 J2 R) : AM (d + 2) 8 112 [.ref v0] I J R Q := by
  refine am_X0_stockCrumbs (fun P hc => ?_)
  have L : ∀ n : Nat, (∀ (v1 : Int64) (v3 : Int32) (M : Im) (JM : Jm), Bd M → (1 ≤ v3.toInt ∧ v3.toInt ≤ 31) → 31 - v3.toInt < (n : Int) → P 4 112 [(0, .ref v0), (1, .long v1), (3, .int v3)] [] M JM R) := by
    intro n
    induction n with
    | zero =>
      exact fun v1 v3 M J _ hi hm => absurd hm (by omega)
    | succ n ih =>
      intro v1 v3 M JM hB hi hm
      have i_v1 := i64 v1
      have i_v3 := i32 v3
      refine sg_X0_stockCrumbs_4 hc _ _ _ _ _ _ ?_
      refine ⟨fun c1 => ?_, fun c1 => ?_⟩
      · skip
        have d2 : ((30) : Int) < (v3.toInt) := ci_lt rfl rfl c1
        exact hQ _ _ _ _ hB trivial
      · skip
        have d3 : ((v3.toInt) : Int) ≤ (30) := ci_nlt rfl rfl c1
        refine bif_t ho0 ?_
        refine bif_t (fa_0_0 ho0).1 ?_
        refine ⟨by rw [(fa_0_0 ho0).2.1]; exact vp_of (a := v3.toInt) rfl (by omega) (by omega), ?_⟩
        refine w_X11_crumbs ?_
        refine ⟨fun c4 => ?_, fun c4 => ?_⟩
        · skip
          have d5 : ((1) : Int) ≤ (v3.toInt) := ci_le rfl rfl c4
          refine ⟨(fun z => by have z2 : (v3.toInt : Int) = 0 := cl_eq (tl_i2l rfl) rfl z; omega), ?_⟩
          have e6 : ((v3 + 1) : Int32).toInt = (v3.toInt) + (1) := ti_add rfl rfl (by omega)
          exact ih _ _ _ _ hB (by have q0 : ((v3 + 1) : Int32).toInt = (v3.toInt + 1) := e6; omega) (by have q0 : ((v3 + 1) : Int32).toInt = (v3.toInt + 1) := e6; omega)
        · skip
          have d7 : ((v3.toInt) : Int) < (1) := ci_nle rfl rfl c4
          have e8 : ((v3 + 1) : Int32).toInt = (v3.toInt) + (1) := ti_add rfl rfl (by omega)
          exact ih _ _ _ _ hB (by have q0 : ((v3 + 1) : Int32).toInt = (v3.toInt + 1) := e8; omega) (by have q0 : ((v3 + 1) : Int32).toInt = (v3.toInt + 1) := e8; omega)
  refine sg_X0_stockCrumbs_0 hc _ _ _ _ ?_
  exact (L 1000000) _ _ _ _ hB0 (by have q0 : (1 : Int32).toInt = 1 := rfl; omega) (by have q0 : (1 : Int32).toInt = 1 := rfl; omega)
set_option maxHeartbeats 2000000 in
theorem sp_X0_holding {d : Nat} {Q : Qt} {v0 : Nat} {v1 : Int32} {I : Im} {J : Jm} {R : Rm} (hB0 : Bd I) (hR0 : RI R) (ho0 : isO 112 v0 0 = true) (hv1 : 0 ≤ v1.toInt ∧ v1.toInt ≤ 5) (hQ : ∀ (x : Int32) (y : Int64) (I2 : Im) (J2 : Jm), Bd I2 → (True) → Q x y I2 J2 R) : AM (d + 2) 9 112 [.ref v0, .int v1] I J R Q := by
  have i_v1 := i32 v1
  refine am_X0_holding (fun P hc => ?_)
  have L : ∀ n : Nat, (∀ (v2 : Int64) (v4 : Int32) (M : Im) (JM : Jm), Bd M → (0 ≤ v1.toInt ∧ v1.toInt ≤ 5 ∧ 1 ≤ v4.toInt ∧ v4.toInt ≤ 31) → 31 - v4.toInt < (n : Int) → P 5 112 [(0, .ref v0), (1, .int v1), (2, .long v2), (4, .int v4)] [] M JM R) := by
    intro n
    induction n with
    | zero =>
      exact fun v2 v4 M J _ hi hm => absurd hm (by omega)
    | succ n ih =>
      intro v2 v4 M JM hB hi hm
      have i_v1 := i32 v1
      have i_v2 := i64 v2
      have i_v4 := i32 v4
      refine sg_X0_holding_5 hc _ _ _ _ _ _ _ ?_
      refine ⟨fun c1 => ?_, fun c1 => ?_⟩
      · skip
        have d2 : ((30) : Int) < (v4.toInt) := ci_lt rfl rfl c1
        exact hQ _ _ _ _ hB trivial
      · skip
        have d3 : ((v4.toInt) : Int) ≤ (30) := ci_nlt rfl rfl c1
        refine bif_t ho0 ?_
        refine bif_t (fa_0_8 ho0).1 ?_
        refine ⟨by rw [(fa_0_8 ho0).2.1]; exact vp_of (a := v1.toInt) rfl (by omega) (by omega), ?_⟩
        refine w_X11_isIn ?_
        refine ⟨fun c4 => ?_, fun c4 => ?_⟩
        · skip
          have d5 : (((((M (v0 + 5) (Int32.toNatClampNeg v1)) &&& (1 <<< ((v4 - 1) &&& 31))) : Int32).toInt) : Int) = (0) := ci_eq rfl rfl c4
          refine ⟨Or.inl rfl, ?_⟩
          intro o6
          refine ⟨fun c7 => ?_, fun c7 => ?_⟩
          · skip
            have e8 : ((v4 + 1) : Int32).toInt = (v4.toInt) + (1) := ti_add rfl rfl (by omega)
            exact ih _ _ _ _ hB (by have q0 : ((v4 + 1) : Int32).toInt = (v4.toInt + 1) := e8; omega) (by have q0 : ((v4 + 1) : Int32).toInt = (v4.toInt + 1) := e8; omega)
          · exact absurd c7 (by decide)
        · skip
          have d9 : ¬ (((((M (v0 + 5) (Int32.toNatClampNeg v1)) &&& (1 <<< ((v4 - 1) &&& 31))) : Int32).toInt) : Int) = (0) := ci_ne rfl rfl c4
          refine ⟨Or.inr rfl, ?_⟩
          intro o10
          refine ⟨fun c11 => ?_, fun c11 => ?_⟩
          · exact absurd c11 (by decide)
          · skip
            refine w_X11_crumbs ?_
            refine ⟨fun c12 => ?_, fun c12 => ?_⟩
            · skip
              have d13 : ((1) : Int) ≤ (v4.toInt) := ci_le rfl rfl c12
              refine ⟨(fun z => by have z2 : (v4.toInt : Int) = 0 := cl_eq (tl_i2l rfl) rfl z; omega), ?_⟩
              have e14 : ((v4 + 1) : Int32).toInt = (v4.toInt) + (1) := ti_add rfl rfl (by omega)
              exact ih _ _ _ _ hB (by have q0 : ((v4 + 1) : Int32).toInt = (v4.toInt + 1) := e14; omega) (by have q0 : ((v4 + 1) : Int32).toInt = (v4.toInt + 1) := e14; omega)
            · skip
              have d15 : ((v4.toInt) : Int) < (1) := ci_nle rfl rfl c12
              have e16 : ((v4 + 1) : Int32).toInt = (v4.toInt) + (1) := ti_add rfl rfl (by omega)
              exact ih _ _ _ _ hB (by have q0 : ((v4 + 1) : Int32).toInt = (v4.toInt + 1) := e16; omega) (by have q0 : ((v4 + 1) : Int32).toInt = (v4.toInt + 1) := e16; omega)
  refine sg_X0_holding_0 hc _ _ _ _ _ ?_
  exact (L 1000000) _ _ _ _ hB0 (by have q0 : (1 : Int32).toInt = 1 := rfl; omega) (by have q0 : (1 : Int32).toInt = 1 := rfl; omega)
set_option maxHeartbeats 2000000 in
theorem sp_X0_lacking {d : Nat} {Q : Qt} {v0 : Nat} {v1 : Int32} {I : Im} {J : Jm} {R : Rm} (hB0 : Bd I) (hR0 : RI R) (ho0 : isO 112 v0 0 = true) (hv1 : 0 ≤ v1.toInt ∧ v1.toInt ≤ 5) (hQ : ∀ (x : Int32) (y : Int64) (I2 : Im) (J2 : Jm), Bd I2 → (True) → Q x y I2 J2 R) : AM (d + 3) 11 112 [.ref v0, .int v1] I J R Q := by
  have i_v1 := i32 v1
  refine w_X0_lacking ?_
  refine bif_t ho0 ?_
  refine bif_t (fa_0_6 ho0).1 ?_
  refine ⟨by rw [(fa_0_6 ho0).2.1]; exact vp_of (a := v1.toInt) rfl (by omega) (by omega), ?_⟩
  refine bif_t ho0 ?_
  refine bif_t (fa_0_7 ho0).1 ?_
  refine ⟨by rw [(fa_0_7 ho0).2.1]; exact vp_of (a := v1.toInt) rfl (by omega) (by omega), ?_⟩
  refine w_X11_crumbs ?_
  refine ⟨fun c1 => ?_, fun c1 => ?_⟩
  · skip
    have d2 : ((1) : Int) ≤ ((I (v0 + 4) (Int32.toNatClampNeg v1)).toInt) := ci_le rfl rfl c1
    have i3 := i32 ((I (v0 + 4) (Int32.toNatClampNeg v1)))
    refine ⟨(fun z => by have z2 : ((I (v0 + 4) (Int32.toNatClampNeg v1)).toInt : Int) = 0 := cl_eq (tl_i2l rfl) rfl z; omega), ?_⟩
    refine bif_t ho0 ?_
    refine sp_X0_holding hB0 hR0 ho0 (by have z : (v1 : Int32).toInt = v1.toInt := rfl; omega) (fun x4 y9 I5 J6 hB7 p8 => ?_)
    exact hQ _ _ _ _ hB7 trivial
  · skip
    have d10 : (((I (v0 + 4) (Int32.toNatClampNeg v1)).toInt) : Int) < (1) := ci_nle rfl rfl c1
    refine bif_t ho0 ?_
    refine sp_X0_holding hB0 hR0 ho0 (by have z : (v1 : Int32).toInt = v1.toInt := rfl; omega) (fun x11 y16 I12 J13 hB14 p15 => ?_)
    exact hQ _ _ _ _ hB14 trivial
set_option maxHeartbeats 2000000 in
theorem sp_X0_allHoldings {d : Nat} {Q : Qt} {v0 : Nat} {I : Im} {J : Jm} {R : Rm} (hB0 : Bd I) (hR0 : RI R) (ho0 : isO 112 v0 0 = true) (hQ : ∀ (x : Int32) (y : Int64) (I2 : Im) (J2 : Jm), Bd I2 → (True) → Q x y I2 J2 R) : AM (d + 3) 10 112 [.ref v0] I J R Q := by
  refine am_X0_allHoldings (fun P hc => ?_)
  have L : ∀ n : Nat, (∀ (v1 : Int64) (v3 : Int32) (M : Im) (JM : Jm), Bd M → (0 ≤ v3.toInt ∧ v3.toInt ≤ 6) → 6 - v3.toInt < (n : Int) → P 4 112 [(0, .ref v0), (1, .long v1), (3, .int v3)] [] M JM R) := by
    intro n
    induction n with
    | zero =>
      exact fun v1 v3 M J _ hi hm => absurd hm (by omega)
    | succ n ih =>
      intro v1 v3 M JM hB hi hm
      have i_v1 := i64 v1
      have i_v3 := i32 v3
      refine sg_X0_allHoldings_4 hc _ _ _ _ _ _ ?_
      refine bif_t ho0 ?_
      refine ⟨fun c1 => ?_, fun c1 => ?_⟩
      · skip
        have b2 := Bd.o hB ho0 bd9_0_4
        have d3 : (((M v0 4).toInt) : Int) ≤ (v3.toInt) := ci_le rfl rfl c1
        exact hQ _ _ _ _ hB trivial
      · skip
        have b4 := Bd.o hB ho0 bd9_0_4
        have d5 : ((v3.toInt) : Int) < ((M v0 4).toInt) := ci_nle rfl rfl c1
        refine bif_t ho0 ?_
        refine sp_X0_holding hB hR0 ho0 (by have z : (v3 : Int32).toInt = v3.toInt := rfl; omega) (fun x6 y11 I7 J8 hB9 p10 => ?_)
        have e12 : ((v3 + 1) : Int32).toInt = (v3.toInt) + (1) := ti_add rfl rfl (by omega)
        exact ih _ _ _ _ hB9 (by have q0 : ((v3 + 1) : Int32).toInt = (v3.toInt + 1) := e12; omega) (by have q0 : ((v3 + 1) : Int32).toInt = (v3.toInt + 1) := e12; omega)
  refine sg_X0_allHoldings_0 hc _ _ _ _ ?_
  exact (L 1000000) _ _ _ _ hB0 (by have q0 : (0 : Int32).toInt = 0 := rfl; omega) (by have q0 : (0 : Int32).toInt = 0 := rfl; omega)
set_option maxHeartbeats 2000000 in
theorem sp_X0_evenMen {d : Nat} {Q : Qt} {v0 : Nat} {I : Im} {J : Jm} {R : Rm} (hB0 : Bd I) (hR0 : RI R) (ho0 : isO 112 v0 0 = true) (hQ : ∀ (x : Int32) (y : Int64) (I2 : Im) (J2 : Jm), Bd I2 → (True) → Q x y I2 J2 R) : AM (d + 4) 12 112 [.ref v0] I J R Q := by
  refine am_X0_evenMen (fun P hc => ?_)
  have L : ∀ n : Nat, (∀ (v1 : Int32) (v2 : Int32) (M : Im) (JM : Jm), Bd M → (0 ≤ v2.toInt ∧ v2.toInt ≤ 6) → 6 - v2.toInt < (n : Int) → P 4 112 [(0, .ref v0), (1, .int v1), (2, .int v2)] [] M JM R) := by
    intro n
    induction n with
    | zero =>
      exact fun v1 v2 M J _ hi hm => absurd hm (by omega)
    | succ n ih =>
      intro v1 v2 M JM hB hi hm
      have i_v1 := i32 v1
      have i_v2 := i32 v2
      refine sg_X0_evenMen_4 hc _ _ _ _ _ _ ?_
      refine bif_t ho0 ?_
      refine ⟨fun c1 => ?_, fun c1 => ?_⟩
      · skip
        have b2 := Bd.o hB ho0 bd9_0_4
        have d3 : (((M v0 4).toInt) : Int) ≤ (v2.toInt) := ci_le rfl rfl c1
        exact hQ _ _ _ _ hB trivial
      · skip
        have b4 := Bd.o hB ho0 bd9_0_4
        have d5 : ((v2.toInt) : Int) < ((M v0 4).toInt) := ci_nle rfl rfl c1
        refine bif_t ho0 ?_
        refine sp_X0_lacking hB hR0 ho0 (by have z : (v2 : Int32).toInt = v2.toInt := rfl; omega) (fun x6 y11 I7 J8 hB9 p10 => ?_)
        refine ⟨fun c12 => ?_, fun c12 => ?_⟩
        · skip
          rw [lg_cmp_eq] at c12
          have d13 : ¬ (((y11 : Int64).toInt) : Int) = (0) := cl_ne rfl rfl c12
          have e14 : ((v2 + 1) : Int32).toInt = (v2.toInt) + (1) := ti_add rfl rfl (by omega)
          exact ih _ _ _ _ hB9 (by have q0 : ((v2 + 1) : Int32).toInt = (v2.toInt + 1) := e14; omega) (by have q0 : ((v2 + 1) : Int32).toInt = (v2.toInt + 1) := e14; omega)
        · skip
          rw [lg_cmp_eq] at c12
          have d15 : (((y11 : Int64).toInt) : Int) = (0) := cl_eq rfl rfl c12
          have e16 : ((v2 + 1) : Int32).toInt = (v2.toInt) + (1) := ti_add rfl rfl (by omega)
          exact ih _ _ _ _ hB9 (by have q0 : ((v2 + 1) : Int32).toInt = (v2.toInt + 1) := e16; omega) (by have q0 : ((v2 + 1) : Int32).toInt = (v2.toInt + 1) := e16; omega)
  refine sg_X0_evenMen_0 hc _ _ _ _ ?_
  exact (L 1000000) _ _ _ _ hB0 (by have q0 : (0 : Int32).toInt = 0 := rfl; omega) (by have q0 : (0 : Int32).toInt = 0 := rfl; omega)
set_option maxHeartbeats 2000000 in
theorem sp_X0_giftsFor {d : Nat} {Q : Qt} {v0 : Nat} {v1 : Int32} {I : Im} {J : Jm} {R : Rm} (hB0 : Bd I) (hR0 : RI R) (ho0 : isO 112 v0 0 = true) (hv1 : 0 ≤ v1.toInt ∧ v1.toInt ≤ 5) (hQ : ∀ (x : Int32) (y : Int64) (I2 : Im) (J2 : Jm), Bd I2 → (True) → Q x y I2 J2 R) : AM (d + 3) 13 112 [.ref v0, .int v1] I J R Q := by
  have i_v1 := i32 v1
  refine w_X0_giftsFor ?_
  refine bif_t ho0 ?_
  refine sp_X0_stockSet hB0 hR0 ho0 (fun x1 y6 I2 J3 hB4 p5 => ?_)
  have i7 := i32 x1
  refine bif_t ho0 ?_
  refine bif_t (fa_0_8 ho0).1 ?_
  refine ⟨by rw [(fa_0_8 ho0).2.1]; exact vp_of (a := v1.toInt) rfl (by omega) (by omega), ?_⟩
  exact hQ _ _ _ _ hB4 trivial
set_option maxHeartbeats 2000000 in
theorem sp_X0_forget {d : Nat} {Q : Qt} {v0 : Nat} {I : Im} {J : Jm} {R : Rm} (hB0 : Bd I) (hR0 : RI R) (ho0 : isO 112 v0 0 = true) (hQ : ∀ (x : Int32) (y : Int64) (I2 : Im) (J2 : Jm), Bd I2 → (True) → Q x y I2 J2 R) : AM (d + 2) 1 112 [.ref v0] I J R Q := by
  refine w_X0_forget ?_
  refine bif_t ho0 ?_
  refine sp_J7_fill_53178 hB0 hR0 (fa_0_0 ho0).1 (fa_0_0 ho0).2.2 (fun x1 y6 I2 J3 hB4 p5 => ?_)
  refine bif_t ho0 ?_
  have hB7 : Bd (uI I2 v0 1 4) := Bd.o0 hB4 ho0 (by omega) bd9_0_1
  refine bif_t ho0 ?_
  have hB8 : Bd (uI (uI I2 v0 1 4) v0 2 1073741823) := Bd.o0 hB7 ho0 (by omega) bd9_0_2
  refine bif_t ho0 ?_
  have hB9 : Bd (uI (uI (uI I2 v0 1 4) v0 2 1073741823) v0 3 0) := Bd.o0 hB8 ho0 (by omega) bd9_0_3
  refine bif_t ho0 ?_
  have hB10 : Bd (uI (uI (uI (uI I2 v0 1 4) v0 2 1073741823) v0 3 0) v0 4 0) := Bd.o1 hB9 ho0 (by omega) bd9_0_4 (show (0 : Int32).toInt = 0 from rfl) (by omega)
  exact hQ _ _ _ _ hB10 trivial
set_option maxHeartbeats 2000000 in
theorem sp_X0_copyFrom {d : Nat} {Q : Qt} {v0 : Nat} {v1 : Nat} {I : Im} {J : Jm} {R : Rm} (hB0 : Bd I) (hR0 : RI R) (ho0 : isO 112 v0 0 = true) (ho1 : isO 112 v1 0 = true) (hQ : ∀ (x : Int32) (y : Int64) (I2 : Im) (J2 : Jm), Bd I2 → (I2 1 13 = I 1 13) → Q x y I2 J2 R) : AM (d + 1) 2 112 [.ref v0, .ref v1] I J R Q := by
  refine w_X0_copyFrom ?_
  refine bif_t ho1 ?_
  refine bif_t ho0 ?_
  refine bif_t ho0 ?_
  refine bif_e (fa_0_0 ho0).1 ?_
  rw [(fa_0_0 ho0).2.1]
  refine bif_t2 (fa_0_0 ho1).1 (fa_0_0 ho0).1 ?_
  refine ⟨⟨(fun z => by have z2 : (0 : Int) < 0 := ci_lt rfl rfl z; omega), (fun z => by have z2 : (0 : Int) < 0 := ci_lt rfl rfl z; omega), (fun z => by have z2 : (31 : Int) < 0 := ci_lt rfl rfl z; omega), (by (try rw [(fa_0_0 ho1).2.1]); have z1 := tn_of (show ((Int32.ofNat 31) : Int32).toInt = 31 from rfl) (by omega); have z2 := tn_of (show (0 : Int32).toInt = 0 from rfl) (by omega); omega), (by (try rw [(fa_0_0 ho0).2.1]); have z1 := tn_of (show ((Int32.ofNat 31) : Int32).toInt = 31 from rfl) (by omega); have z2 := tn_of (show (0 : Int32).toInt = 0 from rfl) (by omega); omega)⟩, ?_⟩
  have hB1 : Bd (cI I (v1 + 1) (v0 + 1) (Int32.toNatClampNeg 0) (Int32.toNatClampNeg 0) (Int32.toNatClampNeg (Int32.ofNat 31))) := Bd.cp hB0 (fa_0_0 ho0).1 (fa_0_0 ho0).2.2
  refine bif_t ho1 ?_
  refine bif_t ho0 ?_
  have hB2 : Bd (uI (cI I (v1 + 1) (v0 + 1) (Int32.toNatClampNeg 0) (Int32.toNatClampNeg 0) (Int32.toNatClampNeg (Int32.ofNat 31))) v0 1 ((cI I (v1 + 1) (v0 + 1) (Int32.toNatClampNeg 0) (Int32.toNatClampNeg 0) (Int32.toNatClampNeg (Int32.ofNat 31))) v1 1)) := Bd.o0 hB1 ho0 (by omega) bd9_0_1
  refine bif_t ho1 ?_
  refine bif_t ho0 ?_
  have hB3 : Bd (uI (uI (cI I (v1 + 1) (v0 + 1) (Int32.toNatClampNeg 0) (Int32.toNatClampNeg 0) (Int32.toNatClampNeg (Int32.ofNat 31))) v0 1 ((cI I (v1 + 1) (v0 + 1) (Int32.toNatClampNeg 0) (Int32.toNatClampNeg 0) (Int32.toNatClampNeg (Int32.ofNat 31))) v1 1)) v0 2 ((uI (cI I (v1 + 1) (v0 + 1) (Int32.toNatClampNeg 0) (Int32.toNatClampNeg 0) (Int32.toNatClampNeg (Int32.ofNat 31))) v0 1 ((cI I (v1 + 1) (v0 + 1) (Int32.toNatClampNeg 0) (Int32.toNatClampNeg 0) (Int32.toNatClampNeg (Int32.ofNat 31))) v1 1)) v1 2)) := Bd.o0 hB2 ho0 (by omega) bd9_0_2
  refine bif_t ho1 ?_
  refine bif_t ho0 ?_
  have hB4 : Bd (uI (uI (uI (cI I (v1 + 1) (v0 + 1) (Int32.toNatClampNeg 0) (Int32.toNatClampNeg 0) (Int32.toNatClampNeg (Int32.ofNat 31))) v0 1 ((cI I (v1 + 1) (v0 + 1) (Int32.toNatClampNeg 0) (Int32.toNatClampNeg 0) (Int32.toNatClampNeg (Int32.ofNat 31))) v1 1)) v0 2 ((uI (cI I (v1 + 1) (v0 + 1) (Int32.toNatClampNeg 0) (Int32.toNatClampNeg 0) (Int32.toNatClampNeg (Int32.ofNat 31))) v0 1 ((cI I (v1 + 1) (v0 + 1) (Int32.toNatClampNeg 0) (Int32.toNatClampNeg 0) (Int32.toNatClampNeg (Int32.ofNat 31))) v1 1)) v1 2)) v0 3 ((uI (uI (cI I (v1 + 1) (v0 + 1) (Int32.toNatClampNeg 0) (Int32.toNatClampNeg 0) (Int32.toNatClampNeg (Int32.ofNat 31))) v0 1 ((cI I (v1 + 1) (v0 + 1) (Int32.toNatClampNeg 0) (Int32.toNatClampNeg 0) (Int32.toNatClampNeg (Int32.ofNat 31))) v1 1)) v0 2 ((uI (cI I (v1 + 1) (v0 + 1) (Int32.toNatClampNeg 0) (Int32.toNatClampNeg 0) (Int32.toNatClampNeg (Int32.ofNat 31))) v0 1 ((cI I (v1 + 1) (v0 + 1) (Int32.toNatClampNeg 0) (Int32.toNatClampNeg 0) (Int32.toNatClampNeg (Int32.ofNat 31))) v1 1)) v1 2)) v1 3)) := Bd.o0 hB3 ho0 (by omega) bd9_0_3
  refine bif_t ho1 ?_
  refine bif_t ho0 ?_
  have b6 := Bd.o hB4 ho1 bd9_0_4
  have hB5 : Bd (uI (uI (uI (uI (cI I (v1 + 1) (v0 + 1) (Int32.toNatClampNeg 0) (Int32.toNatClampNeg 0) (Int32.toNatClampNeg (Int32.ofNat 31))) v0 1 ((cI I (v1 + 1) (v0 + 1) (Int32.toNatClampNeg 0) (Int32.toNatClampNeg 0) (Int32.toNatClampNeg (Int32.ofNat 31))) v1 1)) v0 2 ((uI (cI I (v1 + 1) (v0 + 1) (Int32.toNatClampNeg 0) (Int32.toNatClampNeg 0) (Int32.toNatClampNeg (Int32.ofNat 31))) v0 1 ((cI I (v1 + 1) (v0 + 1) (Int32.toNatClampNeg 0) (Int32.toNatClampNeg 0) (Int32.toNatClampNeg (Int32.ofNat 31))) v1 1)) v1 2)) v0 3 ((uI (uI (cI I (v1 + 1) (v0 + 1) (Int32.toNatClampNeg 0) (Int32.toNatClampNeg 0) (Int32.toNatClampNeg (Int32.ofNat 31))) v0 1 ((cI I (v1 + 1) (v0 + 1) (Int32.toNatClampNeg 0) (Int32.toNatClampNeg 0) (Int32.toNatClampNeg (Int32.ofNat 31))) v1 1)) v0 2 ((uI (cI I (v1 + 1) (v0 + 1) (Int32.toNatClampNeg 0) (Int32.toNatClampNeg 0) (Int32.toNatClampNeg (Int32.ofNat 31))) v0 1 ((cI I (v1 + 1) (v0 + 1) (Int32.toNatClampNeg 0) (Int32.toNatClampNeg 0) (Int32.toNatClampNeg (Int32.ofNat 31))) v1 1)) v1 2)) v1 3)) v0 4 ((uI (uI (uI (cI I (v1 + 1) (v0 + 1) (Int32.toNatClampNeg 0) (Int32.toNatClampNeg 0) (Int32.toNatClampNeg (Int32.ofNat 31))) v0 1 ((cI I (v1 + 1) (v0 + 1) (Int32.toNatClampNeg 0) (Int32.toNatClampNeg 0) (Int32.toNatClampNeg (Int32.ofNat 31))) v1 1)) v0 2 ((uI (cI I (v1 + 1) (v0 + 1) (Int32.toNatClampNeg 0) (Int32.toNatClampNeg 0) (Int32.toNatClampNeg (Int32.ofNat 31))) v0 1 ((cI I (v1 + 1) (v0 + 1) (Int32.toNatClampNeg 0) (Int32.toNatClampNeg 0) (Int32.toNatClampNeg (Int32.ofNat 31))) v1 1)) v1 2)) v0 3 ((uI (uI (cI I (v1 + 1) (v0 + 1) (Int32.toNatClampNeg 0) (Int32.toNatClampNeg 0) (Int32.toNatClampNeg (Int32.ofNat 31))) v0 1 ((cI I (v1 + 1) (v0 + 1) (Int32.toNatClampNeg 0) (Int32.toNatClampNeg 0) (Int32.toNatClampNeg (Int32.ofNat 31))) v1 1)) v0 2 ((uI (cI I (v1 + 1) (v0 + 1) (Int32.toNatClampNeg 0) (Int32.toNatClampNeg 0) (Int32.toNatClampNeg (Int32.ofNat 31))) v0 1 ((cI I (v1 + 1) (v0 + 1) (Int32.toNatClampNeg 0) (Int32.toNatClampNeg 0) (Int32.toNatClampNeg (Int32.ofNat 31))) v1 1)) v1 2)) v1 3)) v1 4)) := Bd.o1 hB4 ho0 (by omega) bd9_0_4 (show (((uI (uI (uI (cI I (v1 + 1) (v0 + 1) (Int32.toNatClampNeg 0) (Int32.toNatClampNeg 0) (Int32.toNatClampNeg (Int32.ofNat 31))) v0 1 ((cI I (v1 + 1) (v0 + 1) (Int32.toNatClampNeg 0) (Int32.toNatClampNeg 0) (Int32.toNatClampNeg (Int32.ofNat 31))) v1 1)) v0 2 ((uI (cI I (v1 + 1) (v0 + 1) (Int32.toNatClampNeg 0) (Int32.toNatClampNeg 0) (Int32.toNatClampNeg (Int32.ofNat 31))) v0 1 ((cI I (v1 + 1) (v0 + 1) (Int32.toNatClampNeg 0) (Int32.toNatClampNeg 0) (Int32.toNatClampNeg (Int32.ofNat 31))) v1 1)) v1 2)) v0 3 ((uI (uI (cI I (v1 + 1) (v0 + 1) (Int32.toNatClampNeg 0) (Int32.toNatClampNeg 0) (Int32.toNatClampNeg (Int32.ofNat 31))) v0 1 ((cI I (v1 + 1) (v0 + 1) (Int32.toNatClampNeg 0) (Int32.toNatClampNeg 0) (Int32.toNatClampNeg (Int32.ofNat 31))) v1 1)) v0 2 ((uI (cI I (v1 + 1) (v0 + 1) (Int32.toNatClampNeg 0) (Int32.toNatClampNeg 0) (Int32.toNatClampNeg (Int32.ofNat 31))) v0 1 ((cI I (v1 + 1) (v0 + 1) (Int32.toNatClampNeg 0) (Int32.toNatClampNeg 0) (Int32.toNatClampNeg (Int32.ofNat 31))) v1 1)) v1 2)) v1 3)) v1 4) : Int32).toInt = ((uI (uI (uI (cI I (v1 + 1) (v0 + 1) (Int32.toNatClampNeg 0) (Int32.toNatClampNeg 0) (Int32.toNatClampNeg (Int32.ofNat 31))) v0 1 ((cI I (v1 + 1) (v0 + 1) (Int32.toNatClampNeg 0) (Int32.toNatClampNeg 0) (Int32.toNatClampNeg (Int32.ofNat 31))) v1 1)) v0 2 ((uI (cI I (v1 + 1) (v0 + 1) (Int32.toNatClampNeg 0) (Int32.toNatClampNeg 0) (Int32.toNatClampNeg (Int32.ofNat 31))) v0 1 ((cI I (v1 + 1) (v0 + 1) (Int32.toNatClampNeg 0) (Int32.toNatClampNeg 0) (Int32.toNatClampNeg (Int32.ofNat 31))) v1 1)) v1 2)) v0 3 ((uI (uI (cI I (v1 + 1) (v0 + 1) (Int32.toNatClampNeg 0) (Int32.toNatClampNeg 0) (Int32.toNatClampNeg (Int32.ofNat 31))) v0 1 ((cI I (v1 + 1) (v0 + 1) (Int32.toNatClampNeg 0) (Int32.toNatClampNeg 0) (Int32.toNatClampNeg (Int32.ofNat 31))) v1 1)) v0 2 ((uI (cI I (v1 + 1) (v0 + 1) (Int32.toNatClampNeg 0) (Int32.toNatClampNeg 0) (Int32.toNatClampNeg (Int32.ofNat 31))) v0 1 ((cI I (v1 + 1) (v0 + 1) (Int32.toNatClampNeg 0) (Int32.toNatClampNeg 0) (Int32.toNatClampNeg (Int32.ofNat 31))) v1 1)) v1 2)) v1 3)) v1 4).toInt from rfl) (by omega)
  refine bif_t ho1 ?_
  refine bif_t ho0 ?_
  refine bif_t2 (fa_0_5 ho1).1 (fa_0_5 ho0).1 ?_
  refine ⟨⟨(fun z => by have z2 : (0 : Int) < 0 := ci_lt rfl rfl z; omega), (fun z => by have z2 : (0 : Int) < 0 := ci_lt rfl rfl z; omega), (fun z => by have z2 : (6 : Int) < 0 := ci_lt rfl rfl z; omega), (by (try rw [(fa_0_5 ho1).2.1]); have z1 := tn_of (show (6 : Int32).toInt = 6 from rfl) (by omega); have z2 := tn_of (show (0 : Int32).toInt = 0 from rfl) (by omega); omega), (by (try rw [(fa_0_5 ho0).2.1]); have z1 := tn_of (show (6 : Int32).toInt = 6 from rfl) (by omega); have z2 := tn_of (show (0 : Int32).toInt = 0 from rfl) (by omega); omega)⟩, ?_⟩
  refine bif_t ho1 ?_
  refine bif_t ho0 ?_
  refine bif_t2 (fa_0_6 ho1).1 (fa_0_6 ho0).1 ?_
  refine ⟨⟨(fun z => by have z2 : (0 : Int) < 0 := ci_lt rfl rfl z; omega), (fun z => by have z2 : (0 : Int) < 0 := ci_lt rfl rfl z; omega), (fun z => by have z2 : (6 : Int) < 0 := ci_lt rfl rfl z; omega), (by (try rw [(fa_0_6 ho1).2.1]); have z1 := tn_of (show (6 : Int32).toInt = 6 from rfl) (by omega); have z2 := tn_of (show (0 : Int32).toInt = 0 from rfl) (by omega); omega), (by (try rw [(fa_0_6 ho0).2.1]); have z1 := tn_of (show (6 : Int32).toInt = 6 from rfl) (by omega); have z2 := tn_of (show (0 : Int32).toInt = 0 from rfl) (by omega); omega)⟩, ?_⟩
  have hB7 : Bd (cI (uI (uI (uI (uI (cI I (v1 + 1) (v0 + 1) (Int32.toNatClampNeg 0) (Int32.toNatClampNeg 0) (Int32.toNatClampNeg (Int32.ofNat 31))) v0 1 ((cI I (v1 + 1) (v0 + 1) (Int32.toNatClampNeg 0) (Int32.toNatClampNeg 0) (Int32.toNatClampNeg (Int32.ofNat 31))) v1 1)) v0 2 ((uI (cI I (v1 + 1) (v0 + 1) (Int32.toNatClampNeg 0) (Int32.toNatClampNeg 0) (Int32.toNatClampNeg (Int32.ofNat 31))) v0 1 ((cI I (v1 + 1) (v0 + 1) (Int32.toNatClampNeg 0) (Int32.toNatClampNeg 0) (Int32.toNatClampNeg (Int32.ofNat 31))) v1 1)) v1 2)) v0 3 ((uI (uI (cI I (v1 + 1) (v0 + 1) (Int32.toNatClampNeg 0) (Int32.toNatClampNeg 0) (Int32.toNatClampNeg (Int32.ofNat 31))) v0 1 ((cI I (v1 + 1) (v0 + 1) (Int32.toNatClampNeg 0) (Int32.toNatClampNeg 0) (Int32.toNatClampNeg (Int32.ofNat 31))) v1 1)) v0 2 ((uI (cI I (v1 + 1) (v0 + 1) (Int32.toNatClampNeg 0) (Int32.toNatClampNeg 0) (Int32.toNatClampNeg (Int32.ofNat 31))) v0 1 ((cI I (v1 + 1) (v0 + 1) (Int32.toNatClampNeg 0) (Int32.toNatClampNeg 0) (Int32.toNatClampNeg (Int32.ofNat 31))) v1 1)) v1 2)) v1 3)) v0 4 ((uI (uI (uI (cI I (v1 + 1) (v0 + 1) (Int32.toNatClampNeg 0) (Int32.toNatClampNeg 0) (Int32.toNatClampNeg (Int32.ofNat 31))) v0 1 ((cI I (v1 + 1) (v0 + 1) (Int32.toNatClampNeg 0) (Int32.toNatClampNeg 0) (Int32.toNatClampNeg (Int32.ofNat 31))) v1 1)) v0 2 ((uI (cI I (v1 + 1) (v0 + 1) (Int32.toNatClampNeg 0) (Int32.toNatClampNeg 0) (Int32.toNatClampNeg (Int32.ofNat 31))) v0 1 ((cI I (v1 + 1) (v0 + 1) (Int32.toNatClampNeg 0) (Int32.toNatClampNeg 0) (Int32.toNatClampNeg (Int32.ofNat 31))) v1 1)) v1 2)) v0 3 ((uI (uI (cI I (v1 + 1) (v0 + 1) (Int32.toNatClampNeg 0) (Int32.toNatClampNeg 0) (Int32.toNatClampNeg (Int32.ofNat 31))) v0 1 ((cI I (v1 + 1) (v0 + 1) (Int32.toNatClampNeg 0) (Int32.toNatClampNeg 0) (Int32.toNatClampNeg (Int32.ofNat 31))) v1 1)) v0 2 ((uI (cI I (v1 + 1) (v0 + 1) (Int32.toNatClampNeg 0) (Int32.toNatClampNeg 0) (Int32.toNatClampNeg (Int32.ofNat 31))) v0 1 ((cI I (v1 + 1) (v0 + 1) (Int32.toNatClampNeg 0) (Int32.toNatClampNeg 0) (Int32.toNatClampNeg (Int32.ofNat 31))) v1 1)) v1 2)) v1 3)) v1 4)) (v1 + 3) (v0 + 3) (Int32.toNatClampNeg 0) (Int32.toNatClampNeg 0) (Int32.toNatClampNeg 6)) := Bd.cp hB5 (fa_0_6 ho0).1 (fa_0_6 ho0).2.2
  refine bif_t ho1 ?_
  refine bif_t ho0 ?_
  refine bif_t2 (fa_0_7 ho1).1 (fa_0_7 ho0).1 ?_
  refine ⟨⟨(fun z => by have z2 : (0 : Int) < 0 := ci_lt rfl rfl z; omega), (fun z => by have z2 : (0 : Int) < 0 := ci_lt rfl rfl z; omega), (fun z => by have z2 : (6 : Int) < 0 := ci_lt rfl rfl z; omega), (by (try rw [(fa_0_7 ho1).2.1]); have z1 := tn_of (show (6 : Int32).toInt = 6 from rfl) (by omega); have z2 := tn_of (show (0 : Int32).toInt = 0 from rfl) (by omega); omega), (by (try rw [(fa_0_7 ho0).2.1]); have z1 := tn_of (show (6 : Int32).toInt = 6 from rfl) (by omega); have z2 := tn_of (show (0 : Int32).toInt = 0 from rfl) (by omega); omega)⟩, ?_⟩
  have hB8 : Bd (cI (cI (uI (uI (uI (uI (cI I (v1 + 1) (v0 + 1) (Int32.toNatClampNeg 0) (Int32.toNatClampNeg 0) (Int32.toNatClampNeg (Int32.ofNat 31))) v0 1 ((cI I (v1 + 1) (v0 + 1) (Int32.toNatClampNeg 0) (Int32.toNatClampNeg 0) (Int32.toNatClampNeg (Int32.ofNat 31))) v1 1)) v0 2 ((uI (cI I (v1 + 1) (v0 + 1) (Int32.toNatClampNeg 0) (Int32.toNatClampNeg 0) (Int32.toNatClampNeg (Int32.ofNat 31))) v0 1 ((cI I (v1 + 1) (v0 + 1) (Int32.toNatClampNeg 0) (Int32.toNatClampNeg 0) (Int32.toNatClampNeg (Int32.ofNat 31))) v1 1)) v1 2)) v0 3 ((uI (uI (cI I (v1 + 1) (v0 + 1) (Int32.toNatClampNeg 0) (Int32.toNatClampNeg 0) (Int32.toNatClampNeg (Int32.ofNat 31))) v0 1 ((cI I (v1 + 1) (v0 + 1) (Int32.toNatClampNeg 0) (Int32.toNatClampNeg 0) (Int32.toNatClampNeg (Int32.ofNat 31))) v1 1)) v0 2 ((uI (cI I (v1 + 1) (v0 + 1) (Int32.toNatClampNeg 0) (Int32.toNatClampNeg 0) (Int32.toNatClampNeg (Int32.ofNat 31))) v0 1 ((cI I (v1 + 1) (v0 + 1) (Int32.toNatClampNeg 0) (Int32.toNatClampNeg 0) (Int32.toNatClampNeg (Int32.ofNat 31))) v1 1)) v1 2)) v1 3)) v0 4 ((uI (uI (uI (cI I (v1 + 1) (v0 + 1) (Int32.toNatClampNeg 0) (Int32.toNatClampNeg 0) (Int32.toNatClampNeg (Int32.ofNat 31))) v0 1 ((cI I (v1 + 1) (v0 + 1) (Int32.toNatClampNeg 0) (Int32.toNatClampNeg 0) (Int32.toNatClampNeg (Int32.ofNat 31))) v1 1)) v0 2 ((uI (cI I (v1 + 1) (v0 + 1) (Int32.toNatClampNeg 0) (Int32.toNatClampNeg 0) (Int32.toNatClampNeg (Int32.ofNat 31))) v0 1 ((cI I (v1 + 1) (v0 + 1) (Int32.toNatClampNeg 0) (Int32.toNatClampNeg 0) (Int32.toNatClampNeg (Int32.ofNat 31))) v1 1)) v1 2)) v0 3 ((uI (uI (cI I (v1 + 1) (v0 + 1) (Int32.toNatClampNeg 0) (Int32.toNatClampNeg 0) (Int32.toNatClampNeg (Int32.ofNat 31))) v0 1 ((cI I (v1 + 1) (v0 + 1) (Int32.toNatClampNeg 0) (Int32.toNatClampNeg 0) (Int32.toNatClampNeg (Int32.ofNat 31))) v1 1)) v0 2 ((uI (cI I (v1 + 1) (v0 + 1) (Int32.toNatClampNeg 0) (Int32.toNatClampNeg 0) (Int32.toNatClampNeg (Int32.ofNat 31))) v0 1 ((cI I (v1 + 1) (v0 + 1) (Int32.toNatClampNeg 0) (Int32.toNatClampNeg 0) (Int32.toNatClampNeg (Int32.ofNat 31))) v1 1)) v1 2)) v1 3)) v1 4)) (v1 + 3) (v0 + 3) (Int32.toNatClampNeg 0) (Int32.toNatClampNeg 0) (Int32.toNatClampNeg 6)) (v1 + 4) (v0 + 4) (Int32.toNatClampNeg 0) (Int32.toNatClampNeg 0) (Int32.toNatClampNeg 6)) := Bd.cp hB7 (fa_0_7 ho0).1 (fa_0_7 ho0).2.2
  refine bif_t ho1 ?_
  refine bif_t ho0 ?_
  refine bif_t2 (fa_0_8 ho1).1 (fa_0_8 ho0).1 ?_
  refine ⟨⟨(fun z => by have z2 : (0 : Int) < 0 := ci_lt rfl rfl z; omega), (fun z => by have z2 : (0 : Int) < 0 := ci_lt rfl rfl z; omega), (fun z => by have z2 : (6 : Int) < 0 := ci_lt rfl rfl z; omega), (by (try rw [(fa_0_8 ho1).2.1]); have z1 := tn_of (show (6 : Int32).toInt = 6 from rfl) (by omega); have z2 := tn_of (show (0 : Int32).toInt = 0 from rfl) (by omega); omega), (by (try rw [(fa_0_8 ho0).2.1]); have z1 := tn_of (show (6 : Int32).toInt = 6 from rfl) (by omega); have z2 := tn_of (show (0 : Int32).toInt = 0 from rfl) (by omega); omega)⟩, ?_⟩
  have hB9 : Bd (cI (cI (cI (uI (uI (uI (uI (cI I (v1 + 1) (v0 + 1) (Int32.toNatClampNeg 0) (Int32.toNatClampNeg 0) (Int32.toNatClampNeg (Int32.ofNat 31))) v0 1 ((cI I (v1 + 1) (v0 + 1) (Int32.toNatClampNeg 0) (Int32.toNatClampNeg 0) (Int32.toNatClampNeg (Int32.ofNat 31))) v1 1)) v0 2 ((uI (cI I (v1 + 1) (v0 + 1) (Int32.toNatClampNeg 0) (Int32.toNatClampNeg 0) (Int32.toNatClampNeg (Int32.ofNat 31))) v0 1 ((cI I (v1 + 1) (v0 + 1) (Int32.toNatClampNeg 0) (Int32.toNatClampNeg 0) (Int32.toNatClampNeg (Int32.ofNat 31))) v1 1)) v1 2)) v0 3 ((uI (uI (cI I (v1 + 1) (v0 + 1) (Int32.toNatClampNeg 0) (Int32.toNatClampNeg 0) (Int32.toNatClampNeg (Int32.ofNat 31))) v0 1 ((cI I (v1 + 1) (v0 + 1) (Int32.toNatClampNeg 0) (Int32.toNatClampNeg 0) (Int32.toNatClampNeg (Int32.ofNat 31))) v1 1)) v0 2 ((uI (cI I (v1 + 1) (v0 + 1) (Int32.toNatClampNeg 0) (Int32.toNatClampNeg 0) (Int32.toNatClampNeg (Int32.ofNat 31))) v0 1 ((cI I (v1 + 1) (v0 + 1) (Int32.toNatClampNeg 0) (Int32.toNatClampNeg 0) (Int32.toNatClampNeg (Int32.ofNat 31))) v1 1)) v1 2)) v1 3)) v0 4 ((uI (uI (uI (cI I (v1 + 1) (v0 + 1) (Int32.toNatClampNeg 0) (Int32.toNatClampNeg 0) (Int32.toNatClampNeg (Int32.ofNat 31))) v0 1 ((cI I (v1 + 1) (v0 + 1) (Int32.toNatClampNeg 0) (Int32.toNatClampNeg 0) (Int32.toNatClampNeg (Int32.ofNat 31))) v1 1)) v0 2 ((uI (cI I (v1 + 1) (v0 + 1) (Int32.toNatClampNeg 0) (Int32.toNatClampNeg 0) (Int32.toNatClampNeg (Int32.ofNat 31))) v0 1 ((cI I (v1 + 1) (v0 + 1) (Int32.toNatClampNeg 0) (Int32.toNatClampNeg 0) (Int32.toNatClampNeg (Int32.ofNat 31))) v1 1)) v1 2)) v0 3 ((uI (uI (cI I (v1 + 1) (v0 + 1) (Int32.toNatClampNeg 0) (Int32.toNatClampNeg 0) (Int32.toNatClampNeg (Int32.ofNat 31))) v0 1 ((cI I (v1 + 1) (v0 + 1) (Int32.toNatClampNeg 0) (Int32.toNatClampNeg 0) (Int32.toNatClampNeg (Int32.ofNat 31))) v1 1)) v0 2 ((uI (cI I (v1 + 1) (v0 + 1) (Int32.toNatClampNeg 0) (Int32.toNatClampNeg 0) (Int32.toNatClampNeg (Int32.ofNat 31))) v0 1 ((cI I (v1 + 1) (v0 + 1) (Int32.toNatClampNeg 0) (Int32.toNatClampNeg 0) (Int32.toNatClampNeg (Int32.ofNat 31))) v1 1)) v1 2)) v1 3)) v1 4)) (v1 + 3) (v0 + 3) (Int32.toNatClampNeg 0) (Int32.toNatClampNeg 0) (Int32.toNatClampNeg 6)) (v1 + 4) (v0 + 4) (Int32.toNatClampNeg 0) (Int32.toNatClampNeg 0) (Int32.toNatClampNeg 6)) (v1 + 5) (v0 + 5) (Int32.toNatClampNeg 0) (Int32.toNatClampNeg 0) (Int32.toNatClampNeg 6)) := Bd.cp hB8 (fa_0_8 ho0).1 (fa_0_8 ho0).2.2
  exact hQ _ _ _ _ hB9 (Eq.trans (Eq.trans (Eq.trans (Eq.trans (Eq.trans (Eq.trans (Eq.trans (rd_c (cne (clO io9_112_1_11) (clA (fa_0_8 ho0).1) rfl)) (rd_c (cne (clO io9_112_1_11) (clA (fa_0_7 ho0).1) rfl))) (rd_c (cne (clO io9_112_1_11) (clA (fa_0_6 ho0).1) rfl))) (rd_ne (cne (clO io9_112_1_11) (clO ho0) rfl))) (rd_ne (cne (clO io9_112_1_11) (clO ho0) rfl))) (rd_ne (cne (clO io9_112_1_11) (clO ho0) rfl))) (rd_ne (cne (clO io9_112_1_11) (clO ho0) rfl))) (rd_c (cne (clO io9_112_1_11) (clA (fa_0_0 ho0).1) rfl)))
set_option maxHeartbeats 2000000 in
theorem sp_X0_addMan {d : Nat} {Q : Qt} {v0 : Nat} {v1 : Int64} {v3 : Int32} {v4 : Int32} {I : Im} {J : Jm} {R : Rm} (hB0 : Bd I) (hR0 : RI R) (ho0 : isO 112 v0 0 = true) (hQ : ∀ (x : Int32) (y : Int64) (I2 : Im) (J2 : Jm), Bd I2 → (True) → Q x y I2 J2 R) : AM (d + 1) 4 112 [.ref v0, .long v1, .int v3, .int v4] I J R Q := by
  have i_v1 := i64 v1
  have i_v3 := i32 v3
  have i_v4 := i32 v4
  refine w_X0_addMan ?_
  refine bif_t ho0 ?_
  refine ⟨fun c1 => ?_, fun c1 => ?_⟩
  · skip
    have b2 := Bd.o hB0 ho0 bd9_0_4
    have d3 : (((I v0 4).toInt) : Int) < (6) := ci_lt rfl rfl c1
    refine bif_t ho0 ?_
    refine bif_t ho0 ?_
    refine bif_t (fa_0_5 ho0).1 ?_
    refine ⟨by rw [(fa_0_5 ho0).2.1]; exact vp_of (a := (I v0 4).toInt) rfl (by omega) (by omega), ?_⟩
    refine bif_t ho0 ?_
    refine bif_t ho0 ?_
    refine bif_t (fa_0_6 ho0).1 ?_
    refine ⟨by rw [(fa_0_6 ho0).2.1]; exact vp_of (a := (I v0 4).toInt) rfl (by omega) (by omega), ?_⟩
    have hB4 : Bd (uI I (v0 + 3) (Int32.toNatClampNeg (I v0 4)) v3) := Bd.a0 hB0 (fa_0_6 ho0).1 (fa_0_6 ho0).2.2
    refine bif_t ho0 ?_
    refine bif_t ho0 ?_
    refine bif_t (fa_0_7 ho0).1 ?_
    have e5 : (((uI I (v0 + 3) (Int32.toNatClampNeg (I v0 4)) v3) v0 4) : Int32).toInt = (I v0 4).toInt := Eq.trans (congrArg Int32.toInt (rd_ne (by first | decide | omega))) rfl
    refine ⟨by rw [(fa_0_7 ho0).2.1]; exact vp_of (a := (I v0 4).toInt) e5 (by omega) (by omega), ?_⟩
    have hB6 : Bd (uI (uI I (v0 + 3) (Int32.toNatClampNeg (I v0 4)) v3) (v0 + 4) (Int32.toNatClampNeg ((uI I (v0 + 3) (Int32.toNatClampNeg (I v0 4)) v3) v0 4)) v4) := Bd.a0 hB4 (fa_0_7 ho0).1 (fa_0_7 ho0).2.2
    refine bif_t ho0 ?_
    refine bif_t ho0 ?_
    refine bif_t (fa_0_8 ho0).1 ?_
    have e7 : (((uI (uI I (v0 + 3) (Int32.toNatClampNeg (I v0 4)) v3) (v0 + 4) (Int32.toNatClampNeg ((uI I (v0 + 3) (Int32.toNatClampNeg (I v0 4)) v3) v0 4)) v4) v0 4) : Int32).toInt = (I v0 4).toInt := Eq.trans (congrArg Int32.toInt (Eq.trans (rd_ne (by first | decide | omega)) (rd_ne (by first | decide | omega)))) rfl
    refine ⟨by rw [(fa_0_8 ho0).2.1]; exact vp_of (a := (I v0 4).toInt) e7 (by omega) (by omega), ?_⟩
    have hB8 : Bd (uI (uI (uI I (v0 + 3) (Int32.toNatClampNeg (I v0 4)) v3) (v0 + 4) (Int32.toNatClampNeg ((uI I (v0 + 3) (Int32.toNatClampNeg (I v0 4)) v3) v0 4)) v4) (v0 + 5) (Int32.toNatClampNeg ((uI (uI I (v0 + 3) (Int32.toNatClampNeg (I v0 4)) v3) (v0 + 4) (Int32.toNatClampNeg ((uI I (v0 + 3) (Int32.toNatClampNeg (I v0 4)) v3) v0 4)) v4) v0 4)) 0) := Bd.a0 hB6 (fa_0_8 ho0).1 (fa_0_8 ho0).2.2
    refine bif_t ho0 ?_
    refine bif_t ho0 ?_
    have e10 : (((uI (uI (uI I (v0 + 3) (Int32.toNatClampNeg (I v0 4)) v3) (v0 + 4) (Int32.toNatClampNeg ((uI I (v0 + 3) (Int32.toNatClampNeg (I v0 4)) v3) v0 4)) v4) (v0 + 5) (Int32.toNatClampNeg ((uI (uI I (v0 + 3) (Int32.toNatClampNeg (I v0 4)) v3) (v0 + 4) (Int32.toNatClampNeg ((uI I (v0 + 3) (Int32.toNatClampNeg (I v0 4)) v3) v0 4)) v4) v0 4)) 0) v0 4) : Int32).toInt = (I v0 4).toInt := Eq.trans (congrArg Int32.toInt (Eq.trans (Eq.trans (rd_ne (by first | decide | omega)) (rd_ne (by first | decide | omega))) (rd_ne (by first | decide | omega)))) rfl
    have e11 : ((((uI (uI (uI I (v0 + 3) (Int32.toNatClampNeg (I v0 4)) v3) (v0 + 4) (Int32.toNatClampNeg ((uI I (v0 + 3) (Int32.toNatClampNeg (I v0 4)) v3) v0 4)) v4) (v0 + 5) (Int32.toNatClampNeg ((uI (uI I (v0 + 3) (Int32.toNatClampNeg (I v0 4)) v3) (v0 + 4) (Int32.toNatClampNeg ((uI I (v0 + 3) (Int32.toNatClampNeg (I v0 4)) v3) v0 4)) v4) v0 4)) 0) v0 4) + 1) : Int32).toInt = ((I v0 4).toInt) + (1) := ti_add e10 rfl (by omega)
    have hB9 : Bd (uI (uI (uI (uI I (v0 + 3) (Int32.toNatClampNeg (I v0 4)) v3) (v0 + 4) (Int32.toNatClampNeg ((uI I (v0 + 3) (Int32.toNatClampNeg (I v0 4)) v3) v0 4)) v4) (v0 + 5) (Int32.toNatClampNeg ((uI (uI I (v0 + 3) (Int32.toNatClampNeg (I v0 4)) v3) (v0 + 4) (Int32.toNatClampNeg ((uI I (v0 + 3) (Int32.toNatClampNeg (I v0 4)) v3) v0 4)) v4) v0 4)) 0) v0 4 (((uI (uI (uI I (v0 + 3) (Int32.toNatClampNeg (I v0 4)) v3) (v0 + 4) (Int32.toNatClampNeg ((uI I (v0 + 3) (Int32.toNatClampNeg (I v0 4)) v3) v0 4)) v4) (v0 + 5) (Int32.toNatClampNeg ((uI (uI I (v0 + 3) (Int32.toNatClampNeg (I v0 4)) v3) (v0 + 4) (Int32.toNatClampNeg ((uI I (v0 + 3) (Int32.toNatClampNeg (I v0 4)) v3) v0 4)) v4) v0 4)) 0) v0 4) + 1)) := Bd.o1 hB8 ho0 (by omega) bd9_0_4 (show ((((uI (uI (uI I (v0 + 3) (Int32.toNatClampNeg (I v0 4)) v3) (v0 + 4) (Int32.toNatClampNeg ((uI I (v0 + 3) (Int32.toNatClampNeg (I v0 4)) v3) v0 4)) v4) (v0 + 5) (Int32.toNatClampNeg ((uI (uI I (v0 + 3) (Int32.toNatClampNeg (I v0 4)) v3) (v0 + 4) (Int32.toNatClampNeg ((uI I (v0 + 3) (Int32.toNatClampNeg (I v0 4)) v3) v0 4)) v4) v0 4)) 0) v0 4) + 1) : Int32).toInt = ((I v0 4).toInt + 1) from e11) (by omega)
    refine bif_t ho0 ?_
    exact hQ _ _ _ _ hB9 trivial
  · skip
    have b12 := Bd.o hB0 ho0 bd9_0_4
    have d13 : ((6) : Int) ≤ ((I v0 4).toInt) := ci_nlt rfl rfl c1
    exact hQ _ _ _ _ hB0 trivial
set_option maxHeartbeats 2000000 in
theorem sp_X0_addLoaves {d : Nat} {Q : Qt} {v0 : Nat} {v1 : Int32} {I : Im} {J : Jm} {R : Rm} (hB0 : Bd I) (hR0 : RI R) (ho0 : isO 112 v0 0 = true) (hQ : ∀ (x : Int32) (y : Int64) (I2 : Im) (J2 : Jm), Bd I2 → (True) → Q x y I2 J2 R) : AM (d + 1) 14 112 [.ref v0, .int v1] I J R Q := by
  have i_v1 := i32 v1
  refine w_X0_addLoaves ?_
  refine ⟨fun c1 => ?_, fun c1 => ?_⟩
  · skip
    have d2 : ((v1.toInt) : Int) < (1) := ci_lt rfl rfl c1
    exact hQ _ _ _ _ hB0 trivial
  · skip
    have d3 : ((1) : Int) ≤ (v1.toInt) := ci_nlt rfl rfl c1
    refine ⟨fun c4 => ?_, fun c4 => ?_⟩
    · skip
      have d5 : ((v1.toInt) : Int) ≤ (99) := ci_le rfl rfl c4
      refine bif_t ho0 ?_
      refine bif_t (fa_0_0 ho0).1 ?_
      refine ⟨by rw [(fa_0_0 ho0).2.1]; exact vp_of (a := 1) rfl (by omega) (by omega), ?_⟩
      refine ⟨fun c6 => ?_, fun c6 => ?_⟩
      · skip
        have d7 : (((((I (v0 + 1) (Int32.toNatClampNeg 1)) + v1) : Int32).toInt) : Int) ≤ (99) := ci_le rfl rfl c6
        refine bif_t ho0 ?_
        refine bif_t (fa_0_0 ho0).1 ?_
        refine ⟨by rw [(fa_0_0 ho0).2.1]; exact vp_of (a := 1) rfl (by omega) (by omega), ?_⟩
        refine bif_t (fa_0_0 ho0).1 ?_
        refine ⟨by rw [(fa_0_0 ho0).2.1]; exact vp_of (a := 1) rfl (by omega) (by omega), ?_⟩
        have hB8 : Bd (uI I (v0 + 1) (Int32.toNatClampNeg 1) ((I (v0 + 1) (Int32.toNatClampNeg 1)) + v1)) := Bd.a0 hB0 (fa_0_0 ho0).1 (fa_0_0 ho0).2.2
        exact hQ _ _ _ _ hB8 trivial
      · skip
        have d9 : ((99) : Int) < ((((I (v0 + 1) (Int32.toNatClampNeg 1)) + v1) : Int32).toInt) := ci_nle rfl rfl c6
        exact hQ _ _ _ _ hB0 trivial
    · skip
      have d10 : ((99) : Int) < (v1.toInt) := ci_nle rfl rfl c4
      exact hQ _ _ _ _ hB0 trivial
set_option maxHeartbeats 2000000 in
theorem sp_X0_stockAfterCut {d : Nat} {Q : Qt} {v0 : Nat} {v1 : Int32} {v2 : Int32} {v3 : Int32} {v4 : Int32} {I : Im} {J : Jm} {R : Rm} (hB0 : Bd I) (hR0 : RI R) (ho0 : isO 112 v0 0 = true) (hv1 : 0 ≤ v1.toInt ∧ v1.toInt ≤ 30) (hQ : ∀ (x : Int32) (y : Int64) (I2 : Im) (J2 : Jm), Bd I2 → (True) → Q x y I2 J2 R) : AM (d + 1) 16 112 [.ref v0, .int v1, .int v2, .int v3, .int v4] I J R Q := by
  have i_v1 := i32 v1
  have i_v2 := i32 v2
  have i_v3 := i32 v3
  have i_v4 := i32 v4
  refine w_X0_stockAfterCut ?_
  refine bif_t ho0 ?_
  refine bif_t (fa_0_0 ho0).1 ?_
  refine ⟨by rw [(fa_0_0 ho0).2.1]; exact vp_of (a := v1.toInt) rfl (by omega) (by omega), ?_⟩
  refine ⟨fun c1 => ?_, fun c1 => ?_⟩
  · skip
    have d2 : ¬ ((v1.toInt) : Int) = (v2.toInt) := ci_ne rfl rfl c1
    refine ⟨fun c3 => ?_, fun c3 => ?_⟩
    · skip
      have d4 : ¬ ((v1.toInt) : Int) = (v3.toInt) := ci_ne rfl rfl c3
      refine ⟨fun c5 => ?_, fun c5 => ?_⟩
      · skip
        have d6 : ¬ ((v1.toInt) : Int) = (v4.toInt) := ci_ne rfl rfl c5
        exact hQ _ _ _ _ hB0 trivial
      · skip
        have d7 : ((v1.toInt) : Int) = (v4.toInt) := ci_eq rfl rfl c5
        exact hQ _ _ _ _ hB0 trivial
    · skip
      have d8 : ((v1.toInt) : Int) = (v3.toInt) := ci_eq rfl rfl c3
      refine ⟨fun c9 => ?_, fun c9 => ?_⟩
      · skip
        have d10 : ¬ ((v1.toInt) : Int) = (v4.toInt) := ci_ne rfl rfl c9
        exact hQ _ _ _ _ hB0 trivial
      · skip
        have d11 : ((v1.toInt) : Int) = (v4.toInt) := ci_eq rfl rfl c9
        exact hQ _ _ _ _ hB0 trivial
  · skip
    have d12 : ((v1.toInt) : Int) = (v2.toInt) := ci_eq rfl rfl c1
    refine ⟨fun c13 => ?_, fun c13 => ?_⟩
    · skip
      have d14 : ¬ ((v1.toInt) : Int) = (v3.toInt) := ci_ne rfl rfl c13
      refine ⟨fun c15 => ?_, fun c15 => ?_⟩
      · skip
        have d16 : ¬ ((v1.toInt) : Int) = (v4.toInt) := ci_ne rfl rfl c15
        exact hQ _ _ _ _ hB0 trivial
      · skip
        have d17 : ((v1.toInt) : Int) = (v4.toInt) := ci_eq rfl rfl c15
        exact hQ _ _ _ _ hB0 trivial
    · skip
      have d18 : ((v1.toInt) : Int) = (v3.toInt) := ci_eq rfl rfl c13
      refine ⟨fun c19 => ?_, fun c19 => ?_⟩
      · skip
        have d20 : ¬ ((v1.toInt) : Int) = (v4.toInt) := ci_ne rfl rfl c19
        exact hQ _ _ _ _ hB0 trivial
      · skip
        have d21 : ((v1.toInt) : Int) = (v4.toInt) := ci_eq rfl rfl c19
        exact hQ _ _ _ _ hB0 trivial
set_option maxHeartbeats 2000000 in
theorem sp_X0_cutUp {d : Nat} {Q : Qt} {v0 : Nat} {v1 : Int32} {v2 : Int32} {v3 : Int32} {I : Im} {J : Jm} {R : Rm} (hB0 : Bd I) (hR0 : RI R) (ho0 : isO 112 v0 0 = true) (hQ : ∀ (x : Int32) (y : Int64) (I2 : Im) (J2 : Jm), Bd I2 → (True) → Q x y I2 J2 R) : AM (d + 2) 15 112 [.ref v0, .int v1, .int v2, .int v3] I J R Q := by
  have i_v1 := i32 v1
  have i_v2 := i32 v2
  have i_v3 := i32 v3
  refine w_X0_cutUp ?_
  refine w_X11_isSlice ?_
  refine ⟨fun c1 => ?_, fun c1 => ?_⟩
  · skip
    have d2 : ((v1.toInt) : Int) < (1) := ci_lt rfl rfl c1
    refine ⟨Or.inl rfl, ?_⟩
    intro o3
    refine ⟨fun c4 => ?_, fun c4 => ?_⟩
    · skip
      exact hQ _ _ _ _ hB0 trivial
    · exact absurd c4 (by decide)
  · skip
    have d5 : ((1) : Int) ≤ (v1.toInt) := ci_nlt rfl rfl c1
    refine ⟨fun c6 => ?_, fun c6 => ?_⟩
    · skip
      have d7 : ((30) : Int) < (v1.toInt) := ci_lt rfl rfl c6
      refine ⟨Or.inl rfl, ?_⟩
      intro o8
      refine ⟨fun c9 => ?_, fun c9 => ?_⟩
      · skip
        exact hQ _ _ _ _ hB0 trivial
      · exact absurd c9 (by decide)
    · skip
      have d10 : ((v1.toInt) : Int) ≤ (30) := ci_nlt rfl rfl c6
      refine ⟨Or.inr rfl, ?_⟩
      intro o11
      refine ⟨fun c12 => ?_, fun c12 => ?_⟩
      · exact absurd c12 (by decide)
      · skip
        refine w_X11_isSlice ?_
        refine ⟨fun c13 => ?_, fun c13 => ?_⟩
        · skip
          have d14 : ((v2.toInt) : Int) < (1) := ci_lt rfl rfl c13
          refine ⟨Or.inl rfl, ?_⟩
          intro o15
          refine ⟨fun c16 => ?_, fun c16 => ?_⟩
          · skip
            exact hQ _ _ _ _ hB0 trivial
          · exact absurd c16 (by decide)
        · skip
          have d17 : ((1) : Int) ≤ (v2.toInt) := ci_nlt rfl rfl c13
          refine ⟨fun c18 => ?_, fun c18 => ?_⟩
          · skip
            have d19 : ((30) : Int) < (v2.toInt) := ci_lt rfl rfl c18
            refine ⟨Or.inl rfl, ?_⟩
            intro o20
            refine ⟨fun c21 => ?_, fun c21 => ?_⟩
            · skip
              exact hQ _ _ _ _ hB0 trivial
            · exact absurd c21 (by decide)
          · skip
            have d22 : ((v2.toInt) : Int) ≤ (30) := ci_nlt rfl rfl c18
            refine ⟨Or.inr rfl, ?_⟩
            intro o23
            refine ⟨fun c24 => ?_, fun c24 => ?_⟩
            · exact absurd c24 (by decide)
            · skip
              refine w_X11_isSlice ?_
              refine ⟨fun c25 => ?_, fun c25 => ?_⟩
              · skip
                have d26 : ((v3.toInt) : Int) < (1) := ci_lt rfl rfl c25
                refine ⟨Or.inl rfl, ?_⟩
                intro o27
                refine ⟨fun c28 => ?_, fun c28 => ?_⟩
                · exact absurd c28 (by decide)
                · skip
                  exact hQ _ _ _ _ hB0 trivial
              · skip
                have d29 : ((1) : Int) ≤ (v3.toInt) := ci_nlt rfl rfl c25
                refine ⟨fun c30 => ?_, fun c30 => ?_⟩
                · skip
                  have d31 : ((30) : Int) < (v3.toInt) := ci_lt rfl rfl c30
                  refine ⟨Or.inl rfl, ?_⟩
                  intro o32
                  refine ⟨fun c33 => ?_, fun c33 => ?_⟩
                  · exact absurd c33 (by decide)
                  · skip
                    exact hQ _ _ _ _ hB0 trivial
                · skip
                  have d34 : ((v3.toInt) : Int) ≤ (30) := ci_nlt rfl rfl c30
                  refine ⟨Or.inr rfl, ?_⟩
                  intro o35
                  refine ⟨fun c36 => ?_, fun c36 => ?_⟩
                  · skip
                    refine bif_t ho0 ?_
                    refine sp_X0_stockAfterCut hB0 hR0 ho0 (by have z : (v2 : Int32).toInt = v2.toInt := rfl; omega) (fun x37 y42 I38 J39 hB40 p41 => ?_)
                    have i43 := i32 x37
                    refine ⟨fun c44 => ?_, fun c44 => ?_⟩
                    · skip
                      have d45 : ((99) : Int) < (x37.toInt) := ci_lt rfl rfl c44
                      exact hQ _ _ _ _ hB40 trivial
                    · skip
                      have d46 : ((x37.toInt) : Int) ≤ (99) := ci_nlt rfl rfl c44
                      refine bif_t ho0 ?_
                      refine sp_X0_stockAfterCut hB40 hR0 ho0 (by have z : (v3 : Int32).toInt = v3.toInt := rfl; omega) (fun x47 y52 I48 J49 hB50 p51 => ?_)
                      have i53 := i32 x47
                      refine ⟨fun c54 => ?_, fun c54 => ?_⟩
                      · skip
                        have d55 : ((x47.toInt) : Int) ≤ (99) := ci_le rfl rfl c54
                        refine bif_t ho0 ?_
                        refine bif_t (fa_0_0 ho0).1 ?_
                        refine ⟨by rw [(fa_0_0 ho0).2.1]; exact vp_of (a := v1.toInt) rfl (by omega) (by omega), ?_⟩
                        refine ⟨fun c56 => ?_, fun c56 => ?_⟩
                        · skip
                          have d57 : (((I48 (v0 + 1) (Int32.toNatClampNeg v1)).toInt) : Int) < (1) := ci_lt rfl rfl c56
                          exact hQ _ _ _ _ hB50 trivial
                        · skip
                          have d58 : ((1) : Int) ≤ ((I48 (v0 + 1) (Int32.toNatClampNeg v1)).toInt) := ci_nlt rfl rfl c56
                          refine ⟨fun c59 => ?_, fun c59 => ?_⟩
                          · skip
                            have d60 : ((((v2 * v3) : Int32).toInt) : Int) = (((v1 * (v2 + v3)) : Int32).toInt) := ci_eq rfl rfl c59
                            refine bif_t ho0 ?_
                            refine bif_t (fa_0_0 ho0).1 ?_
                            refine ⟨by rw [(fa_0_0 ho0).2.1]; exact vp_of (a := v1.toInt) rfl (by omega) (by omega), ?_⟩
                            refine bif_t (fa_0_0 ho0).1 ?_
                            refine ⟨by rw [(fa_0_0 ho0).2.1]; exact vp_of (a := v1.toInt) rfl (by omega) (by omega), ?_⟩
                            have hB61 : Bd (uI I48 (v0 + 1) (Int32.toNatClampNeg v1) ((I48 (v0 + 1) (Int32.toNatClampNeg v1)) - 1)) := Bd.a0 hB50 (fa_0_0 ho0).1 (fa_0_0 ho0).2.2
                            refine bif_t ho0 ?_
                            refine bif_t (fa_0_0 ho0).1 ?_
                            refine ⟨by rw [(fa_0_0 ho0).2.1]; exact vp_of (a := v2.toInt) rfl (by omega) (by omega), ?_⟩
                            refine bif_t (fa_0_0 ho0).1 ?_
                            refine ⟨by rw [(fa_0_0 ho0).2.1]; exact vp_of (a := v2.toInt) rfl (by omega) (by omega), ?_⟩
                            have hB62 : Bd (uI (uI I48 (v0 + 1) (Int32.toNatClampNeg v1) ((I48 (v0 + 1) (Int32.toNatClampNeg v1)) - 1)) (v0 + 1) (Int32.toNatClampNeg v2) (((uI I48 (v0 + 1) (Int32.toNatClampNeg v1) ((I48 (v0 + 1) (Int32.toNatClampNeg v1)) - 1)) (v0 + 1) (Int32.toNatClampNeg v2)) + 1)) := Bd.a0 hB61 (fa_0_0 ho0).1 (fa_0_0 ho0).2.2
                            refine bif_t ho0 ?_
                            refine bif_t (fa_0_0 ho0).1 ?_
                            refine ⟨by rw [(fa_0_0 ho0).2.1]; exact vp_of (a := v3.toInt) rfl (by omega) (by omega), ?_⟩
                            refine bif_t (fa_0_0 ho0).1 ?_
                            refine ⟨by rw [(fa_0_0 ho0).2.1]; exact vp_of (a := v3.toInt) rfl (by omega) (by omega), ?_⟩
                            have hB63 : Bd (uI (uI (uI I48 (v0 + 1) (Int32.toNatClampNeg v1) ((I48 (v0 + 1) (Int32.toNatClampNeg v1)) - 1)) (v0 + 1) (Int32.toNatClampNeg v2) (((uI I48 (v0 + 1) (Int32.toNatClampNeg v1) ((I48 (v0 + 1) (Int32.toNatClampNeg v1)) - 1)) (v0 + 1) (Int32.toNatClampNeg v2)) + 1)) (v0 + 1) (Int32.toNatClampNeg v3) (((uI (uI I48 (v0 + 1) (Int32.toNatClampNeg v1) ((I48 (v0 + 1) (Int32.toNatClampNeg v1)) - 1)) (v0 + 1) (Int32.toNatClampNeg v2) (((uI I48 (v0 + 1) (Int32.toNatClampNeg v1) ((I48 (v0 + 1) (Int32.toNatClampNeg v1)) - 1)) (v0 + 1) (Int32.toNatClampNeg v2)) + 1)) (v0 + 1) (Int32.toNatClampNeg v3)) + 1)) := Bd.a0 hB62 (fa_0_0 ho0).1 (fa_0_0 ho0).2.2
                            refine bif_t ho0 ?_
                            refine bif_t ho0 ?_
                            have hB64 : Bd (uI (uI (uI (uI I48 (v0 + 1) (Int32.toNatClampNeg v1) ((I48 (v0 + 1) (Int32.toNatClampNeg v1)) - 1)) (v0 + 1) (Int32.toNatClampNeg v2) (((uI I48 (v0 + 1) (Int32.toNatClampNeg v1) ((I48 (v0 + 1) (Int32.toNatClampNeg v1)) - 1)) (v0 + 1) (Int32.toNatClampNeg v2)) + 1)) (v0 + 1) (Int32.toNatClampNeg v3) (((uI (uI I48 (v0 + 1) (Int32.toNatClampNeg v1) ((I48 (v0 + 1) (Int32.toNatClampNeg v1)) - 1)) (v0 + 1) (Int32.toNatClampNeg v2) (((uI I48 (v0 + 1) (Int32.toNatClampNeg v1) ((I48 (v0 + 1) (Int32.toNatClampNeg v1)) - 1)) (v0 + 1) (Int32.toNatClampNeg v2)) + 1)) (v0 + 1) (Int32.toNatClampNeg v3)) + 1)) v0 3 (((uI (uI (uI I48 (v0 + 1) (Int32.toNatClampNeg v1) ((I48 (v0 + 1) (Int32.toNatClampNeg v1)) - 1)) (v0 + 1) (Int32.toNatClampNeg v2) (((uI I48 (v0 + 1) (Int32.toNatClampNeg v1) ((I48 (v0 + 1) (Int32.toNatClampNeg v1)) - 1)) (v0 + 1) (Int32.toNatClampNeg v2)) + 1)) (v0 + 1) (Int32.toNatClampNeg v3) (((uI (uI I48 (v0 + 1) (Int32.toNatClampNeg v1) ((I48 (v0 + 1) (Int32.toNatClampNeg v1)) - 1)) (v0 + 1) (Int32.toNatClampNeg v2) (((uI I48 (v0 + 1) (Int32.toNatClampNeg v1) ((I48 (v0 + 1) (Int32.toNatClampNeg v1)) - 1)) (v0 + 1) (Int32.toNatClampNeg v2)) + 1)) (v0 + 1) (Int32.toNatClampNeg v3)) + 1)) v0 3) + 1)) := Bd.o0 hB63 ho0 (by omega) bd9_0_3
                            exact hQ _ _ _ _ hB64 trivial
                          · skip
                            have d65 : ¬ ((((v2 * v3) : Int32).toInt) : Int) = (((v1 * (v2 + v3)) : Int32).toInt) := ci_ne rfl rfl c59
                            exact hQ _ _ _ _ hB50 trivial
                      · skip
                        have d66 : ((99) : Int) < (x47.toInt) := ci_nle rfl rfl c54
                        exact hQ _ _ _ _ hB50 trivial
                  · exact absurd c36 (by decide)
