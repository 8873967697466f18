set_option maxHeartbeats 2000000 in
theorem sp_X3_readTest {d : Nat} {Q : Qt} {v0 : Nat} {v1 : Nat} {I : Im} {J : Jm} {R : Rm} (hB0 : Bd I) (hR0 : RI R) (ho0 : isO 112 v0 2 = true) (ho1 : isO 112 v1 0 = true) (hQ : ∀ (x : Int32) (y : Int64) (I2 : Im) (J2 : Jm), Bd I2 → (True) → Q x y I2 J2 R) : AM (d + 5) 38 112 [.ref v0, .ref v1, .ref 3] I J R Q := by
  refine am_X3_readTest (fun P hc => ?_)
  have L : ∀ n : Nat, (∀ (v3 : Int32) (M : Im) (JM : Jm), Bd M → (True) → 1 < (n : Int) → P 28 112 [(0, .ref v0), (1, .ref v1), (2, .ref 3), (3, .int v3)] [] M JM R) := by
    intro n
    induction n with
    | zero =>
      exact fun v3 M J _ hi hm => absurd hm (by omega)
    | succ n ih =>
      intro v3 M JM hB hi hm
      have i_v3 := i32 v3
      refine sg_X3_readTest_28 hc _ _ _ _ _ _ ?_
      refine sp_X6_takeAny hB hR0 (fun x1 y6 I2 J3 hB4 p5 => ?_)
      intro o7
      have i8 := i32 x1
      refine ⟨fun c9 => ?_, fun c9 => ?_⟩
      · skip
        have d10 : ¬ ((v3.toInt) : Int) = (17) := ci_ne rfl rfl c9
        refine sp_X3_takeMan hB4 hR0 ho1 (fun x11 y16 I12 J13 hB14 p15 => ?_)
        have i17 := i32 x11
        refine ⟨fun c18 => ?_, fun c18 => ?_⟩
        · skip
          have d19 : ¬ ((x11.toInt) : Int) = ((-1)) := ci_ne rfl rfl c18
          refine ⟨fun c20 => ?_, fun c20 => ?_⟩
          · skip
            have d21 : ¬ ((v3.toInt) : Int) = (16) := ci_ne rfl rfl c20
            refine sp_X6_takeCompares hB14 hR0 (fun x22 y27 I23 J24 hB25 p26 => ?_)
            have i28 := i32 x22
            refine ⟨fun c29 => ?_, fun c29 => ?_⟩
            · skip
              have d30 : ¬ ((x22.toInt) : Int) = ((-1)) := ci_ne rfl rfl c29
              refine sp_X6_takeNumber hB25 hR0 (fun x31 y36 I32 J33 hB34 p35 => ?_)
              have i37 := i32 x31
              refine ⟨fun c38 => ?_, fun c38 => ?_⟩
              · skip
                have d39 : ((x31.toInt) : Int) = ((-1)) := ci_eq rfl rfl c38
                refine ⟨Or.inl rfl, ?_⟩
                exact hQ _ _ _ _ hB34 trivial
              · skip
                have d40 : ¬ ((x31.toInt) : Int) = ((-1)) := ci_ne rfl rfl c38
                refine bif_t ho0 ?_
                refine sp_X2_add hB34 hR0 ho0 (fun x41 y46 I42 J43 hB44 p45 => ?_)
                intro o47
                have i48 := i32 x41
                refine ⟨fun c49 => ?_, fun c49 => ?_⟩
                · skip
                  have d50 : ((x41.toInt) : Int) = (0) := ci_eq rfl rfl c49
                  refine ⟨Or.inl rfl, ?_⟩
                  exact hQ _ _ _ _ hB44 trivial
                · skip
                  have d51 : ¬ ((x41.toInt) : Int) = (0) := ci_ne rfl rfl c49
                  refine ⟨Or.inr rfl, ?_⟩
                  exact hQ _ _ _ _ hB44 trivial
            · skip
              have d52 : ((x22.toInt) : Int) = ((-1)) := ci_eq rfl rfl c29
              refine ⟨fun c53 => ?_, fun c53 => ?_⟩
              · skip
                refine ⟨Or.inl rfl, ?_⟩
                exact hQ _ _ _ _ hB25 trivial
              · exact absurd c53 (by decide)
          · skip
            have d54 : ((v3.toInt) : Int) = (16) := ci_eq rfl rfl c20
            refine bif_t ho0 ?_
            refine sp_X2_add hB14 hR0 ho0 (fun x55 y60 I56 J57 hB58 p59 => ?_)
            intro o61
            have i62 := i32 x55
            refine ⟨o61, ?_⟩
            exact hQ _ _ _ _ hB58 trivial
        · skip
          have d63 : ((x11.toInt) : Int) = ((-1)) := ci_eq rfl rfl c18
          refine ⟨Or.inl rfl, ?_⟩
          exact hQ _ _ _ _ hB14 trivial
      · skip
        have d64 : ((v3.toInt) : Int) = (17) := ci_eq rfl rfl c9
        refine sp_X6_takeNumber hB4 hR0 (fun x65 y70 I66 J67 hB68 p69 => ?_)
        have i71 := i32 x65
        refine ⟨fun c72 => ?_, fun c72 => ?_⟩
        · skip
          have d73 : ¬ ((x65.toInt) : Int) = ((-1)) := ci_ne rfl rfl c72
          refine ⟨fun c74 => ?_, fun c74 => ?_⟩
          · skip
            have d75 : ¬ ((v3.toInt) : Int) = (16) := ci_ne rfl rfl c74
            refine sp_X6_takeCompares hB68 hR0 (fun x76 y81 I77 J78 hB79 p80 => ?_)
            have i82 := i32 x76
            refine ⟨fun c83 => ?_, fun c83 => ?_⟩
            · skip
              have d84 : ¬ ((x76.toInt) : Int) = ((-1)) := ci_ne rfl rfl c83
              refine sp_X6_takeNumber hB79 hR0 (fun x85 y90 I86 J87 hB88 p89 => ?_)
              have i91 := i32 x85
              refine ⟨fun c92 => ?_, fun c92 => ?_⟩
              · skip
                have d93 : ((x85.toInt) : Int) = ((-1)) := ci_eq rfl rfl c92
                refine ⟨Or.inl rfl, ?_⟩
                exact hQ _ _ _ _ hB88 trivial
              · skip
                have d94 : ¬ ((x85.toInt) : Int) = ((-1)) := ci_ne rfl rfl c92
                refine bif_t ho0 ?_
                refine sp_X2_add hB88 hR0 ho0 (fun x95 y100 I96 J97 hB98 p99 => ?_)
                intro o101
                have i102 := i32 x95
                refine ⟨fun c103 => ?_, fun c103 => ?_⟩
                · skip
                  have d104 : ((x95.toInt) : Int) = (0) := ci_eq rfl rfl c103
                  refine ⟨Or.inl rfl, ?_⟩
                  exact hQ _ _ _ _ hB98 trivial
                · skip
                  have d105 : ¬ ((x95.toInt) : Int) = (0) := ci_ne rfl rfl c103
                  refine ⟨Or.inr rfl, ?_⟩
                  exact hQ _ _ _ _ hB98 trivial
            · skip
              have d106 : ((x76.toInt) : Int) = ((-1)) := ci_eq rfl rfl c83
              refine ⟨fun c107 => ?_, fun c107 => ?_⟩
              · skip
                refine ⟨Or.inl rfl, ?_⟩
                exact hQ _ _ _ _ hB79 trivial
              · exact absurd c107 (by decide)
          · skip
            have d108 : ((v3.toInt) : Int) = (16) := ci_eq rfl rfl c74
            refine bif_t ho0 ?_
            refine sp_X2_add hB68 hR0 ho0 (fun x109 y114 I110 J111 hB112 p113 => ?_)
            intro o115
            have i116 := i32 x109
            refine ⟨o115, ?_⟩
            exact hQ _ _ _ _ hB112 trivial
        · skip
          have d117 : ((x65.toInt) : Int) = ((-1)) := ci_eq rfl rfl c72
          refine ⟨Or.inl rfl, ?_⟩
          exact hQ _ _ _ _ hB68 trivial
  refine sg_X3_readTest_0 hc _ _ _ _ _ ?_
  refine ⟨fun c118 => ?_, fun c118 => ?_⟩
  · skip
    have d119 : (((I 3 9).toInt) : Int) = (16) := ci_eq rfl rfl c118
    exact (L 1000000) _ _ _ hB0 trivial (by omega)
  · skip
    have d120 : ¬ (((I 3 9).toInt) : Int) = (16) := ci_ne rfl rfl c118
    refine ⟨fun c121 => ?_, fun c121 => ?_⟩
    · skip
      have d122 : (((I 3 9).toInt) : Int) = (17) := ci_eq rfl rfl c121
      exact (L 1000000) _ _ _ hB0 trivial (by omega)
    · skip
      have d123 : ¬ (((I 3 9).toInt) : Int) = (17) := ci_ne rfl rfl c121
      refine ⟨fun c124 => ?_, fun c124 => ?_⟩
      · skip
        have d125 : (((I 3 9).toInt) : Int) = (18) := ci_eq rfl rfl c124
        exact (L 1000000) _ _ _ hB0 trivial (by omega)
      · skip
        have d126 : ¬ (((I 3 9).toInt) : Int) = (18) := ci_ne rfl rfl c124
        refine w_X6_misplaced ?_
        refine ⟨fun c127 => ?_, fun c127 => ?_⟩
        · skip
          have d128 : ¬ (((I 3 8).toInt) : Int) = (4) := ci_ne rfl rfl c127
          refine w_X6_wrong ?_
          have hB129 : Bd (uI I 3 12 2) := Bd.o0 hB0 io9_112_3_6 (by omega) bd9_6_12
          have hB130 : Bd (uI (uI I 3 12 2) 3 13 (I 3 6)) := Bd.o0 hB129 io9_112_3_6 (by omega) bd9_6_13
          refine ⟨Or.inl rfl, ?_⟩
          intro o131
          refine ⟨Or.inl rfl, ?_⟩
          intro o132
          refine ⟨Or.inl rfl, ?_⟩
          exact hQ _ _ _ _ hB130 trivial
        · skip
          have d133 : (((I 3 8).toInt) : Int) = (4) := ci_eq rfl rfl c127
          refine w_X6_wrong ?_
          have hB134 : Bd (uI I 3 12 1) := Bd.o0 hB0 io9_112_3_6 (by omega) bd9_6_12
          have hB135 : Bd (uI (uI I 3 12 1) 3 13 (I 3 6)) := Bd.o0 hB134 io9_112_3_6 (by omega) bd9_6_13
          refine ⟨Or.inl rfl, ?_⟩
          intro o136
          refine ⟨Or.inl rfl, ?_⟩
          intro o137
          refine ⟨Or.inl rfl, ?_⟩
          exact hQ _ _ _ _ hB135 trivial
set_option maxHeartbeats 2000000 in
theorem sp_X3_readEnd {d : Nat} {Q : Qt} {v1 : Nat} {I : Im} {J : Jm} {R : Rm} (hB0 : Bd I) (hR0 : RI R) (ho1 : isO 112 v1 2 = true) (hQ : ∀ (x : Int32) (y : Int64) (I2 : Im) (J2 : Jm), Bd I2 → (True) → Q x y I2 J2 R) : AM (d + 5) 34 112 [.ref 7, .ref v1, .ref 3] I J R Q := by
  refine w_X3_readEnd ?_
  refine ⟨fun c1 => ?_, fun c1 => ?_⟩
  · skip
    have b2 := Bd.o hB0 io9_112_7_3 bd9_3_1
    have d3 : ((1) : Int) ≤ ((I 7 1).toInt) := ci_le rfl rfl c1
    refine sp_X6_takeAny hB0 hR0 (fun x4 y9 I5 J6 hB7 p8 => ?_)
    intro o10
    have i11 := i32 x4
    have e13 : ((I5 7 1) : Int32).toInt = (I 7 1).toInt := Eq.trans (congrArg Int32.toInt p8) rfl
    have e14 : (((I5 7 1) - 1) : Int32).toInt = ((I 7 1).toInt) - (1) := ti_sub e13 rfl (by omega)
    have hB12 : Bd (uI I5 7 1 ((I5 7 1) - 1)) := Bd.o1 hB7 io9_112_7_3 (by omega) bd9_3_1 (show (((I5 7 1) - 1) : Int32).toInt = ((I 7 1).toInt - 1) from e14) (by omega)
    refine bif_t ho1 ?_
    refine sp_X2_add hB12 hR0 ho1 (fun x15 y20 I16 J17 hB18 p19 => ?_)
    intro o21
    have i22 := i32 x15
    refine ⟨fun c23 => ?_, fun c23 => ?_⟩
    · skip
      have d24 : ¬ ((x15.toInt) : Int) = (0) := ci_ne rfl rfl c23
      have e25 : ((I16 7 1) : Int32).toInt = ((I 7 1).toInt - 1) := Eq.trans (congrArg Int32.toInt (Eq.trans p19 rd_eq)) e14
      refine ⟨vp_of (a := ((I 7 1).toInt - 1)) e25 (by omega) (by omega), ?_⟩
      refine bif_t ho1 ?_
      refine bif_t ho1 ?_
      refine sp_X2_pair hB18 hR0 ho1 (fun x26 y31 I27 J28 hB29 p30 => ?_)
      refine sp_X6_takeSemicolon hB29 hR0 (fun x32 y37 I33 J34 hB35 p36 => ?_)
      intro o38
      have i39 := i32 x32
      refine ⟨o38, ?_⟩
      exact hQ _ _ _ _ hB35 trivial
    · skip
      have d40 : ((x15.toInt) : Int) = (0) := ci_eq rfl rfl c23
      refine ⟨Or.inl rfl, ?_⟩
      exact hQ _ _ _ _ hB18 trivial
  · skip
    have b41 := Bd.o hB0 io9_112_7_3 bd9_3_1
    have d42 : (((I 7 1).toInt) : Int) < (1) := ci_nle rfl rfl c1
    refine w_X6_misplaced ?_
    refine ⟨fun c43 => ?_, fun c43 => ?_⟩
    · skip
      have d44 : ¬ (((I 3 8).toInt) : Int) = (4) := ci_ne rfl rfl c43
      refine w_X6_wrong ?_
      have hB45 : Bd (uI I 3 12 2) := Bd.o0 hB0 io9_112_3_6 (by omega) bd9_6_12
      have hB46 : Bd (uI (uI I 3 12 2) 3 13 (I 3 6)) := Bd.o0 hB45 io9_112_3_6 (by omega) bd9_6_13
      refine ⟨Or.inl rfl, ?_⟩
      intro o47
      refine ⟨Or.inl rfl, ?_⟩
      intro o48
      refine ⟨Or.inl rfl, ?_⟩
      exact hQ _ _ _ _ hB46 trivial
    · skip
      have d49 : (((I 3 8).toInt) : Int) = (4) := ci_eq rfl rfl c43
      refine w_X6_wrong ?_
      have hB50 : Bd (uI I 3 12 1) := Bd.o0 hB0 io9_112_3_6 (by omega) bd9_6_12
      have hB51 : Bd (uI (uI I 3 12 1) 3 13 (I 3 6)) := Bd.o0 hB50 io9_112_3_6 (by omega) bd9_6_13
      refine ⟨Or.inl rfl, ?_⟩
      intro o52
      refine ⟨Or.inl rfl, ?_⟩
      intro o53
      refine ⟨Or.inl rfl, ?_⟩
      exact hQ _ _ _ _ hB51 trivial
set_option maxHeartbeats 2000000 in
theorem sp_X3_readStep {d : Nat} {Q : Qt} {v1 : Nat} {v2 : Nat} {I : Im} {J : Jm} {R : Rm} (hB0 : Bd I) (hR0 : RI R) (ho1 : isO 112 v1 2 = true) (ho2 : isO 112 v2 0 = true) (hQ : ∀ (x : Int32) (y : Int64) (I2 : Im) (J2 : Jm), Bd I2 → (True) → Q x y I2 J2 R) : AM (d + 6) 35 112 [.ref 7, .ref v1, .ref v2, .ref 3] I J R Q := by
  refine am_X3_readStep (fun P hc => ?_)
  have L : ∀ n : Nat, (∀ (v4 : Int32) (M : Im) (JM : Jm), Bd M → (True) → 10 < (n : Int) → P 20 112 [(0, .ref 7), (1, .ref v1), (2, .ref v2), (3, .ref 3), (4, .int v4)] [] M JM R) ∧ (∀ (v4 : Int32) (v5 : Int32) (M : Im) (JM : Jm), Bd M → (True) → 9 < (n : Int) → P 53 112 [(0, .ref 7), (1, .ref v1), (2, .ref v2), (3, .ref 3), (4, .int v4), (5, .int v5)] [] M JM R) ∧ (∀ (v4 : Int32) (v5 : Int32) (M : Im) (JM : Jm), Bd M → (True) → 8 < (n : Int) → P 57 112 [(0, .ref 7), (1, .ref v1), (2, .ref v2), (3, .ref 3), (4, .int v4), (5, .int v5)] [] M JM R) ∧ (∀ (v4 : Int32) (v5 : Int32) (M : Im) (JM : Jm), Bd M → ((v5.toInt = 0 ∨ (M 7 1).toInt < 3)) → 7 < (n : Int) → P 111 112 [(0, .ref 7), (1, .ref v1), (2, .ref v2), (3, .ref 3), (4, .int v4), (5, .int v5)] [] M JM R) ∧ (∀ (v4 : Int32) (M : Im) (JM : Jm), Bd M → (True) → 6 < (n : Int) → P 149 112 [(1, .ref v1), (2, .ref v2), (3, .ref 3), (4, .int v4)] [] M JM R) := by
    intro n
    induction n with
    | zero =>
      exact ⟨fun v4 M J _ hi hm => absurd hm (by omega), fun v4 v5 M J _ hi hm => absurd hm (by omega), fun v4 v5 M J _ hi hm => absurd hm (by omega), fun v4 v5 M J _ hi hm => absurd hm (by omega), fun v4 M J _ hi hm => absurd hm (by omega)⟩
    | succ n ih =>
      refine ⟨?_, ?_, ?_, ?_, ?_⟩
      · skip
        intro v4 M JM hB hi hm
        have i_v4 := i32 v4
        refine sg_X3_readStep_20 hc _ _ _ _ _ _ ?_
        refine ⟨fun c1 => ?_, fun c1 => ?_⟩
        · skip
          exact ih.2.1 _ _ _ _ hB trivial (by omega)
        · exact absurd c1 (by decide)
      · skip
        intro v4 v5 M JM hB hi hm
        have i_v4 := i32 v4
        have i_v5 := i32 v5
        refine sg_X3_readStep_53 hc _ _ _ _ _ _ _ ?_
        refine ⟨fun c2 => ?_, fun c2 => ?_⟩
        · skip
          refine sp_X6_takeAny hB hR0 (fun x3 y8 I4 J5 hB6 p7 => ?_)
          intro o9
          have i10 := i32 x3
          refine bif_t ho1 ?_
          refine ⟨fun c11 => ?_, fun c11 => ?_⟩
          · skip
            have d12 : (((I4 v1 1).toInt) : Int) < (30) := ci_lt rfl rfl c11
            refine ⟨fun c13 => ?_, fun c13 => ?_⟩
            · skip
              have d14 : ((v5.toInt) : Int) = (0) := ci_eq rfl rfl c13
              have b15 := Bd.o hB io9_112_7_3 bd9_3_1
              have e16 : ((I4 7 1) : Int32).toInt = (M 7 1).toInt := Eq.trans (congrArg Int32.toInt p7) rfl
              exact ih.2.2.2.1 _ _ _ _ hB6 (by have q0 : (v5 : Int32).toInt = v5.toInt := rfl; have q1 : ((I4 7 1) : Int32).toInt = (M 7 1).toInt := e16; omega) (by omega)
            · skip
              have d17 : ¬ ((v5.toInt) : Int) = (0) := ci_ne rfl rfl c13
              refine ⟨fun c18 => ?_, fun c18 => ?_⟩
              · skip
                have b19 := Bd.o hB io9_112_7_3 bd9_3_1
                have e20 : ((I4 7 1) : Int32).toInt = (M 7 1).toInt := Eq.trans (congrArg Int32.toInt p7) rfl
                have d21 : (((M 7 1).toInt) : Int) < (3) := ci_lt e20 rfl c18
                exact ih.2.2.2.1 _ _ _ _ hB6 (by have q0 : (v5 : Int32).toInt = v5.toInt := rfl; have q1 : ((I4 7 1) : Int32).toInt = (M 7 1).toInt := e20; omega) (by omega)
              · skip
                have b22 := Bd.o hB io9_112_7_3 bd9_3_1
                have e23 : ((I4 7 1) : Int32).toInt = (M 7 1).toInt := Eq.trans (congrArg Int32.toInt p7) rfl
                have d24 : ((3) : Int) ≤ ((M 7 1).toInt) := ci_nlt e23 rfl c18
                refine w_X6_wrongTaken ?_
                refine w_X6_wrong ?_
                have hB25 : Bd (uI I4 3 12 7) := Bd.o0 hB6 io9_112_3_6 (by omega) bd9_6_12
                have hB26 : Bd (uI (uI I4 3 12 7) 3 13 (I4 3 7)) := Bd.o0 hB25 io9_112_3_6 (by omega) bd9_6_13
                refine ⟨Or.inl rfl, ?_⟩
                intro o27
                refine ⟨Or.inl rfl, ?_⟩
                intro o28
                refine ⟨Or.inl rfl, ?_⟩
                exact hQ _ _ _ _ hB26 trivial
          · skip
            have d29 : ((30) : Int) ≤ ((I4 v1 1).toInt) := ci_nlt rfl rfl c11
            refine w_X6_wrongTaken ?_
            refine w_X6_wrong ?_
            have hB30 : Bd (uI I4 3 12 6) := Bd.o0 hB6 io9_112_3_6 (by omega) bd9_6_12
            have hB31 : Bd (uI (uI I4 3 12 6) 3 13 (I4 3 7)) := Bd.o0 hB30 io9_112_3_6 (by omega) bd9_6_13
            refine ⟨Or.inl rfl, ?_⟩
            intro o32
            refine ⟨Or.inl rfl, ?_⟩
            intro o33
            refine ⟨Or.inl rfl, ?_⟩
            exact hQ _ _ _ _ hB31 trivial
        · exact absurd c2 (by decide)
      · skip
        intro v4 v5 M JM hB hi hm
        have i_v4 := i32 v4
        have i_v5 := i32 v5
        refine sg_X3_readStep_57 hc _ _ _ _ _ _ _ ?_
        refine ⟨fun c34 => ?_, fun c34 => ?_⟩
        · exact absurd c34 (by decide)
        · skip
          refine w_X6_misplaced ?_
          refine ⟨fun c35 => ?_, fun c35 => ?_⟩
          · skip
            have d36 : ¬ (((M 3 8).toInt) : Int) = (4) := ci_ne rfl rfl c35
            refine w_X6_wrong ?_
            have hB37 : Bd (uI M 3 12 2) := Bd.o0 hB io9_112_3_6 (by omega) bd9_6_12
            have hB38 : Bd (uI (uI M 3 12 2) 3 13 (M 3 6)) := Bd.o0 hB37 io9_112_3_6 (by omega) bd9_6_13
            refine ⟨Or.inl rfl, ?_⟩
            intro o39
            refine ⟨Or.inl rfl, ?_⟩
            intro o40
            refine ⟨Or.inl rfl, ?_⟩
            exact hQ _ _ _ _ hB38 trivial
          · skip
            have d41 : (((M 3 8).toInt) : Int) = (4) := ci_eq rfl rfl c35
            refine w_X6_wrong ?_
            have hB42 : Bd (uI M 3 12 1) := Bd.o0 hB io9_112_3_6 (by omega) bd9_6_12
            have hB43 : Bd (uI (uI M 3 12 1) 3 13 (M 3 6)) := Bd.o0 hB42 io9_112_3_6 (by omega) bd9_6_13
            refine ⟨Or.inl rfl, ?_⟩
            intro o44
            refine ⟨Or.inl rfl, ?_⟩
            intro o45
            refine ⟨Or.inl rfl, ?_⟩
            exact hQ _ _ _ _ hB43 trivial
      · skip
        intro v4 v5 M JM hB hi hm
        have i_v4 := i32 v4
        have i_v5 := i32 v5
        refine sg_X3_readStep_111 hc _ _ _ _ _ _ _ ?_
        have b46 := Bd.o hB io9_112_7_3 bd9_3_1
        refine bif_t ho1 ?_
        refine bif_t ho1 ?_
        have hB47 : Bd (uI M v1 1 ((M v1 1) + 1)) := Bd.o0 hB ho1 (by omega) bd9_2_1
        refine ⟨fun c48 => ?_, fun c48 => ?_⟩
        · skip
          have d49 : ((v5.toInt) : Int) = (0) := ci_eq rfl rfl c48
          exact ih.2.2.2.2 _ _ _ hB47 trivial (by omega)
        · skip
          have d50 : ¬ ((v5.toInt) : Int) = (0) := ci_ne rfl rfl c48
          refine bif_t ho1 ?_
          have e51 : (((uI M v1 1 ((M v1 1) + 1)) 7 1) : Int32).toInt = (M 7 1).toInt := Eq.trans (congrArg Int32.toInt (rd_ne (cne (clO io9_112_7_3) (clO ho1) rfl))) rfl
          refine ⟨vp_of (a := (M 7 1).toInt) e51 (by omega) (by omega), ?_⟩
          have hB52 : Bd (uI (uI M v1 1 ((M v1 1) + 1)) 8 (Int32.toNatClampNeg ((uI M v1 1 ((M v1 1) + 1)) 7 1)) ((uI M v1 1 ((M v1 1) + 1)) v1 2)) := Bd.a0 hB47 (show isA 112 8 0 = true from rfl) (show bna 8 = none from rfl)
          have e54 : (((uI (uI M v1 1 ((M v1 1) + 1)) 8 (Int32.toNatClampNeg ((uI M v1 1 ((M v1 1) + 1)) 7 1)) ((uI M v1 1 ((M v1 1) + 1)) v1 2)) 7 1) : Int32).toInt = (M 7 1).toInt := Eq.trans (congrArg Int32.toInt (Eq.trans (rd_ne (by first | decide | omega)) (rd_ne (cne (clO io9_112_7_3) (clO ho1) rfl)))) rfl
          have e55 : ((((uI (uI M v1 1 ((M v1 1) + 1)) 8 (Int32.toNatClampNeg ((uI M v1 1 ((M v1 1) + 1)) 7 1)) ((uI M v1 1 ((M v1 1) + 1)) v1 2)) 7 1) + 1) : Int32).toInt = ((M 7 1).toInt) + (1) := ti_add e54 rfl (by omega)
          have hB53 : Bd (uI (uI (uI M v1 1 ((M v1 1) + 1)) 8 (Int32.toNatClampNeg ((uI M v1 1 ((M v1 1) + 1)) 7 1)) ((uI M v1 1 ((M v1 1) + 1)) v1 2)) 7 1 (((uI (uI M v1 1 ((M v1 1) + 1)) 8 (Int32.toNatClampNeg ((uI M v1 1 ((M v1 1) + 1)) 7 1)) ((uI M v1 1 ((M v1 1) + 1)) v1 2)) 7 1) + 1)) := Bd.o1 hB52 io9_112_7_3 (by omega) bd9_3_1 (show ((((uI (uI M v1 1 ((M v1 1) + 1)) 8 (Int32.toNatClampNeg ((uI M v1 1 ((M v1 1) + 1)) 7 1)) ((uI M v1 1 ((M v1 1) + 1)) v1 2)) 7 1) + 1) : Int32).toInt = ((M 7 1).toInt + 1) from e55) (by omega)
          exact ih.2.2.2.2 _ _ _ hB53 trivial (by omega)
      · skip
        intro v4 M JM hB hi hm
        have i_v4 := i32 v4
        refine sg_X3_readStep_149 hc _ _ _ _ _ _ ?_
        refine ⟨fun c56 => ?_, fun c56 => ?_⟩
        · skip
          have d57 : ¬ ((v4.toInt) : Int) = (15) := ci_ne rfl rfl c56
          refine sp_X3_readAct hB hR0 ho1 ho2 (fun x58 y63 I59 J60 hB61 p62 => ?_)
          intro o64
          have i65 := i32 x58
          refine ⟨fun c66 => ?_, fun c66 => ?_⟩
          · skip
            have d67 : ((x58.toInt) : Int) = (0) := ci_eq rfl rfl c66
            refine ⟨Or.inl rfl, ?_⟩
            exact hQ _ _ _ _ hB61 trivial
          · skip
            have d68 : ¬ ((x58.toInt) : Int) = (0) := ci_ne rfl rfl c66
            refine sp_X6_takeSemicolon hB61 hR0 (fun x69 y74 I70 J71 hB72 p73 => ?_)
            intro o75
            have i76 := i32 x69
            refine ⟨fun c77 => ?_, fun c77 => ?_⟩
            · skip
              have d78 : ((x69.toInt) : Int) = (0) := ci_eq rfl rfl c77
              refine ⟨Or.inl rfl, ?_⟩
              exact hQ _ _ _ _ hB72 trivial
            · skip
              have d79 : ¬ ((x69.toInt) : Int) = (0) := ci_ne rfl rfl c77
              refine ⟨Or.inr rfl, ?_⟩
              exact hQ _ _ _ _ hB72 trivial
        · skip
          have d80 : ((v4.toInt) : Int) = (15) := ci_eq rfl rfl c56
          refine sp_X3_readTest hB hR0 ho1 ho2 (fun x81 y86 I82 J83 hB84 p85 => ?_)
          intro o87
          have i88 := i32 x81
          refine ⟨fun c89 => ?_, fun c89 => ?_⟩
          · skip
            have d90 : ((x81.toInt) : Int) = (0) := ci_eq rfl rfl c89
            refine ⟨Or.inl rfl, ?_⟩
            exact hQ _ _ _ _ hB84 trivial
          · skip
            have d91 : ¬ ((x81.toInt) : Int) = (0) := ci_ne rfl rfl c89
            refine sp_X6_takeSemicolon hB84 hR0 (fun x92 y97 I93 J94 hB95 p96 => ?_)
            intro o98
            have i99 := i32 x92
            refine ⟨fun c100 => ?_, fun c100 => ?_⟩
            · skip
              have d101 : ((x92.toInt) : Int) = (0) := ci_eq rfl rfl c100
              refine ⟨Or.inl rfl, ?_⟩
              exact hQ _ _ _ _ hB95 trivial
            · skip
              have d102 : ¬ ((x92.toInt) : Int) = (0) := ci_ne rfl rfl c100
              refine ⟨Or.inr rfl, ?_⟩
              exact hQ _ _ _ _ hB95 trivial
  refine sg_X3_readStep_0 hc _ _ _ _ _ ?_
  refine ⟨fun c103 => ?_, fun c103 => ?_⟩
  · skip
    have d104 : (((I 3 9).toInt) : Int) = (15) := ci_eq rfl rfl c103
    exact (L 1000000).1 _ _ _ hB0 trivial (by omega)
  · skip
    have d105 : ¬ (((I 3 9).toInt) : Int) = (15) := ci_ne rfl rfl c103
    refine ⟨fun c106 => ?_, fun c106 => ?_⟩
    · skip
      have d107 : ¬ (((I 3 9).toInt) : Int) = (19) := ci_ne rfl rfl c106
      refine ⟨fun c108 => ?_, fun c108 => ?_⟩
      · exact absurd c108 (by decide)
      · skip
        refine ⟨fun c109 => ?_, fun c109 => ?_⟩
        · skip
          have d110 : (((I 3 9).toInt) : Int) = (21) := ci_eq rfl rfl c109
          exact (L 1000000).2.1 _ _ _ _ hB0 trivial (by omega)
        · skip
          have d111 : ¬ (((I 3 9).toInt) : Int) = (21) := ci_ne rfl rfl c109
          refine ⟨fun c112 => ?_, fun c112 => ?_⟩
          · skip
            have d113 : (((I 3 9).toInt) : Int) < (9) := ci_lt rfl rfl c112
            exact (L 1000000).2.2.1 _ _ _ _ hB0 trivial (by omega)
          · skip
            have d114 : ((9) : Int) ≤ ((I 3 9).toInt) := ci_nlt rfl rfl c112
            refine ⟨fun c115 => ?_, fun c115 => ?_⟩
            · skip
              have d116 : ((14) : Int) < ((I 3 9).toInt) := ci_lt rfl rfl c115
              exact (L 1000000).2.2.1 _ _ _ _ hB0 trivial (by omega)
            · skip
              have d117 : (((I 3 9).toInt) : Int) ≤ (14) := ci_nlt rfl rfl c115
              exact (L 1000000).2.1 _ _ _ _ hB0 trivial (by omega)
    · skip
      have d118 : (((I 3 9).toInt) : Int) = (19) := ci_eq rfl rfl c106
      exact (L 1000000).1 _ _ _ hB0 trivial (by omega)
set_option maxHeartbeats 2000000 in
theorem sp_X3_readInto {d : Nat} {Q : Qt} {v1 : Nat} {v2 : Nat} {I : Im} {J : Jm} {R : Rm} (hB0 : Bd I) (hR0 : RI R) (ho1 : isO 112 v1 2 = true) (ho2 : isO 112 v2 0 = true) (hQ : ∀ (x : Int32) (y : Int64) (I2 : Im) (J2 : Jm), Bd I2 → (True) → Q x y I2 J2 R) : AM (d + 7) 33 112 [.ref 7, .ref v1, .ref v2, .ref 3] I J R Q := by
  refine am_X3_readInto (fun P hc => ?_)
  have L : ∀ n : Nat, (∀ (v4 : Int32) (v5 : Int32) (M : Im) (JM : Jm), Bd M → (v4 = 0 ∨ v4 = 1) → (0 ≤ v5.toInt ∧ v5.toInt ≤ 900) → 1000 - v5.toInt < (n : Int) → P 15 112 [(0, .ref 7), (1, .ref v1), (2, .ref v2), (3, .ref 3), (4, .int v4), (5, .int v5)] [] M JM R) := by
    intro n
    induction n with
    | zero =>
      exact fun v4 v5 M J _ _ hi hm => absurd hm (by omega)
    | succ n ih =>
      intro v4 v5 M JM hB hb_v4 hi hm
      have i_v4 := i32 v4
      have i_v5 := i32 v5
      refine sg_X3_readInto_15 hc _ _ _ _ _ _ _ ?_
      refine ⟨fun c1 => ?_, fun c1 => ?_⟩
      · skip
        have d2 : ((900) : Int) ≤ (v5.toInt) := ci_le rfl rfl c1
        refine ⟨fun c3 => ?_, fun c3 => ?_⟩
        · skip
          have d4 : ((v4.toInt) : Int) = (0) := ci_eq rfl rfl c3
          refine bif_t ho1 ?_
          refine ⟨hb_v4, ?_⟩
          have hB5 : Bd (uI M v1 0 v4) := Bd.o1 hB ho1 (by omega) bd9_2_0 rfl (bl_ti (hb_v4))
          refine ⟨hb_v4, ?_⟩
          exact hQ _ _ _ _ hB5 trivial
        · skip
          have d6 : ¬ ((v4.toInt) : Int) = (0) := ci_ne rfl rfl c3
          refine ⟨fun c7 => ?_, fun c7 => ?_⟩
          · skip
            have b8 := Bd.o hB io9_112_7_3 bd9_3_1
            have d9 : (((M 7 1).toInt) : Int) ≤ (0) := ci_le rfl rfl c7
            refine bif_t ho1 ?_
            refine ⟨hb_v4, ?_⟩
            have hB10 : Bd (uI M v1 0 v4) := Bd.o1 hB ho1 (by omega) bd9_2_0 rfl (bl_ti (hb_v4))
            refine ⟨hb_v4, ?_⟩
            exact hQ _ _ _ _ hB10 trivial
          · skip
            have b11 := Bd.o hB io9_112_7_3 bd9_3_1
            have d12 : ((0) : Int) < ((M 7 1).toInt) := ci_nle rfl rfl c7
            refine w_X6_misplaced ?_
            refine ⟨fun c13 => ?_, fun c13 => ?_⟩
            · skip
              have d14 : ¬ (((M 3 8).toInt) : Int) = (4) := ci_ne rfl rfl c13
              refine w_X6_wrong ?_
              have hB15 : Bd (uI M 3 12 2) := Bd.o0 hB io9_112_3_6 (by omega) bd9_6_12
              have hB16 : Bd (uI (uI M 3 12 2) 3 13 (M 3 6)) := Bd.o0 hB15 io9_112_3_6 (by omega) bd9_6_13
              refine ⟨Or.inl rfl, ?_⟩
              intro o17
              refine ⟨Or.inl rfl, ?_⟩
              intro o18
              refine bif_t ho1 ?_
              refine ⟨Or.inl rfl, ?_⟩
              have hB19 : Bd (uI (uI (uI M 3 12 2) 3 13 (M 3 6)) v1 0 0) := Bd.o1 hB16 ho1 (by omega) bd9_2_0 rfl (bl_ti (Or.inl rfl))
              refine ⟨Or.inl rfl, ?_⟩
              exact hQ _ _ _ _ hB19 trivial
            · skip
              have d20 : (((M 3 8).toInt) : Int) = (4) := ci_eq rfl rfl c13
              refine w_X6_wrong ?_
              have hB21 : Bd (uI M 3 12 1) := Bd.o0 hB io9_112_3_6 (by omega) bd9_6_12
              have hB22 : Bd (uI (uI M 3 12 1) 3 13 (M 3 6)) := Bd.o0 hB21 io9_112_3_6 (by omega) bd9_6_13
              refine ⟨Or.inl rfl, ?_⟩
              intro o23
              refine ⟨Or.inl rfl, ?_⟩
              intro o24
              refine bif_t ho1 ?_
              refine ⟨Or.inl rfl, ?_⟩
              have hB25 : Bd (uI (uI (uI M 3 12 1) 3 13 (M 3 6)) v1 0 0) := Bd.o1 hB22 ho1 (by omega) bd9_2_0 rfl (bl_ti (Or.inl rfl))
              refine ⟨Or.inl rfl, ?_⟩
              exact hQ _ _ _ _ hB25 trivial
      · skip
        have d26 : ((v5.toInt) : Int) < (900) := ci_nle rfl rfl c1
        refine ⟨fun c27 => ?_, fun c27 => ?_⟩
        · skip
          have d28 : ((v4.toInt) : Int) = (0) := ci_eq rfl rfl c27
          refine ⟨fun c29 => ?_, fun c29 => ?_⟩
          · skip
            have d30 : ((v4.toInt) : Int) = (0) := ci_eq rfl rfl c29
            refine bif_t ho1 ?_
            refine ⟨hb_v4, ?_⟩
            have hB31 : Bd (uI M v1 0 v4) := Bd.o1 hB ho1 (by omega) bd9_2_0 rfl (bl_ti (hb_v4))
            refine ⟨hb_v4, ?_⟩
            exact hQ _ _ _ _ hB31 trivial
          · skip
            have d32 : ¬ ((v4.toInt) : Int) = (0) := ci_ne rfl rfl c29
            refine ⟨fun c33 => ?_, fun c33 => ?_⟩
            · skip
              have b34 := Bd.o hB io9_112_7_3 bd9_3_1
              have d35 : (((M 7 1).toInt) : Int) ≤ (0) := ci_le rfl rfl c33
              refine bif_t ho1 ?_
              refine ⟨hb_v4, ?_⟩
              have hB36 : Bd (uI M v1 0 v4) := Bd.o1 hB ho1 (by omega) bd9_2_0 rfl (bl_ti (hb_v4))
              refine ⟨hb_v4, ?_⟩
              exact hQ _ _ _ _ hB36 trivial
            · skip
              have b37 := Bd.o hB io9_112_7_3 bd9_3_1
              have d38 : ((0) : Int) < ((M 7 1).toInt) := ci_nle rfl rfl c33
              refine w_X6_misplaced ?_
              refine ⟨fun c39 => ?_, fun c39 => ?_⟩
              · skip
                have d40 : ¬ (((M 3 8).toInt) : Int) = (4) := ci_ne rfl rfl c39
                refine w_X6_wrong ?_
                have hB41 : Bd (uI M 3 12 2) := Bd.o0 hB io9_112_3_6 (by omega) bd9_6_12
                have hB42 : Bd (uI (uI M 3 12 2) 3 13 (M 3 6)) := Bd.o0 hB41 io9_112_3_6 (by omega) bd9_6_13
                refine ⟨Or.inl rfl, ?_⟩
                intro o43
                refine ⟨Or.inl rfl, ?_⟩
                intro o44
                refine bif_t ho1 ?_
                refine ⟨Or.inl rfl, ?_⟩
                have hB45 : Bd (uI (uI (uI M 3 12 2) 3 13 (M 3 6)) v1 0 0) := Bd.o1 hB42 ho1 (by omega) bd9_2_0 rfl (bl_ti (Or.inl rfl))
                refine ⟨Or.inl rfl, ?_⟩
                exact hQ _ _ _ _ hB45 trivial
              · skip
                have d46 : (((M 3 8).toInt) : Int) = (4) := ci_eq rfl rfl c39
                refine w_X6_wrong ?_
                have hB47 : Bd (uI M 3 12 1) := Bd.o0 hB io9_112_3_6 (by omega) bd9_6_12
                have hB48 : Bd (uI (uI M 3 12 1) 3 13 (M 3 6)) := Bd.o0 hB47 io9_112_3_6 (by omega) bd9_6_13
                refine ⟨Or.inl rfl, ?_⟩
                intro o49
                refine ⟨Or.inl rfl, ?_⟩
                intro o50
                refine bif_t ho1 ?_
                refine ⟨Or.inl rfl, ?_⟩
                have hB51 : Bd (uI (uI (uI M 3 12 1) 3 13 (M 3 6)) v1 0 0) := Bd.o1 hB48 ho1 (by omega) bd9_2_0 rfl (bl_ti (Or.inl rfl))
                refine ⟨Or.inl rfl, ?_⟩
                exact hQ _ _ _ _ hB51 trivial
        · skip
          have d52 : ¬ ((v4.toInt) : Int) = (0) := ci_ne rfl rfl c27
          refine ⟨fun c53 => ?_, fun c53 => ?_⟩
          · skip
            have d54 : (((M 3 8).toInt) : Int) = (0) := ci_eq rfl rfl c53
            refine ⟨fun c55 => ?_, fun c55 => ?_⟩
            · skip
              have d56 : ((v4.toInt) : Int) = (0) := ci_eq rfl rfl c55
              refine bif_t ho1 ?_
              refine ⟨hb_v4, ?_⟩
              have hB57 : Bd (uI M v1 0 v4) := Bd.o1 hB ho1 (by omega) bd9_2_0 rfl (bl_ti (hb_v4))
              refine ⟨hb_v4, ?_⟩
              exact hQ _ _ _ _ hB57 trivial
            · skip
              have d58 : ¬ ((v4.toInt) : Int) = (0) := ci_ne rfl rfl c55
              refine ⟨fun c59 => ?_, fun c59 => ?_⟩
              · skip
                have b60 := Bd.o hB io9_112_7_3 bd9_3_1
                have d61 : (((M 7 1).toInt) : Int) ≤ (0) := ci_le rfl rfl c59
                refine bif_t ho1 ?_
                refine ⟨hb_v4, ?_⟩
                have hB62 : Bd (uI M v1 0 v4) := Bd.o1 hB ho1 (by omega) bd9_2_0 rfl (bl_ti (hb_v4))
                refine ⟨hb_v4, ?_⟩
                exact hQ _ _ _ _ hB62 trivial
              · skip
                have b63 := Bd.o hB io9_112_7_3 bd9_3_1
                have d64 : ((0) : Int) < ((M 7 1).toInt) := ci_nle rfl rfl c59
                refine w_X6_misplaced ?_
                refine ⟨fun c65 => ?_, fun c65 => ?_⟩
                · skip
                  have d66 : ¬ (((M 3 8).toInt) : Int) = (4) := ci_ne rfl rfl c65
                  refine w_X6_wrong ?_
                  have hB67 : Bd (uI M 3 12 2) := Bd.o0 hB io9_112_3_6 (by omega) bd9_6_12
                  have hB68 : Bd (uI (uI M 3 12 2) 3 13 (M 3 6)) := Bd.o0 hB67 io9_112_3_6 (by omega) bd9_6_13
                  refine ⟨Or.inl rfl, ?_⟩
                  intro o69
                  refine ⟨Or.inl rfl, ?_⟩
                  intro o70
                  refine bif_t ho1 ?_
                  refine ⟨Or.inl rfl, ?_⟩
                  have hB71 : Bd (uI (uI (uI M 3 12 2) 3 13 (M 3 6)) v1 0 0) := Bd.o1 hB68 ho1 (by omega) bd9_2_0 rfl (bl_ti (Or.inl rfl))
                  refine ⟨Or.inl rfl, ?_⟩
                  exact hQ _ _ _ _ hB71 trivial
                · skip
                  have d72 : (((M 3 8).toInt) : Int) = (4) := ci_eq rfl rfl c65
                  refine w_X6_wrong ?_
                  have hB73 : Bd (uI M 3 12 1) := Bd.o0 hB io9_112_3_6 (by omega) bd9_6_12
                  have hB74 : Bd (uI (uI M 3 12 1) 3 13 (M 3 6)) := Bd.o0 hB73 io9_112_3_6 (by omega) bd9_6_13
                  refine ⟨Or.inl rfl, ?_⟩
                  intro o75
                  refine ⟨Or.inl rfl, ?_⟩
                  intro o76
                  refine bif_t ho1 ?_
                  refine ⟨Or.inl rfl, ?_⟩
                  have hB77 : Bd (uI (uI (uI M 3 12 1) 3 13 (M 3 6)) v1 0 0) := Bd.o1 hB74 ho1 (by omega) bd9_2_0 rfl (bl_ti (Or.inl rfl))
                  refine ⟨Or.inl rfl, ?_⟩
                  exact hQ _ _ _ _ hB77 trivial
          · skip
            have d78 : ¬ (((M 3 8).toInt) : Int) = (0) := ci_ne rfl rfl c53
            refine ⟨fun c79 => ?_, fun c79 => ?_⟩
            · skip
              have d80 : ¬ (((M 3 9).toInt) : Int) = (20) := ci_ne rfl rfl c79
              refine sp_X3_readStep hB hR0 ho1 ho2 (fun x81 y86 I82 J83 hB84 p85 => ?_)
              intro o87
              have i88 := i32 x81
              have e89 : ((v5 + 1) : Int32).toInt = (v5.toInt) + (1) := ti_add rfl rfl (by omega)
              exact ih _ _ _ _ hB84 (o87) (by have q0 : ((v5 + 1) : Int32).toInt = (v5.toInt + 1) := e89; omega) (by have q0 : ((v5 + 1) : Int32).toInt = (v5.toInt + 1) := e89; omega)
            · skip
              have d90 : (((M 3 9).toInt) : Int) = (20) := ci_eq rfl rfl c79
              refine sp_X3_readEnd hB hR0 ho1 (fun x91 y96 I92 J93 hB94 p95 => ?_)
              intro o97
              have i98 := i32 x91
              have e99 : ((v5 + 1) : Int32).toInt = (v5.toInt) + (1) := ti_add rfl rfl (by omega)
              exact ih _ _ _ _ hB94 (o97) (by have q0 : ((v5 + 1) : Int32).toInt = (v5.toInt + 1) := e99; omega) (by have q0 : ((v5 + 1) : Int32).toInt = (v5.toInt + 1) := e99; omega)
  refine sg_X3_readInto_0 hc _ _ _ _ _ ?_
  refine bif_t ho1 ?_
  refine sp_X2_forget hB0 hR0 ho1 (fun x100 y105 I101 J102 hB103 p104 => ?_)
  have hB106 : Bd (uI I101 7 1 0) := Bd.o1 hB103 io9_112_7_3 (by omega) bd9_3_1 (show (0 : Int32).toInt = 0 from rfl) (by omega)
  exact (L 1000000) _ _ _ _ hB106 (Or.inr rfl) (by have q0 : (0 : Int32).toInt = 0 := rfl; omega) (by have q0 : (0 : Int32).toInt = 0 := rfl; omega)
set_option maxHeartbeats 2000000 in
theorem sp_X4_draw {d : Nat} {Q : Qt} {v0 : Nat} {v1 : Int32} {I : Im} {J : Jm} {R : Rm} (hB0 : Bd I) (hR0 : RI R) (ho0 : isO 112 v0 4 = true) (hQ : ∀ (x : Int32) (y : Int64) (I2 : Im) (J2 : Jm), Bd I2 → (True) → Q x y I2 J2 R) : AM (d + 1) 52 112 [.ref v0, .int v1] I J R Q := by
  have i_v1 := i32 v1
  refine w_X4_draw ?_
  refine bif_t ho0 ?_
  refine ⟨by decide, ?_⟩
  refine bif_t ho0 ?_
  have hB1 : Bd (uI I v0 7 ((((I v0 7) * 2971) + 10993) - (((I v0 7) * 2971) + 10993) / 65536 * 65536)) := Bd.o0 hB0 ho0 (by omega) bd9_4_7
  refine ⟨fun c2 => ?_, fun c2 => ?_⟩
  · skip
    have d3 : ((1) : Int) ≤ (v1.toInt) := ci_le rfl rfl c2
    refine bif_t ho0 ?_
    refine ⟨by decide, ?_⟩
    refine ⟨(fun z => by have z2 : (v1.toInt : Int) = 0 := ci_eq rfl rfl z; omega), ?_⟩
    exact hQ _ _ _ _ hB1 trivial
  · skip
    have d4 : ((v1.toInt) : Int) < (1) := ci_nle rfl rfl c2
    exact hQ _ _ _ _ hB1 trivial
set_option maxHeartbeats 2000000 in
theorem sp_X4_cutUp {d : Nat} {Q : Qt} {v0 : Nat} {v1 : Nat} {v2 : Int32} {v3 : Int32} {v4 : Int32} {I : Im} {J : Jm} {R : Rm} (hB0 : Bd I) (hR0 : RI R) (ho0 : isO 112 v0 4 = true) (ho1 : isO 112 v1 0 = true) (hQ : ∀ (x : Int32) (y : Int64) (I2 : Im) (J2 : Jm), Bd I2 → (True) → Q x y I2 J2 R) : AM (d + 3) 48 112 [.ref v0, .ref v1, .int v2, .int v3, .int v4] I J R Q := by
  have i_v2 := i32 v2
  have i_v3 := i32 v3
  have i_v4 := i32 v4
  refine w_X4_cutUp ?_
  refine bif_t ho1 ?_
  refine sp_X0_cutUp hB0 hR0 ho1 (fun x1 y6 I2 J3 hB4 p5 => ?_)
  have i7 := i32 x1
  refine ⟨fun c8 => ?_, fun c8 => ?_⟩
  · skip
    have d9 : ¬ ((x1.toInt) : Int) = (0) := ci_ne rfl rfl c8
    refine bif_t ho0 ?_
    refine ⟨fun c10 => ?_, fun c10 => ?_⟩
    · skip
      refine bif_t ho0 ?_
      have hB11 : Bd (uI I2 v0 3 ((I2 v0 3) + 0)) := Bd.o0 hB4 ho0 (by omega) bd9_4_3
      refine ⟨Or.inl rfl, ?_⟩
      exact hQ _ _ _ _ hB11 trivial
    · exact absurd c10 (by decide)
  · skip
    have d12 : ((x1.toInt) : Int) = (0) := ci_eq rfl rfl c8
    refine bif_t ho0 ?_
    refine ⟨fun c13 => ?_, fun c13 => ?_⟩
    · exact absurd c13 (by decide)
    · skip
      refine bif_t ho0 ?_
      have hB14 : Bd (uI I2 v0 3 ((I2 v0 3) + 1)) := Bd.o0 hB4 ho0 (by omega) bd9_4_3
      refine ⟨Or.inr rfl, ?_⟩
      exact hQ _ _ _ _ hB14 trivial
set_option maxHeartbeats 2000000 in
theorem sp_X4_splitUp {d : Nat} {Q : Qt} {v0 : Nat} {v1 : Nat} {v2 : Int32} {v3 : Int32} {I : Im} {J : Jm} {R : Rm} (hB0 : Bd I) (hR0 : RI R) (ho0 : isO 112 v0 4 = true) (ho1 : isO 112 v1 0 = true) (hQ : ∀ (x : Int32) (y : Int64) (I2 : Im) (J2 : Jm), Bd I2 → (True) → Q x y I2 J2 R) : AM (d + 3) 49 112 [.ref v0, .ref v1, .int v2, .int v3] I J R Q := by
  have i_v2 := i32 v2
  have i_v3 := i32 v3
  refine w_X4_splitUp ?_
  refine bif_t ho1 ?_
  refine sp_X0_splitUp hB0 hR0 ho1 (fun x1 y6 I2 J3 hB4 p5 => ?_)
  have i7 := i32 x1
  refine ⟨fun c8 => ?_, fun c8 => ?_⟩
  · skip
    have d9 : ¬ ((x1.toInt) : Int) = (0) := ci_ne rfl rfl c8
    refine bif_t ho0 ?_
    refine ⟨fun c10 => ?_, fun c10 => ?_⟩
    · skip
      refine bif_t ho0 ?_
      have hB11 : Bd (uI I2 v0 3 ((I2 v0 3) + 0)) := Bd.o0 hB4 ho0 (by omega) bd9_4_3
      refine ⟨Or.inl rfl, ?_⟩
      exact hQ _ _ _ _ hB11 trivial
    · exact absurd c10 (by decide)
  · skip
    have d12 : ((x1.toInt) : Int) = (0) := ci_eq rfl rfl c8
    refine bif_t ho0 ?_
    refine ⟨fun c13 => ?_, fun c13 => ?_⟩
    · exact absurd c13 (by decide)
    · skip
      refine bif_t ho0 ?_
      have hB14 : Bd (uI I2 v0 3 ((I2 v0 3) + 1)) := Bd.o0 hB4 ho0 (by omega) bd9_4_3
      refine ⟨Or.inr rfl, ?_⟩
      exact hQ _ _ _ _ hB14 trivial
set_option maxHeartbeats 2000000 in
theorem sp_X4_handOver {d : Nat} {Q : Qt} {v0 : Nat} {v1 : Nat} {v2 : Int32} {v3 : Int32} {I : Im} {J : Jm} {R : Rm} (hB0 : Bd I) (hR0 : RI R) (ho0 : isO 112 v0 4 = true) (ho1 : isO 112 v1 0 = true) (hQ : ∀ (x : Int32) (y : Int64) (I2 : Im) (J2 : Jm), Bd I2 → (True) → Q x y I2 J2 R) : AM (d + 3) 50 112 [.ref v0, .ref v1, .int v2, .int v3] I J R Q := by
  have i_v2 := i32 v2
  have i_v3 := i32 v3
  refine w_X4_handOver ?_
  refine bif_t ho1 ?_
  refine sp_X0_handOver hB0 hR0 ho1 (fun x1 y6 I2 J3 hB4 p5 => ?_)
  have i7 := i32 x1
  refine ⟨fun c8 => ?_, fun c8 => ?_⟩
  · skip
    have d9 : ¬ ((x1.toInt) : Int) = (0) := ci_ne rfl rfl c8
    refine bif_t ho0 ?_
    refine ⟨fun c10 => ?_, fun c10 => ?_⟩
    · skip
      refine bif_t ho0 ?_
      have hB11 : Bd (uI I2 v0 4 ((I2 v0 4) + 0)) := Bd.o0 hB4 ho0 (by omega) bd9_4_4
      refine ⟨Or.inl rfl, ?_⟩
      exact hQ _ _ _ _ hB11 trivial
    · exact absurd c10 (by decide)
  · skip
    have d12 : ((x1.toInt) : Int) = (0) := ci_eq rfl rfl c8
    refine bif_t ho0 ?_
    refine ⟨fun c13 => ?_, fun c13 => ?_⟩
    · exact absurd c13 (by decide)
    · skip
      refine bif_t ho0 ?_
      have hB14 : Bd (uI I2 v0 4 ((I2 v0 4) + 1)) := Bd.o0 hB4 ho0 (by omega) bd9_4_4
      refine ⟨Or.inr rfl, ?_⟩
      exact hQ _ _ _ _ hB14 trivial
set_option maxHeartbeats 2000000 in
theorem sp_X4_addLoaves {d : Nat} {Q : Qt} {v0 : Nat} {v1 : Nat} {v2 : Int32} {I : Im} {J : Jm} {R : Rm} (hB0 : Bd I) (hR0 : RI R) (ho0 : isO 112 v0 4 = true) (ho1 : isO 112 v1 0 = true) (hQ : ∀ (x : Int32) (y : Int64) (I2 : Im) (J2 : Jm), Bd I2 → (True) → Q x y I2 J2 R) : AM (d + 2) 51 112 [.ref v0, .ref v1, .int v2] I J R Q := by
  have i_v2 := i32 v2
  refine w_X4_addLoaves ?_
  refine bif_t ho1 ?_
  refine sp_X0_addLoaves hB0 hR0 ho1 (fun x1 y6 I2 J3 hB4 p5 => ?_)
  have i7 := i32 x1
  refine ⟨fun c8 => ?_, fun c8 => ?_⟩
  · skip
    have d9 : ¬ ((x1.toInt) : Int) = (0) := ci_ne rfl rfl c8
    refine bif_t ho0 ?_
    refine ⟨fun c10 => ?_, fun c10 => ?_⟩
    · skip
      refine bif_t ho0 ?_
      have hB11 : Bd (uI I2 v0 5 ((I2 v0 5) + 0)) := Bd.o0 hB4 ho0 (by omega) bd9_4_5
      refine ⟨Or.inl rfl, ?_⟩
      exact hQ _ _ _ _ hB11 trivial
    · exact absurd c10 (by decide)
  · skip
    have d12 : ((x1.toInt) : Int) = (0) := ci_eq rfl rfl c8
    refine bif_t ho0 ?_
    refine ⟨fun c13 => ?_, fun c13 => ?_⟩
    · exact absurd c13 (by decide)
    · skip
      refine bif_t ho0 ?_
      have hB14 : Bd (uI I2 v0 5 ((I2 v0 5) + v2)) := Bd.o0 hB4 ho0 (by omega) bd9_4_5
      refine ⟨Or.inr rfl, ?_⟩
      exact hQ _ _ _ _ hB14 trivial
set_option maxHeartbeats 2000000 in
theorem sp_X4_doAny {d : Nat} {Q : Qt} {v0 : Nat} {v1 : Nat} {I : Im} {J : Jm} {R : Rm} (hB0 : Bd I) (hR0 : RI R) (ho0 : isO 112 v0 4 = true) (ho1 : isO 112 v1 0 = true) (hQ : ∀ (x : Int32) (y : Int64) (I2 : Im) (J2 : Jm), Bd I2 → (True) → Q x y I2 J2 R) : AM (d + 4) 47 112 [.ref v0, .ref v1] I J R Q := by
  refine w_X4_doAny ?_
  refine bif_t ho1 ?_
  refine ⟨fun c1 => ?_, fun c1 => ?_⟩
  · skip
    have b2 := Bd.o hB0 ho1 bd9_0_4
    have d3 : ((1) : Int) ≤ ((I v1 4).toInt) := ci_le rfl rfl c1
    refine bif_t ho1 ?_
    refine bif_t ho0 ?_
    refine sp_X4_draw hB0 hR0 ho0 (fun x4 y9 I5 J6 hB7 p8 => ?_)
    have i10 := i32 x4
    refine bif_t ho0 ?_
    refine sp_X4_draw hB7 hR0 ho0 (fun x11 y16 I12 J13 hB14 p15 => ?_)
    have i17 := i32 x11
    refine bif_t ho0 ?_
    refine sp_X4_draw hB14 hR0 ho0 (fun x18 y23 I19 J20 hB21 p22 => ?_)
    have i24 := i32 x18
    refine bif_t ho1 ?_
    refine ⟨fun c25 => ?_, fun c25 => ?_⟩
    · skip
      have d26 : (((I19 v1 1).toInt) : Int) ≤ (x18.toInt) := ci_le rfl rfl c25
      refine bif_t ho0 ?_
      refine sp_X4_handOver hB21 hR0 ho0 ho1 (fun x27 y32 I28 J29 hB30 p31 => ?_)
      intro o33
      have i34 := i32 x27
      refine ⟨o33, ?_⟩
      exact hQ _ _ _ _ hB30 trivial
    · skip
      have d35 : ((x18.toInt) : Int) < ((I19 v1 1).toInt) := ci_nle rfl rfl c25
      refine bif_t ho0 ?_
      refine sp_X4_splitUp hB21 hR0 ho0 ho1 (fun x36 y41 I37 J38 hB39 p40 => ?_)
      intro o42
      have i43 := i32 x36
      refine ⟨o42, ?_⟩
      exact hQ _ _ _ _ hB39 trivial
  · skip
    have b44 := Bd.o hB0 ho1 bd9_0_4
    have d45 : (((I v1 4).toInt) : Int) < (1) := ci_nle rfl rfl c1
    refine ⟨Or.inl rfl, ?_⟩
    exact hQ _ _ _ _ hB0 trivial
set_option maxHeartbeats 2000000 in
theorem sp_X4_holdsTrue {d : Nat} {Q : Qt} {v0 : Nat} {v1 : Nat} {v2 : Int32} {I : Im} {J : Jm} {R : Rm} (hB0 : Bd I) (hR0 : RI R) (ho0 : isO 112 v0 0 = true) (ho1 : isO 112 v1 2 = true) (hv2 : 0 ≤ v2.toInt ∧ v2.toInt ≤ 59) (hQ : ∀ (x : Int32) (y : Int64) (I2 : Im) (J2 : Jm), Bd I2 → (True) → Q x y I2 J2 R) : AM (d + 4) 44 112 [.ref v0, .ref v1, .int v2] I J R Q := by
  have i_v2 := i32 v2
  refine w_X4_holdsTrue ?_
  refine bif_t ho1 ?_
  refine bif_t (fa_2_4 ho1).1 ?_
  refine ⟨by rw [(fa_2_4 ho1).2.1]; exact vp_of (a := v2.toInt) rfl (by omega) (by omega), ?_⟩
  refine bif_t ho1 ?_
  refine bif_t (fa_2_6 ho1).1 ?_
  refine ⟨by rw [(fa_2_6 ho1).2.1]; exact vp_of (a := v2.toInt) rfl (by omega) (by omega), ?_⟩
  refine bif_t ho1 ?_
  refine bif_t (fa_2_3 ho1).1 ?_
  refine ⟨by rw [(fa_2_3 ho1).2.1]; exact vp_of (a := v2.toInt) rfl (by omega) (by omega), ?_⟩
  refine ⟨fun c1 => ?_, fun c1 => ?_⟩
  · skip
    have d2 : (((I (v1 + 1) (Int32.toNatClampNeg v2)).toInt) : Int) = (16) := ci_eq rfl rfl c1
    refine bif_t ho0 ?_
    refine w_X0_isMan ?_
    refine ⟨fun c3 => ?_, fun c3 => ?_⟩
    · skip
      have d4 : (((I (v1 + 2) (Int32.toNatClampNeg v2)).toInt) : Int) < (0) := ci_lt rfl rfl c3
      refine ⟨Or.inl rfl, ?_⟩
      intro o5
      refine ⟨fun c6 => ?_, fun c6 => ?_⟩
      · skip
        refine ⟨Or.inl rfl, ?_⟩
        exact hQ _ _ _ _ hB0 trivial
      · exact absurd c6 (by decide)
    · skip
      have d7 : ((0) : Int) ≤ ((I (v1 + 2) (Int32.toNatClampNeg v2)).toInt) := ci_nlt rfl rfl c3
      refine bif_t ho0 ?_
      refine ⟨fun c8 => ?_, fun c8 => ?_⟩
      · skip
        have b9 := Bd.o hB0 ho0 bd9_0_4
        have d10 : (((I v0 4).toInt) : Int) ≤ ((I (v1 + 2) (Int32.toNatClampNeg v2)).toInt) := ci_le rfl rfl c8
        refine ⟨Or.inl rfl, ?_⟩
        intro o11
        refine ⟨fun c12 => ?_, fun c12 => ?_⟩
        · skip
          refine ⟨Or.inl rfl, ?_⟩
          exact hQ _ _ _ _ hB0 trivial
        · exact absurd c12 (by decide)
      · skip
        have b13 := Bd.o hB0 ho0 bd9_0_4
        have d14 : (((I (v1 + 2) (Int32.toNatClampNeg v2)).toInt) : Int) < ((I v0 4).toInt) := ci_nle rfl rfl c8
        refine ⟨Or.inr rfl, ?_⟩
        intro o15
        refine ⟨fun c16 => ?_, fun c16 => ?_⟩
        · exact absurd c16 (by decide)
        · skip
          refine bif_t ho0 ?_
          refine sp_X0_lacking hB0 hR0 ho0 (by have z : ((I (v1 + 2) (Int32.toNatClampNeg v2)) : Int32).toInt = (I (v1 + 2) (Int32.toNatClampNeg v2)).toInt := rfl; omega) (fun x17 y22 I18 J19 hB20 p21 => ?_)
          refine ⟨fun c23 => ?_, fun c23 => ?_⟩
          · skip
            rw [lg_cmp_eq] at c23
            have d24 : ¬ (((y22 : Int64).toInt) : Int) = (0) := cl_ne rfl rfl c23
            refine ⟨Or.inl rfl, ?_⟩
            exact hQ _ _ _ _ hB20 trivial
          · skip
            rw [lg_cmp_eq] at c23
            have d25 : (((y22 : Int64).toInt) : Int) = (0) := cl_eq rfl rfl c23
            refine ⟨Or.inr rfl, ?_⟩
            exact hQ _ _ _ _ hB20 trivial
  · skip
    have d26 : ¬ (((I (v1 + 1) (Int32.toNatClampNeg v2)).toInt) : Int) = (16) := ci_ne rfl rfl c1
    refine ⟨fun c27 => ?_, fun c27 => ?_⟩
    · skip
      have d28 : (((I (v1 + 1) (Int32.toNatClampNeg v2)).toInt) : Int) = (17) := ci_eq rfl rfl c27
      refine w_X11_isSlice ?_
      refine ⟨fun c29 => ?_, fun c29 => ?_⟩
      · skip
        have d30 : (((I (v1 + 2) (Int32.toNatClampNeg v2)).toInt) : Int) < (1) := ci_lt rfl rfl c29
        refine ⟨Or.inl rfl, ?_⟩
        intro o31
        refine ⟨fun c32 => ?_, fun c32 => ?_⟩
        · skip
          refine ⟨Or.inl rfl, ?_⟩
          exact hQ _ _ _ _ hB0 trivial
        · exact absurd c32 (by decide)
      · skip
        have d33 : ((1) : Int) ≤ ((I (v1 + 2) (Int32.toNatClampNeg v2)).toInt) := ci_nlt rfl rfl c29
        refine ⟨fun c34 => ?_, fun c34 => ?_⟩
        · skip
          have d35 : ((30) : Int) < ((I (v1 + 2) (Int32.toNatClampNeg v2)).toInt) := ci_lt rfl rfl c34
          refine ⟨Or.inl rfl, ?_⟩
          intro o36
          refine ⟨fun c37 => ?_, fun c37 => ?_⟩
          · skip
            refine ⟨Or.inl rfl, ?_⟩
            exact hQ _ _ _ _ hB0 trivial
          · exact absurd c37 (by decide)
        · skip
          have d38 : (((I (v1 + 2) (Int32.toNatClampNeg v2)).toInt) : Int) ≤ (30) := ci_nlt rfl rfl c34
          refine ⟨Or.inr rfl, ?_⟩
          intro o39
          refine ⟨fun c40 => ?_, fun c40 => ?_⟩
          · exact absurd c40 (by decide)
          · skip
            refine bif_t ho0 ?_
            refine bif_t (fa_0_0 ho0).1 ?_
            refine ⟨by rw [(fa_0_0 ho0).2.1]; exact vp_of (a := (I (v1 + 2) (Int32.toNatClampNeg v2)).toInt) rfl (by omega) (by omega), ?_⟩
            refine bif_t ho1 ?_
            refine bif_t (fa_2_5 ho1).1 ?_
            refine ⟨by rw [(fa_2_5 ho1).2.1]; exact vp_of (a := v2.toInt) rfl (by omega) (by omega), ?_⟩
            refine w_X4_compares ?_
            refine ⟨fun c41 => ?_, fun c41 => ?_⟩
            · skip
              have d42 : ¬ (((I (v1 + 3) (Int32.toNatClampNeg v2)).toInt) : Int) = (60) := ci_ne rfl rfl c41
              refine ⟨fun c43 => ?_, fun c43 => ?_⟩
              · skip
                have d44 : ¬ (((I (v1 + 3) (Int32.toNatClampNeg v2)).toInt) : Int) = (62) := ci_ne rfl rfl c43
                refine ⟨fun c45 => ?_, fun c45 => ?_⟩
                · skip
                  rw [lg_cmp_eq] at c45
                  have i46 := i32 ((I (v0 + 1) (Int32.toNatClampNeg (I (v1 + 2) (Int32.toNatClampNeg v2)))))
                  have i47 := i32 ((I (v1 + 4) (Int32.toNatClampNeg v2)))
                  have d48 : ¬ (((I (v0 + 1) (Int32.toNatClampNeg (I (v1 + 2) (Int32.toNatClampNeg v2)))).toInt) : Int) = ((I (v1 + 4) (Int32.toNatClampNeg v2)).toInt) := cl_ne (tl_i2l rfl) (tl_i2l rfl) c45
                  refine ⟨Or.inl rfl, ?_⟩
                  intro o49
                  refine ⟨fun c50 => ?_, fun c50 => ?_⟩
                  · skip
                    refine ⟨Or.inl rfl, ?_⟩
                    exact hQ _ _ _ _ hB0 trivial
                  · exact absurd c50 (by decide)
                · skip
                  rw [lg_cmp_eq] at c45
                  have i51 := i32 ((I (v0 + 1) (Int32.toNatClampNeg (I (v1 + 2) (Int32.toNatClampNeg v2)))))
                  have i52 := i32 ((I (v1 + 4) (Int32.toNatClampNeg v2)))
                  have d53 : (((I (v0 + 1) (Int32.toNatClampNeg (I (v1 + 2) (Int32.toNatClampNeg v2)))).toInt) : Int) = ((I (v1 + 4) (Int32.toNatClampNeg v2)).toInt) := cl_eq (tl_i2l rfl) (tl_i2l rfl) c45
                  refine ⟨Or.inr rfl, ?_⟩
                  intro o54
                  refine ⟨fun c55 => ?_, fun c55 => ?_⟩
                  · exact absurd c55 (by decide)
                  · skip
                    refine ⟨Or.inr rfl, ?_⟩
                    exact hQ _ _ _ _ hB0 trivial
              · skip
                have d56 : (((I (v1 + 3) (Int32.toNatClampNeg v2)).toInt) : Int) = (62) := ci_eq rfl rfl c43
                refine ⟨fun c57 => ?_, fun c57 => ?_⟩
                · skip
                  rw [lg_cmp_le] at c57
                  have i58 := i32 ((I (v0 + 1) (Int32.toNatClampNeg (I (v1 + 2) (Int32.toNatClampNeg v2)))))
                  have i59 := i32 ((I (v1 + 4) (Int32.toNatClampNeg v2)))
                  have d60 : (((I (v0 + 1) (Int32.toNatClampNeg (I (v1 + 2) (Int32.toNatClampNeg v2)))).toInt) : Int) ≤ ((I (v1 + 4) (Int32.toNatClampNeg v2)).toInt) := cl_le (tl_i2l rfl) (tl_i2l rfl) c57
                  refine ⟨Or.inl rfl, ?_⟩
                  intro o61
                  refine ⟨fun c62 => ?_, fun c62 => ?_⟩
                  · skip
                    refine ⟨Or.inl rfl, ?_⟩
                    exact hQ _ _ _ _ hB0 trivial
                  · exact absurd c62 (by decide)
                · skip
                  rw [lg_cmp_le] at c57
                  have i63 := i32 ((I (v0 + 1) (Int32.toNatClampNeg (I (v1 + 2) (Int32.toNatClampNeg v2)))))
                  have i64 := i32 ((I (v1 + 4) (Int32.toNatClampNeg v2)))
                  have d65 : (((I (v1 + 4) (Int32.toNatClampNeg v2)).toInt) : Int) < ((I (v0 + 1) (Int32.toNatClampNeg (I (v1 + 2) (Int32.toNatClampNeg v2)))).toInt) := cl_nle (tl_i2l rfl) (tl_i2l rfl) c57
                  refine ⟨Or.inr rfl, ?_⟩
                  intro o66
                  refine ⟨fun c67 => ?_, fun c67 => ?_⟩
                  · exact absurd c67 (by decide)
                  · skip
                    refine ⟨Or.inr rfl, ?_⟩
                    exact hQ _ _ _ _ hB0 trivial
            · skip
              have d68 : (((I (v1 + 3) (Int32.toNatClampNeg v2)).toInt) : Int) = (60) := ci_eq rfl rfl c41
              refine ⟨fun c69 => ?_, fun c69 => ?_⟩
              · skip
                rw [lg_cmp_ge] at c69
                have i70 := i32 ((I (v0 + 1) (Int32.toNatClampNeg (I (v1 + 2) (Int32.toNatClampNeg v2)))))
                have i71 := i32 ((I (v1 + 4) (Int32.toNatClampNeg v2)))
                have d72 : (((I (v1 + 4) (Int32.toNatClampNeg v2)).toInt) : Int) ≤ ((I (v0 + 1) (Int32.toNatClampNeg (I (v1 + 2) (Int32.toNatClampNeg v2)))).toInt) := cl_le (tl_i2l rfl) (tl_i2l rfl) c69
                refine ⟨Or.inl rfl, ?_⟩
                intro o73
                refine ⟨fun c74 => ?_, fun c74 => ?_⟩
                · skip
                  refine ⟨Or.inl rfl, ?_⟩
                  exact hQ _ _ _ _ hB0 trivial
                · exact absurd c74 (by decide)
              · skip
                rw [lg_cmp_ge] at c69
                have i75 := i32 ((I (v0 + 1) (Int32.toNatClampNeg (I (v1 + 2) (Int32.toNatClampNeg v2)))))
                have i76 := i32 ((I (v1 + 4) (Int32.toNatClampNeg v2)))
                have d77 : (((I (v0 + 1) (Int32.toNatClampNeg (I (v1 + 2) (Int32.toNatClampNeg v2)))).toInt) : Int) < ((I (v1 + 4) (Int32.toNatClampNeg v2)).toInt) := cl_nle (tl_i2l rfl) (tl_i2l rfl) c69
                refine ⟨Or.inr rfl, ?_⟩
                intro o78
                refine ⟨fun c79 => ?_, fun c79 => ?_⟩
                · exact absurd c79 (by decide)
                · skip
                  refine ⟨Or.inr rfl, ?_⟩
                  exact hQ _ _ _ _ hB0 trivial
    · skip
      have d80 : ¬ (((I (v1 + 1) (Int32.toNatClampNeg v2)).toInt) : Int) = (17) := ci_ne rfl rfl c27
      refine bif_t ho0 ?_
      refine w_X0_isMan ?_
      refine ⟨fun c81 => ?_, fun c81 => ?_⟩
      · skip
        have d82 : (((I (v1 + 2) (Int32.toNatClampNeg v2)).toInt) : Int) < (0) := ci_lt rfl rfl c81
        refine ⟨Or.inl rfl, ?_⟩
        intro o83
        refine ⟨fun c84 => ?_, fun c84 => ?_⟩
        · skip
          refine ⟨Or.inl rfl, ?_⟩
          exact hQ _ _ _ _ hB0 trivial
        · exact absurd c84 (by decide)
      · skip
        have d85 : ((0) : Int) ≤ ((I (v1 + 2) (Int32.toNatClampNeg v2)).toInt) := ci_nlt rfl rfl c81
        refine bif_t ho0 ?_
        refine ⟨fun c86 => ?_, fun c86 => ?_⟩
        · skip
          have b87 := Bd.o hB0 ho0 bd9_0_4
          have d88 : (((I v0 4).toInt) : Int) ≤ ((I (v1 + 2) (Int32.toNatClampNeg v2)).toInt) := ci_le rfl rfl c86
          refine ⟨Or.inl rfl, ?_⟩
          intro o89
          refine ⟨fun c90 => ?_, fun c90 => ?_⟩
          · skip
            refine ⟨Or.inl rfl, ?_⟩
            exact hQ _ _ _ _ hB0 trivial
          · exact absurd c90 (by decide)
        · skip
          have b91 := Bd.o hB0 ho0 bd9_0_4
          have d92 : (((I (v1 + 2) (Int32.toNatClampNeg v2)).toInt) : Int) < ((I v0 4).toInt) := ci_nle rfl rfl c86
          refine ⟨Or.inr rfl, ?_⟩
          intro o93
          refine ⟨fun c94 => ?_, fun c94 => ?_⟩
          · exact absurd c94 (by decide)
          · skip
            refine bif_t ho0 ?_
            refine sp_X0_lacking hB0 hR0 ho0 (by have z : ((I (v1 + 2) (Int32.toNatClampNeg v2)) : Int32).toInt = (I (v1 + 2) (Int32.toNatClampNeg v2)).toInt := rfl; omega) (fun x95 y100 I96 J97 hB98 p99 => ?_)
            refine bif_t ho1 ?_
            refine bif_t (fa_2_5 ho1).1 ?_
            refine ⟨by rw [(fa_2_5 ho1).2.1]; exact vp_of (a := v2.toInt) rfl (by omega) (by omega), ?_⟩
            refine w_X4_compares ?_
            refine ⟨fun c101 => ?_, fun c101 => ?_⟩
            · skip
              have d102 : ¬ (((I96 (v1 + 3) (Int32.toNatClampNeg v2)).toInt) : Int) = (60) := ci_ne rfl rfl c101
              refine ⟨fun c103 => ?_, fun c103 => ?_⟩
              · skip
                have d104 : ¬ (((I96 (v1 + 3) (Int32.toNatClampNeg v2)).toInt) : Int) = (62) := ci_ne rfl rfl c103
                refine ⟨fun c105 => ?_, fun c105 => ?_⟩
                · skip
                  rw [lg_cmp_eq] at c105
                  have d106 : ¬ (((y100 : Int64).toInt) : Int) = ((((Int32.toInt64 (I (v1 + 4) (Int32.toNatClampNeg v2))) * 2329089562800) : Int64).toInt) := cl_ne rfl rfl c105
                  refine ⟨Or.inl rfl, ?_⟩
                  intro o107
                  refine ⟨fun c108 => ?_, fun c108 => ?_⟩
                  · skip
                    refine ⟨Or.inl rfl, ?_⟩
                    exact hQ _ _ _ _ hB98 trivial
                  · exact absurd c108 (by decide)
                · skip
                  rw [lg_cmp_eq] at c105
                  have d109 : (((y100 : Int64).toInt) : Int) = ((((Int32.toInt64 (I (v1 + 4) (Int32.toNatClampNeg v2))) * 2329089562800) : Int64).toInt) := cl_eq rfl rfl c105
                  refine ⟨Or.inr rfl, ?_⟩
                  intro o110
                  refine ⟨fun c111 => ?_, fun c111 => ?_⟩
                  · exact absurd c111 (by decide)
                  · skip
                    refine ⟨Or.inr rfl, ?_⟩
                    exact hQ _ _ _ _ hB98 trivial
              · skip
                have d112 : (((I96 (v1 + 3) (Int32.toNatClampNeg v2)).toInt) : Int) = (62) := ci_eq rfl rfl c103
                refine ⟨fun c113 => ?_, fun c113 => ?_⟩
                · skip
                  rw [lg_cmp_le] at c113
                  have d114 : (((y100 : Int64).toInt) : Int) ≤ ((((Int32.toInt64 (I (v1 + 4) (Int32.toNatClampNeg v2))) * 2329089562800) : Int64).toInt) := cl_le rfl rfl c113
                  refine ⟨Or.inl rfl, ?_⟩
                  intro o115
                  refine ⟨fun c116 => ?_, fun c116 => ?_⟩
                  · skip
                    refine ⟨Or.inl rfl, ?_⟩
                    exact hQ _ _ _ _ hB98 trivial
                  · exact absurd c116 (by decide)
                · skip
                  rw [lg_cmp_le] at c113
                  have d117 : (((((Int32.toInt64 (I (v1 + 4) (Int32.toNatClampNeg v2))) * 2329089562800) : Int64).toInt) : Int) < ((y100 : Int64).toInt) := cl_nle rfl rfl c113
                  refine ⟨Or.inr rfl, ?_⟩
                  intro o118
                  refine ⟨fun c119 => ?_, fun c119 => ?_⟩
                  · exact absurd c119 (by decide)
                  · skip
                    refine ⟨Or.inr rfl, ?_⟩
                    exact hQ _ _ _ _ hB98 trivial
            · skip
              have d120 : (((I96 (v1 + 3) (Int32.toNatClampNeg v2)).toInt) : Int) = (60) := ci_eq rfl rfl c101
              refine ⟨fun c121 => ?_, fun c121 => ?_⟩
              · skip
                rw [lg_cmp_ge] at c121
                have d122 : (((((Int32.toInt64 (I (v1 + 4) (Int32.toNatClampNeg v2))) * 2329089562800) : Int64).toInt) : Int) ≤ ((y100 : Int64).toInt) := cl_le rfl rfl c121
                refine ⟨Or.inl rfl, ?_⟩
                intro o123
                refine ⟨fun c124 => ?_, fun c124 => ?_⟩
                · skip
                  refine ⟨Or.inl rfl, ?_⟩
                  exact hQ _ _ _ _ hB98 trivial
                · exact absurd c124 (by decide)
              · skip
                rw [lg_cmp_ge] at c121
                have d125 : (((y100 : Int64).toInt) : Int) < ((((Int32.toInt64 (I (v1 + 4) (Int32.toNatClampNeg v2))) * 2329089562800) : Int64).toInt) := cl_nle rfl rfl c121
                refine ⟨Or.inr rfl, ?_⟩
                intro o126
                refine ⟨fun c127 => ?_, fun c127 => ?_⟩
                · exact absurd c127 (by decide)
                · skip
                  refine ⟨Or.inr rfl, ?_⟩
                  exact hQ _ _ _ _ hB98 trivial
