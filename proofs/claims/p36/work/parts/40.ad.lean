set_option maxHeartbeats 2000000 in
theorem sp_X1_readOdds {d : Nat} {Q : Qt} {v1 : Nat} {I : Im} {J : Jm} {R : Rm} (hB0 : Bd I) (hR0 : RI R) (ho1 : isO 112 v1 0 = true) (hQ : ∀ (x : Int32) (y : Int64) (I2 : Im) (J2 : Jm), Bd I2 → (True) → Q x y I2 J2 R) : AM (d + 5) 22 112 [.ref 6, .ref v1, .ref 3] I J R Q := by
  refine w_X1_readOdds ?_
  refine sp_X6_takeAny hB0 hR0 (fun x1 y6 I2 J3 hB4 p5 => ?_)
  intro o7
  have i8 := i32 x1
  refine ⟨fun c9 => ?_, fun c9 => ?_⟩
  · skip
    have b10 := Bd.o hB4 io9_112_6_1 bd9_1_0
    have d11 : (((I2 6 0).toInt) : Int) = (0) := ci_eq rfl rfl c9
    refine ⟨Or.inr rfl, ?_⟩
    have hB12 : Bd (uI I2 6 0 1) := Bd.o1 hB4 io9_112_6_1 (by omega) bd9_1_0 rfl (bl_ti (Or.inr rfl))
    refine sp_X6_takeNumber hB12 hR0 (fun x13 y18 I14 J15 hB16 p17 => ?_)
    have i19 := i32 x13
    refine bif_t ho1 ?_
    have hB20 : Bd (uI I14 v1 1 x13) := Bd.o0 hB16 ho1 (by omega) bd9_0_1
    refine bif_t ho1 ?_
    refine ⟨fun c21 => ?_, fun c21 => ?_⟩
    · skip
      have e22 : (((uI I14 v1 1 x13) v1 1) : Int32).toInt = x13.toInt := Eq.trans (congrArg Int32.toInt rd_eq) rfl
      have d23 : ((x13.toInt) : Int) = ((-1)) := ci_eq e22 rfl c21
      refine ⟨Or.inl rfl, ?_⟩
      exact hQ _ _ _ _ hB20 trivial
    · skip
      have e24 : (((uI I14 v1 1 x13) v1 1) : Int32).toInt = x13.toInt := Eq.trans (congrArg Int32.toInt rd_eq) rfl
      have d25 : ¬ ((x13.toInt) : Int) = ((-1)) := ci_ne e24 rfl c21
      refine sp_X6_takeSemicolon hB20 hR0 (fun x26 y31 I27 J28 hB29 p30 => ?_)
      intro o32
      have i33 := i32 x26
      refine ⟨fun c34 => ?_, fun c34 => ?_⟩
      · skip
        have d35 : ((x26.toInt) : Int) = (0) := ci_eq rfl rfl c34
        refine ⟨Or.inl rfl, ?_⟩
        exact hQ _ _ _ _ hB29 trivial
      · skip
        have d36 : ¬ ((x26.toInt) : Int) = (0) := ci_ne rfl rfl c34
        refine ⟨Or.inr rfl, ?_⟩
        exact hQ _ _ _ _ hB29 trivial
  · skip
    have b37 := Bd.o hB4 io9_112_6_1 bd9_1_0
    have d38 : ¬ (((I2 6 0).toInt) : Int) = (0) := ci_ne rfl rfl c9
    refine w_X6_wrongTaken ?_
    refine w_X6_wrong ?_
    have hB39 : Bd (uI I2 3 12 5) := Bd.o0 hB4 io9_112_3_6 (by omega) bd9_6_12
    have hB40 : Bd (uI (uI I2 3 12 5) 3 13 (I2 3 7)) := Bd.o0 hB39 io9_112_3_6 (by omega) bd9_6_13
    refine ⟨Or.inl rfl, ?_⟩
    intro o41
    refine ⟨Or.inl rfl, ?_⟩
    intro o42
    refine ⟨Or.inl rfl, ?_⟩
    exact hQ _ _ _ _ hB40 trivial
set_option maxHeartbeats 2000000 in
theorem sp_X1_readStore {d : Nat} {Q : Qt} {v1 : Nat} {I : Im} {J : Jm} {R : Rm} (hB0 : Bd I) (hR0 : RI R) (ho1 : isO 112 v1 0 = true) (hQ : ∀ (x : Int32) (y : Int64) (I2 : Im) (J2 : Jm), Bd I2 → (True) → Q x y I2 J2 R) : AM (d + 5) 23 112 [.ref 6, .ref v1, .ref 3] I J R Q := by
  refine am_X1_readStore (fun P hc => ?_)
  have L : ∀ n : Nat, (∀ (v3 : Int32) (v4 : Int32) (M : Im) (JM : Jm), Bd M → (1 ≤ v3.toInt ∧ v3.toInt ≤ 30) → 1 < (n : Int) → P 77 112 [(1, .ref v1), (2, .ref 3), (3, .int v3), (4, .int v4)] [] M JM R) := by
    intro n
    induction n with
    | zero =>
      exact fun v3 v4 M J _ hi hm => absurd hm (by omega)
    | succ n ih =>
      intro v3 v4 M JM hB hi hm
      have i_v3 := i32 v3
      have i_v4 := i32 v4
      refine sg_X1_readStore_77 hc _ _ _ _ _ _ ?_
      refine bif_t ho1 ?_
      refine bif_t (fa_0_0 ho1).1 ?_
      refine ⟨by rw [(fa_0_0 ho1).2.1]; exact vp_of (a := v3.toInt) rfl (by omega) (by omega), ?_⟩
      have hB1 : Bd (uI M (v1 + 1) (Int32.toNatClampNeg v3) v4) := Bd.a0 hB (fa_0_0 ho1).1 (fa_0_0 ho1).2.2
      refine ⟨fun c2 => ?_, fun c2 => ?_⟩
      · skip
        have d3 : ((v4.toInt) : Int) = ((-1)) := ci_eq rfl rfl c2
        refine ⟨Or.inl rfl, ?_⟩
        exact hQ _ _ _ _ hB1 trivial
      · skip
        have d4 : ¬ ((v4.toInt) : Int) = ((-1)) := ci_ne rfl rfl c2
        refine sp_X6_takeSemicolon hB1 hR0 (fun x5 y10 I6 J7 hB8 p9 => ?_)
        intro o11
        have i12 := i32 x5
        refine ⟨fun c13 => ?_, fun c13 => ?_⟩
        · skip
          have d14 : ((x5.toInt) : Int) = (0) := ci_eq rfl rfl c13
          refine ⟨Or.inl rfl, ?_⟩
          exact hQ _ _ _ _ hB8 trivial
        · skip
          have d15 : ¬ ((x5.toInt) : Int) = (0) := ci_ne rfl rfl c13
          refine ⟨Or.inr rfl, ?_⟩
          exact hQ _ _ _ _ hB8 trivial
  refine sg_X1_readStore_0 hc _ _ _ _ ?_
  refine sp_X6_takeAny hB0 hR0 (fun x16 y21 I17 J18 hB19 p20 => ?_)
  intro o22
  have i23 := i32 x16
  refine sp_X6_takeNumber hB19 hR0 (fun x24 y29 I25 J26 hB27 p28 => ?_)
  have i30 := i32 x24
  refine w_X11_isSlice ?_
  refine ⟨fun c31 => ?_, fun c31 => ?_⟩
  · skip
    have d32 : ((x24.toInt) : Int) < (1) := ci_lt rfl rfl c31
    refine ⟨Or.inl rfl, ?_⟩
    intro o33
    refine ⟨fun c34 => ?_, fun c34 => ?_⟩
    · exact absurd c34 (by decide)
    · skip
      refine ⟨Or.inl rfl, ?_⟩
      exact hQ _ _ _ _ hB27 trivial
  · skip
    have d35 : ((1) : Int) ≤ (x24.toInt) := ci_nlt rfl rfl c31
    refine ⟨fun c36 => ?_, fun c36 => ?_⟩
    · skip
      have d37 : ((30) : Int) < (x24.toInt) := ci_lt rfl rfl c36
      refine ⟨Or.inl rfl, ?_⟩
      intro o38
      refine ⟨fun c39 => ?_, fun c39 => ?_⟩
      · exact absurd c39 (by decide)
      · skip
        refine ⟨Or.inl rfl, ?_⟩
        exact hQ _ _ _ _ hB27 trivial
    · skip
      have d40 : ((x24.toInt) : Int) ≤ (30) := ci_nlt rfl rfl c36
      refine ⟨Or.inr rfl, ?_⟩
      intro o41
      refine ⟨fun c42 => ?_, fun c42 => ?_⟩
      · skip
        refine w_X11_isIn ?_
        refine ⟨fun c43 => ?_, fun c43 => ?_⟩
        · skip
          have d44 : (((((I25 6 2) &&& (1 <<< ((x24 - 1) &&& 31))) : Int32).toInt) : Int) = (0) := ci_eq rfl rfl c43
          refine ⟨Or.inl rfl, ?_⟩
          intro o45
          refine ⟨fun c46 => ?_, fun c46 => ?_⟩
          · skip
            refine w_X11_bit ?_
            have hB47 : Bd (uI I25 6 2 ((I25 6 2) ||| (1 <<< ((x24 - 1) &&& 31)))) := Bd.o0 hB27 io9_112_6_1 (by omega) bd9_1_2
            refine ⟨fun c48 => ?_, fun c48 => ?_⟩
            · skip
              have e49 : (((uI I25 6 2 ((I25 6 2) ||| (1 <<< ((x24 - 1) &&& 31)))) 3 9) : Int32).toInt = (I25 3 9).toInt := Eq.trans (congrArg Int32.toInt (rd_ne (by first | decide | omega))) rfl
              have d50 : ¬ (((I25 3 9).toInt) : Int) = (3) := ci_ne e49 rfl c48
              exact (L 1000000) _ _ _ _ hB47 (by have q0 : (x24 : Int32).toInt = x24.toInt := rfl; omega) (by omega)
            · skip
              have e51 : (((uI I25 6 2 ((I25 6 2) ||| (1 <<< ((x24 - 1) &&& 31)))) 3 9) : Int32).toInt = (I25 3 9).toInt := Eq.trans (congrArg Int32.toInt (rd_ne (by first | decide | omega))) rfl
              have d52 : (((I25 3 9).toInt) : Int) = (3) := ci_eq e51 rfl c48
              refine sp_X6_takeAny hB47 hR0 (fun x53 y58 I54 J55 hB56 p57 => ?_)
              intro o59
              have i60 := i32 x53
              refine sp_X6_takeNumber hB56 hR0 (fun x61 y66 I62 J63 hB64 p65 => ?_)
              have i67 := i32 x61
              exact (L 1000000) _ _ _ _ hB64 (by have q0 : (x24 : Int32).toInt = x24.toInt := rfl; omega) (by omega)
          · exact absurd c46 (by decide)
        · skip
          have d68 : ¬ (((((I25 6 2) &&& (1 <<< ((x24 - 1) &&& 31))) : Int32).toInt) : Int) = (0) := ci_ne rfl rfl c43
          refine ⟨Or.inr rfl, ?_⟩
          intro o69
          refine ⟨fun c70 => ?_, fun c70 => ?_⟩
          · exact absurd c70 (by decide)
          · skip
            refine w_X6_wrongTaken ?_
            refine w_X6_wrong ?_
            have hB71 : Bd (uI I25 3 12 5) := Bd.o0 hB27 io9_112_3_6 (by omega) bd9_6_12
            have hB72 : Bd (uI (uI I25 3 12 5) 3 13 (I25 3 7)) := Bd.o0 hB71 io9_112_3_6 (by omega) bd9_6_13
            refine ⟨Or.inl rfl, ?_⟩
            intro o73
            refine ⟨Or.inl rfl, ?_⟩
            intro o74
            refine ⟨Or.inl rfl, ?_⟩
            exact hQ _ _ _ _ hB72 trivial
      · exact absurd c42 (by decide)
set_option maxHeartbeats 2000000 in
theorem sp_X1_readMan {d : Nat} {Q : Qt} {v0 : Nat} {I : Im} {J : Jm} {R : Rm} (hB0 : Bd I) (hR0 : RI R) (ho0 : isO 112 v0 0 = true) (hQ : ∀ (x : Int32) (y : Int64) (I2 : Im) (J2 : Jm), Bd I2 → (True) → Q x y I2 J2 R) : AM (d + 5) 24 112 [.ref v0, .ref 3] I J R Q := by
  refine w_X1_readMan ?_
  refine sp_X6_takeAny hB0 hR0 (fun x1 y6 I2 J3 hB4 p5 => ?_)
  intro o7
  have i8 := i32 x1
  refine bif_t ho0 ?_
  refine ⟨fun c9 => ?_, fun c9 => ?_⟩
  · skip
    have b10 := Bd.o hB4 ho0 bd9_0_4
    have d11 : (((I2 v0 4).toInt) : Int) < (6) := ci_lt rfl rfl c9
    refine sp_X6_takeName hB4 hR0 (fun x12 y17 I13 J14 hB15 p16 => ?_)
    refine ⟨fun c18 => ?_, fun c18 => ?_⟩
    · skip
      rw [lg_cmp_eq] at c18
      have d19 : ¬ (((y17 : Int64).toInt) : Int) = (0) := cl_ne rfl rfl c18
      refine bif_t ho0 ?_
      refine sp_X0_manNamed hB15 hR0 ho0 (fun x20 y25 I21 J22 hB23 p24 => ?_)
      have i26 := i32 x20
      refine ⟨fun c27 => ?_, fun c27 => ?_⟩
      · skip
        have d28 : ((x20.toInt) : Int) = ((-1)) := ci_eq rfl rfl c27
        refine sp_X6_takeWord hB23 hR0 (fun x29 y34 I30 J31 hB32 p33 => ?_)
        intro o35
        have i36 := i32 x29
        refine ⟨fun c37 => ?_, fun c37 => ?_⟩
        · skip
          have d38 : ((x29.toInt) : Int) = (0) := ci_eq rfl rfl c37
          refine ⟨fun c39 => ?_, fun c39 => ?_⟩
          · skip
            refine ⟨Or.inl rfl, ?_⟩
            exact hQ _ _ _ _ hB32 trivial
          · exact absurd c39 (by decide)
        · skip
          have d40 : ¬ ((x29.toInt) : Int) = (0) := ci_ne rfl rfl c37
          refine sp_X6_takeNumber hB32 hR0 (fun x41 y46 I42 J43 hB44 p45 => ?_)
          have i47 := i32 x41
          refine ⟨fun c48 => ?_, fun c48 => ?_⟩
          · skip
            have d49 : ((x41.toInt) : Int) = ((-1)) := ci_eq rfl rfl c48
            refine ⟨Or.inl rfl, ?_⟩
            exact hQ _ _ _ _ hB44 trivial
          · skip
            have d50 : ¬ ((x41.toInt) : Int) = ((-1)) := ci_ne rfl rfl c48
            refine sp_X6_takeWord hB44 hR0 (fun x51 y56 I52 J53 hB54 p55 => ?_)
            intro o57
            have i58 := i32 x51
            refine ⟨fun c59 => ?_, fun c59 => ?_⟩
            · skip
              have d60 : ¬ ((x51.toInt) : Int) = (0) := ci_ne rfl rfl c59
              refine sp_X6_takeNumber hB54 hR0 (fun x61 y66 I62 J63 hB64 p65 => ?_)
              have i67 := i32 x61
              refine ⟨fun c68 => ?_, fun c68 => ?_⟩
              · skip
                have d69 : ¬ ((x61.toInt) : Int) = ((-1)) := ci_ne rfl rfl c68
                refine bif_t ho0 ?_
                refine sp_X0_addMan hB64 hR0 ho0 (fun x70 y75 I71 J72 hB73 p74 => ?_)
                have i76 := i32 x70
                refine ⟨fun c77 => ?_, fun c77 => ?_⟩
                · skip
                  have d78 : ¬ (((I71 3 9).toInt) : Int) = (7) := ci_ne rfl rfl c77
                  refine ⟨fun c79 => ?_, fun c79 => ?_⟩
                  · skip
                    have d80 : ¬ (((I71 3 12).toInt) : Int) = (0) := ci_ne rfl rfl c79
                    refine ⟨Or.inl rfl, ?_⟩
                    exact hQ _ _ _ _ hB73 trivial
                  · skip
                    have d81 : (((I71 3 12).toInt) : Int) = (0) := ci_eq rfl rfl c79
                    refine sp_X6_takeSemicolon hB73 hR0 (fun x82 y87 I83 J84 hB85 p86 => ?_)
                    intro o88
                    have i89 := i32 x82
                    refine ⟨fun c90 => ?_, fun c90 => ?_⟩
                    · skip
                      have d91 : ((x82.toInt) : Int) = (0) := ci_eq rfl rfl c90
                      refine ⟨Or.inl rfl, ?_⟩
                      exact hQ _ _ _ _ hB85 trivial
                    · skip
                      have d92 : ¬ ((x82.toInt) : Int) = (0) := ci_ne rfl rfl c90
                      refine ⟨Or.inr rfl, ?_⟩
                      exact hQ _ _ _ _ hB85 trivial
                · skip
                  have d93 : (((I71 3 9).toInt) : Int) = (7) := ci_eq rfl rfl c77
                  refine bif_t ho0 ?_
                  refine w_X0_isMan ?_
                  refine ⟨fun c94 => ?_, fun c94 => ?_⟩
                  · skip
                    have d95 : ((x70.toInt) : Int) < (0) := ci_lt rfl rfl c94
                    refine ⟨Or.inl rfl, ?_⟩
                    intro o96
                    refine ⟨fun c97 => ?_, fun c97 => ?_⟩
                    · skip
                      refine ⟨fun c98 => ?_, fun c98 => ?_⟩
                      · skip
                        have d99 : ¬ (((I71 3 12).toInt) : Int) = (0) := ci_ne rfl rfl c98
                        refine ⟨Or.inl rfl, ?_⟩
                        exact hQ _ _ _ _ hB73 trivial
                      · skip
                        have d100 : (((I71 3 12).toInt) : Int) = (0) := ci_eq rfl rfl c98
                        refine sp_X6_takeSemicolon hB73 hR0 (fun x101 y106 I102 J103 hB104 p105 => ?_)
                        intro o107
                        have i108 := i32 x101
                        refine ⟨fun c109 => ?_, fun c109 => ?_⟩
                        · skip
                          have d110 : ((x101.toInt) : Int) = (0) := ci_eq rfl rfl c109
                          refine ⟨Or.inl rfl, ?_⟩
                          exact hQ _ _ _ _ hB104 trivial
                        · skip
                          have d111 : ¬ ((x101.toInt) : Int) = (0) := ci_ne rfl rfl c109
                          refine ⟨Or.inr rfl, ?_⟩
                          exact hQ _ _ _ _ hB104 trivial
                    · exact absurd c97 (by decide)
                  · skip
                    have d112 : ((0) : Int) ≤ (x70.toInt) := ci_nlt rfl rfl c94
                    refine bif_t ho0 ?_
                    refine ⟨fun c113 => ?_, fun c113 => ?_⟩
                    · skip
                      have b114 := Bd.o hB73 ho0 bd9_0_4
                      have d115 : (((I71 v0 4).toInt) : Int) ≤ (x70.toInt) := ci_le rfl rfl c113
                      refine ⟨Or.inl rfl, ?_⟩
                      intro o116
                      refine ⟨fun c117 => ?_, fun c117 => ?_⟩
                      · skip
                        refine ⟨fun c118 => ?_, fun c118 => ?_⟩
                        · skip
                          have d119 : ¬ (((I71 3 12).toInt) : Int) = (0) := ci_ne rfl rfl c118
                          refine ⟨Or.inl rfl, ?_⟩
                          exact hQ _ _ _ _ hB73 trivial
                        · skip
                          have d120 : (((I71 3 12).toInt) : Int) = (0) := ci_eq rfl rfl c118
                          refine sp_X6_takeSemicolon hB73 hR0 (fun x121 y126 I122 J123 hB124 p125 => ?_)
                          intro o127
                          have i128 := i32 x121
                          refine ⟨fun c129 => ?_, fun c129 => ?_⟩
                          · skip
                            have d130 : ((x121.toInt) : Int) = (0) := ci_eq rfl rfl c129
                            refine ⟨Or.inl rfl, ?_⟩
                            exact hQ _ _ _ _ hB124 trivial
                          · skip
                            have d131 : ¬ ((x121.toInt) : Int) = (0) := ci_ne rfl rfl c129
                            refine ⟨Or.inr rfl, ?_⟩
                            exact hQ _ _ _ _ hB124 trivial
                      · exact absurd c117 (by decide)
                    · skip
                      have b132 := Bd.o hB73 ho0 bd9_0_4
                      have d133 : ((x70.toInt) : Int) < ((I71 v0 4).toInt) := ci_nle rfl rfl c113
                      refine ⟨Or.inr rfl, ?_⟩
                      intro o134
                      refine ⟨fun c135 => ?_, fun c135 => ?_⟩
                      · exact absurd c135 (by decide)
                      · skip
                        refine sp_X6_takeAny hB73 hR0 (fun x136 y141 I137 J138 hB139 p140 => ?_)
                        intro o142
                        have i143 := i32 x136
                        refine bif_t ho0 ?_
                        refine sp_X1_takeSlices hB139 hR0 (fun x144 y149 I145 J146 hB147 p148 => ?_)
                        have i150 := i32 x144
                        refine bif_t (fa_0_8 ho0).1 ?_
                        refine ⟨by rw [(fa_0_8 ho0).2.1]; exact vp_of (a := x70.toInt) rfl (by omega) (by omega), ?_⟩
                        have hB151 : Bd (uI I145 (v0 + 5) (Int32.toNatClampNeg x70) x144) := Bd.a0 hB147 (fa_0_8 ho0).1 (fa_0_8 ho0).2.2
                        refine ⟨fun c152 => ?_, fun c152 => ?_⟩
                        · skip
                          have e153 : (((uI I145 (v0 + 5) (Int32.toNatClampNeg x70) x144) 3 12) : Int32).toInt = (I145 3 12).toInt := Eq.trans (congrArg Int32.toInt (rd_ne (cne (clO io9_112_3_6) (clA (fa_0_8 ho0).1) rfl))) rfl
                          have d154 : ¬ (((I145 3 12).toInt) : Int) = (0) := ci_ne e153 rfl c152
                          refine ⟨Or.inl rfl, ?_⟩
                          exact hQ _ _ _ _ hB151 trivial
                        · skip
                          have e155 : (((uI I145 (v0 + 5) (Int32.toNatClampNeg x70) x144) 3 12) : Int32).toInt = (I145 3 12).toInt := Eq.trans (congrArg Int32.toInt (rd_ne (cne (clO io9_112_3_6) (clA (fa_0_8 ho0).1) rfl))) rfl
                          have d156 : (((I145 3 12).toInt) : Int) = (0) := ci_eq e155 rfl c152
                          refine sp_X6_takeSemicolon hB151 hR0 (fun x157 y162 I158 J159 hB160 p161 => ?_)
                          intro o163
                          have i164 := i32 x157
                          refine ⟨fun c165 => ?_, fun c165 => ?_⟩
                          · skip
                            have d166 : ((x157.toInt) : Int) = (0) := ci_eq rfl rfl c165
                            refine ⟨Or.inl rfl, ?_⟩
                            exact hQ _ _ _ _ hB160 trivial
                          · skip
                            have d167 : ¬ ((x157.toInt) : Int) = (0) := ci_ne rfl rfl c165
                            refine ⟨Or.inr rfl, ?_⟩
                            exact hQ _ _ _ _ hB160 trivial
              · skip
                have d168 : ((x61.toInt) : Int) = ((-1)) := ci_eq rfl rfl c68
                refine ⟨Or.inl rfl, ?_⟩
                exact hQ _ _ _ _ hB64 trivial
            · skip
              have d169 : ((x51.toInt) : Int) = (0) := ci_eq rfl rfl c59
              refine ⟨Or.inl rfl, ?_⟩
              exact hQ _ _ _ _ hB54 trivial
      · skip
        have d170 : ¬ ((x20.toInt) : Int) = ((-1)) := ci_ne rfl rfl c27
        refine w_X6_wrongTaken ?_
        refine w_X6_wrong ?_
        have hB171 : Bd (uI I21 3 12 3) := Bd.o0 hB23 io9_112_3_6 (by omega) bd9_6_12
        have hB172 : Bd (uI (uI I21 3 12 3) 3 13 (I21 3 7)) := Bd.o0 hB171 io9_112_3_6 (by omega) bd9_6_13
        refine ⟨Or.inl rfl, ?_⟩
        intro o173
        refine ⟨Or.inl rfl, ?_⟩
        intro o174
        refine ⟨Or.inl rfl, ?_⟩
        exact hQ _ _ _ _ hB172 trivial
    · skip
      rw [lg_cmp_eq] at c18
      have d175 : (((y17 : Int64).toInt) : Int) = (0) := cl_eq rfl rfl c18
      refine ⟨Or.inl rfl, ?_⟩
      exact hQ _ _ _ _ hB15 trivial
  · skip
    have b176 := Bd.o hB4 ho0 bd9_0_4
    have d177 : ((6) : Int) ≤ ((I2 v0 4).toInt) := ci_nlt rfl rfl c9
    refine w_X6_wrongTaken ?_
    refine w_X6_wrong ?_
    have hB178 : Bd (uI I2 3 12 6) := Bd.o0 hB4 io9_112_3_6 (by omega) bd9_6_12
    have hB179 : Bd (uI (uI I2 3 12 6) 3 13 (I2 3 7)) := Bd.o0 hB178 io9_112_3_6 (by omega) bd9_6_13
    refine ⟨Or.inl rfl, ?_⟩
    intro o180
    refine ⟨Or.inl rfl, ?_⟩
    intro o181
    refine ⟨Or.inl rfl, ?_⟩
    exact hQ _ _ _ _ hB179 trivial
set_option maxHeartbeats 2000000 in
theorem sp_X1_readKnown {d : Nat} {Q : Qt} {v1 : Nat} {I : Im} {J : Jm} {R : Rm} (hB0 : Bd I) (hR0 : RI R) (ho1 : isO 112 v1 0 = true) (hQ : ∀ (x : Int32) (y : Int64) (I2 : Im) (J2 : Jm), Bd I2 → (True) → Q x y I2 J2 R) : AM (d + 5) 25 112 [.ref 6, .ref v1, .ref 3] I J R Q := by
  refine w_X1_readKnown ?_
  refine sp_X6_takeAny hB0 hR0 (fun x1 y6 I2 J3 hB4 p5 => ?_)
  intro o7
  have i8 := i32 x1
  refine ⟨fun c9 => ?_, fun c9 => ?_⟩
  · skip
    have b10 := Bd.o hB4 io9_112_6_1 bd9_1_1
    have d11 : (((I2 6 1).toInt) : Int) = (0) := ci_eq rfl rfl c9
    refine ⟨Or.inr rfl, ?_⟩
    have hB12 : Bd (uI I2 6 1 1) := Bd.o1 hB4 io9_112_6_1 (by omega) bd9_1_1 rfl (bl_ti (Or.inr rfl))
    refine sp_X1_takeSlices hB12 hR0 (fun x13 y18 I14 J15 hB16 p17 => ?_)
    have i19 := i32 x13
    refine bif_t ho1 ?_
    have hB20 : Bd (uI I14 v1 2 x13) := Bd.o0 hB16 ho1 (by omega) bd9_0_2
    refine ⟨fun c21 => ?_, fun c21 => ?_⟩
    · skip
      have e22 : (((uI I14 v1 2 x13) 3 12) : Int32).toInt = (I14 3 12).toInt := Eq.trans (congrArg Int32.toInt (rd_ne (cne (clO io9_112_3_6) (clO ho1) rfl))) rfl
      have d23 : ¬ (((I14 3 12).toInt) : Int) = (0) := ci_ne e22 rfl c21
      refine ⟨Or.inl rfl, ?_⟩
      exact hQ _ _ _ _ hB20 trivial
    · skip
      have e24 : (((uI I14 v1 2 x13) 3 12) : Int32).toInt = (I14 3 12).toInt := Eq.trans (congrArg Int32.toInt (rd_ne (cne (clO io9_112_3_6) (clO ho1) rfl))) rfl
      have d25 : (((I14 3 12).toInt) : Int) = (0) := ci_eq e24 rfl c21
      refine sp_X6_takeSemicolon hB20 hR0 (fun x26 y31 I27 J28 hB29 p30 => ?_)
      intro o32
      have i33 := i32 x26
      refine ⟨fun c34 => ?_, fun c34 => ?_⟩
      · skip
        have d35 : ((x26.toInt) : Int) = (0) := ci_eq rfl rfl c34
        refine ⟨Or.inl rfl, ?_⟩
        exact hQ _ _ _ _ hB29 trivial
      · skip
        have d36 : ¬ ((x26.toInt) : Int) = (0) := ci_ne rfl rfl c34
        refine ⟨Or.inr rfl, ?_⟩
        exact hQ _ _ _ _ hB29 trivial
  · skip
    have b37 := Bd.o hB4 io9_112_6_1 bd9_1_1
    have d38 : ¬ (((I2 6 1).toInt) : Int) = (0) := ci_ne rfl rfl c9
    refine w_X6_wrongTaken ?_
    refine w_X6_wrong ?_
    have hB39 : Bd (uI I2 3 12 5) := Bd.o0 hB4 io9_112_3_6 (by omega) bd9_6_12
    have hB40 : Bd (uI (uI I2 3 12 5) 3 13 (I2 3 7)) := Bd.o0 hB39 io9_112_3_6 (by omega) bd9_6_13
    refine ⟨Or.inl rfl, ?_⟩
    intro o41
    refine ⟨Or.inl rfl, ?_⟩
    intro o42
    refine ⟨Or.inl rfl, ?_⟩
    exact hQ _ _ _ _ hB40 trivial
set_option maxHeartbeats 2000000 in
theorem sp_X1_readInto {d : Nat} {Q : Qt} {v1 : Nat} {I : Im} {J : Jm} {R : Rm} (hB0 : Bd I) (hR0 : RI R) (ho1 : isO 112 v1 0 = true) (hQ : ∀ (x : Int32) (y : Int64) (I2 : Im) (J2 : Jm), Bd I2 → (True) → Q x y I2 J2 R) : AM (d + 6) 21 112 [.ref 6, .ref v1, .ref 3] I J R Q := by
  refine am_X1_readInto (fun P hc => ?_)
  have L : ∀ n : Nat, (∀ (v3 : Int32) (v4 : Int32) (M : Im) (JM : Jm), Bd M → (v3 = 0 ∨ v3 = 1) → (0 ≤ v4.toInt ∧ v4.toInt ≤ 900) → 1000 - v4.toInt < (n : Int) → P 24 112 [(0, .ref 6), (1, .ref v1), (2, .ref 3), (3, .int v3), (4, .int v4)] [] M JM R) := by
    intro n
    induction n with
    | zero =>
      exact fun v3 v4 M J _ _ hi hm => absurd hm (by omega)
    | succ n ih =>
      intro v3 v4 M JM hB hb_v3 hi hm
      have i_v3 := i32 v3
      have i_v4 := i32 v4
      refine sg_X1_readInto_24 hc _ _ _ _ _ _ ?_
      refine ⟨fun c1 => ?_, fun c1 => ?_⟩
      · skip
        have d2 : ((900) : Int) ≤ (v4.toInt) := ci_le rfl rfl c1
        refine ⟨hb_v3, ?_⟩
        exact hQ _ _ _ _ hB trivial
      · skip
        have d3 : ((v4.toInt) : Int) < (900) := ci_nle rfl rfl c1
        refine ⟨fun c4 => ?_, fun c4 => ?_⟩
        · skip
          have d5 : ((v3.toInt) : Int) = (0) := ci_eq rfl rfl c4
          refine ⟨hb_v3, ?_⟩
          exact hQ _ _ _ _ hB trivial
        · skip
          have d6 : ¬ ((v3.toInt) : Int) = (0) := ci_ne rfl rfl c4
          refine ⟨fun c7 => ?_, fun c7 => ?_⟩
          · skip
            have d8 : (((M 3 8).toInt) : Int) = (0) := ci_eq rfl rfl c7
            refine ⟨hb_v3, ?_⟩
            exact hQ _ _ _ _ hB trivial
          · skip
            have d9 : ¬ (((M 3 8).toInt) : Int) = (0) := ci_ne rfl rfl c7
            refine ⟨fun c10 => ?_, fun c10 => ?_⟩
            · skip
              have d11 : (((M 3 9).toInt) : Int) = (1) := ci_eq rfl rfl c10
              refine sp_X1_readOdds hB hR0 ho1 (fun x12 y17 I13 J14 hB15 p16 => ?_)
              intro o18
              have i19 := i32 x12
              have e20 : ((v4 + 1) : Int32).toInt = (v4.toInt) + (1) := ti_add rfl rfl (by omega)
              exact ih _ _ _ _ hB15 (o18) (by have q0 : ((v4 + 1) : Int32).toInt = (v4.toInt + 1) := e20; omega) (by have q0 : ((v4 + 1) : Int32).toInt = (v4.toInt + 1) := e20; omega)
            · skip
              have d21 : ¬ (((M 3 9).toInt) : Int) = (1) := ci_ne rfl rfl c10
              refine ⟨fun c22 => ?_, fun c22 => ?_⟩
              · skip
                have d23 : (((M 3 9).toInt) : Int) = (2) := ci_eq rfl rfl c22
                refine sp_X1_readStore hB hR0 ho1 (fun x24 y29 I25 J26 hB27 p28 => ?_)
                intro o30
                have i31 := i32 x24
                have e32 : ((v4 + 1) : Int32).toInt = (v4.toInt) + (1) := ti_add rfl rfl (by omega)
                exact ih _ _ _ _ hB27 (o30) (by have q0 : ((v4 + 1) : Int32).toInt = (v4.toInt + 1) := e32; omega) (by have q0 : ((v4 + 1) : Int32).toInt = (v4.toInt + 1) := e32; omega)
              · skip
                have d33 : ¬ (((M 3 9).toInt) : Int) = (2) := ci_ne rfl rfl c22
                refine ⟨fun c34 => ?_, fun c34 => ?_⟩
                · skip
                  have d35 : (((M 3 9).toInt) : Int) = (3) := ci_eq rfl rfl c34
                  refine w_X6_misplaced ?_
                  refine ⟨fun c36 => ?_, fun c36 => ?_⟩
                  · skip
                    have d37 : ¬ (((M 3 8).toInt) : Int) = (4) := ci_ne rfl rfl c36
                    refine w_X6_wrong ?_
                    have hB38 : Bd (uI M 3 12 2) := Bd.o0 hB io9_112_3_6 (by omega) bd9_6_12
                    have hB39 : Bd (uI (uI M 3 12 2) 3 13 (M 3 6)) := Bd.o0 hB38 io9_112_3_6 (by omega) bd9_6_13
                    refine ⟨Or.inl rfl, ?_⟩
                    intro o40
                    refine ⟨Or.inl rfl, ?_⟩
                    intro o41
                    have e42 : ((v4 + 1) : Int32).toInt = (v4.toInt) + (1) := ti_add rfl rfl (by omega)
                    exact ih _ _ _ _ hB39 (Or.inl rfl) (by have q0 : ((v4 + 1) : Int32).toInt = (v4.toInt + 1) := e42; omega) (by have q0 : ((v4 + 1) : Int32).toInt = (v4.toInt + 1) := e42; omega)
                  · skip
                    have d43 : (((M 3 8).toInt) : Int) = (4) := ci_eq rfl rfl c36
                    refine w_X6_wrong ?_
                    have hB44 : Bd (uI M 3 12 1) := Bd.o0 hB io9_112_3_6 (by omega) bd9_6_12
                    have hB45 : Bd (uI (uI M 3 12 1) 3 13 (M 3 6)) := Bd.o0 hB44 io9_112_3_6 (by omega) bd9_6_13
                    refine ⟨Or.inl rfl, ?_⟩
                    intro o46
                    refine ⟨Or.inl rfl, ?_⟩
                    intro o47
                    have e48 : ((v4 + 1) : Int32).toInt = (v4.toInt) + (1) := ti_add rfl rfl (by omega)
                    exact ih _ _ _ _ hB45 (Or.inl rfl) (by have q0 : ((v4 + 1) : Int32).toInt = (v4.toInt + 1) := e48; omega) (by have q0 : ((v4 + 1) : Int32).toInt = (v4.toInt + 1) := e48; omega)
                · skip
                  have d49 : ¬ (((M 3 9).toInt) : Int) = (3) := ci_ne rfl rfl c34
                  refine ⟨fun c50 => ?_, fun c50 => ?_⟩
                  · skip
                    have d51 : (((M 3 9).toInt) : Int) = (4) := ci_eq rfl rfl c50
                    refine sp_X1_readMan hB hR0 ho1 (fun x52 y57 I53 J54 hB55 p56 => ?_)
                    intro o58
                    have i59 := i32 x52
                    have e60 : ((v4 + 1) : Int32).toInt = (v4.toInt) + (1) := ti_add rfl rfl (by omega)
                    exact ih _ _ _ _ hB55 (o58) (by have q0 : ((v4 + 1) : Int32).toInt = (v4.toInt + 1) := e60; omega) (by have q0 : ((v4 + 1) : Int32).toInt = (v4.toInt + 1) := e60; omega)
                  · skip
                    have d61 : ¬ (((M 3 9).toInt) : Int) = (4) := ci_ne rfl rfl c50
                    refine ⟨fun c62 => ?_, fun c62 => ?_⟩
                    · skip
                      have d63 : (((M 3 9).toInt) : Int) = (5) := ci_eq rfl rfl c62
                      refine w_X6_misplaced ?_
                      refine ⟨fun c64 => ?_, fun c64 => ?_⟩
                      · skip
                        have d65 : ¬ (((M 3 8).toInt) : Int) = (4) := ci_ne rfl rfl c64
                        refine w_X6_wrong ?_
                        have hB66 : Bd (uI M 3 12 2) := Bd.o0 hB io9_112_3_6 (by omega) bd9_6_12
                        have hB67 : Bd (uI (uI M 3 12 2) 3 13 (M 3 6)) := Bd.o0 hB66 io9_112_3_6 (by omega) bd9_6_13
                        refine ⟨Or.inl rfl, ?_⟩
                        intro o68
                        refine ⟨Or.inl rfl, ?_⟩
                        intro o69
                        have e70 : ((v4 + 1) : Int32).toInt = (v4.toInt) + (1) := ti_add rfl rfl (by omega)
                        exact ih _ _ _ _ hB67 (Or.inl rfl) (by have q0 : ((v4 + 1) : Int32).toInt = (v4.toInt + 1) := e70; omega) (by have q0 : ((v4 + 1) : Int32).toInt = (v4.toInt + 1) := e70; omega)
                      · skip
                        have d71 : (((M 3 8).toInt) : Int) = (4) := ci_eq rfl rfl c64
                        refine w_X6_wrong ?_
                        have hB72 : Bd (uI M 3 12 1) := Bd.o0 hB io9_112_3_6 (by omega) bd9_6_12
                        have hB73 : Bd (uI (uI M 3 12 1) 3 13 (M 3 6)) := Bd.o0 hB72 io9_112_3_6 (by omega) bd9_6_13
                        refine ⟨Or.inl rfl, ?_⟩
                        intro o74
                        refine ⟨Or.inl rfl, ?_⟩
                        intro o75
                        have e76 : ((v4 + 1) : Int32).toInt = (v4.toInt) + (1) := ti_add rfl rfl (by omega)
                        exact ih _ _ _ _ hB73 (Or.inl rfl) (by have q0 : ((v4 + 1) : Int32).toInt = (v4.toInt + 1) := e76; omega) (by have q0 : ((v4 + 1) : Int32).toInt = (v4.toInt + 1) := e76; omega)
                    · skip
                      have d77 : ¬ (((M 3 9).toInt) : Int) = (5) := ci_ne rfl rfl c62
                      refine ⟨fun c78 => ?_, fun c78 => ?_⟩
                      · skip
                        have d79 : (((M 3 9).toInt) : Int) = (6) := ci_eq rfl rfl c78
                        refine w_X6_misplaced ?_
                        refine ⟨fun c80 => ?_, fun c80 => ?_⟩
                        · skip
                          have d81 : ¬ (((M 3 8).toInt) : Int) = (4) := ci_ne rfl rfl c80
                          refine w_X6_wrong ?_
                          have hB82 : Bd (uI M 3 12 2) := Bd.o0 hB io9_112_3_6 (by omega) bd9_6_12
                          have hB83 : Bd (uI (uI M 3 12 2) 3 13 (M 3 6)) := Bd.o0 hB82 io9_112_3_6 (by omega) bd9_6_13
                          refine ⟨Or.inl rfl, ?_⟩
                          intro o84
                          refine ⟨Or.inl rfl, ?_⟩
                          intro o85
                          have e86 : ((v4 + 1) : Int32).toInt = (v4.toInt) + (1) := ti_add rfl rfl (by omega)
                          exact ih _ _ _ _ hB83 (Or.inl rfl) (by have q0 : ((v4 + 1) : Int32).toInt = (v4.toInt + 1) := e86; omega) (by have q0 : ((v4 + 1) : Int32).toInt = (v4.toInt + 1) := e86; omega)
                        · skip
                          have d87 : (((M 3 8).toInt) : Int) = (4) := ci_eq rfl rfl c80
                          refine w_X6_wrong ?_
                          have hB88 : Bd (uI M 3 12 1) := Bd.o0 hB io9_112_3_6 (by omega) bd9_6_12
                          have hB89 : Bd (uI (uI M 3 12 1) 3 13 (M 3 6)) := Bd.o0 hB88 io9_112_3_6 (by omega) bd9_6_13
                          refine ⟨Or.inl rfl, ?_⟩
                          intro o90
                          refine ⟨Or.inl rfl, ?_⟩
                          intro o91
                          have e92 : ((v4 + 1) : Int32).toInt = (v4.toInt) + (1) := ti_add rfl rfl (by omega)
                          exact ih _ _ _ _ hB89 (Or.inl rfl) (by have q0 : ((v4 + 1) : Int32).toInt = (v4.toInt + 1) := e92; omega) (by have q0 : ((v4 + 1) : Int32).toInt = (v4.toInt + 1) := e92; omega)
                      · skip
                        have d93 : ¬ (((M 3 9).toInt) : Int) = (6) := ci_ne rfl rfl c78
                        refine ⟨fun c94 => ?_, fun c94 => ?_⟩
                        · skip
                          have d95 : (((M 3 9).toInt) : Int) = (7) := ci_eq rfl rfl c94
                          refine w_X6_misplaced ?_
                          refine ⟨fun c96 => ?_, fun c96 => ?_⟩
                          · skip
                            have d97 : ¬ (((M 3 8).toInt) : Int) = (4) := ci_ne rfl rfl c96
                            refine w_X6_wrong ?_
                            have hB98 : Bd (uI M 3 12 2) := Bd.o0 hB io9_112_3_6 (by omega) bd9_6_12
                            have hB99 : Bd (uI (uI M 3 12 2) 3 13 (M 3 6)) := Bd.o0 hB98 io9_112_3_6 (by omega) bd9_6_13
                            refine ⟨Or.inl rfl, ?_⟩
                            intro o100
                            refine ⟨Or.inl rfl, ?_⟩
                            intro o101
                            have e102 : ((v4 + 1) : Int32).toInt = (v4.toInt) + (1) := ti_add rfl rfl (by omega)
                            exact ih _ _ _ _ hB99 (Or.inl rfl) (by have q0 : ((v4 + 1) : Int32).toInt = (v4.toInt + 1) := e102; omega) (by have q0 : ((v4 + 1) : Int32).toInt = (v4.toInt + 1) := e102; omega)
                          · skip
                            have d103 : (((M 3 8).toInt) : Int) = (4) := ci_eq rfl rfl c96
                            refine w_X6_wrong ?_
                            have hB104 : Bd (uI M 3 12 1) := Bd.o0 hB io9_112_3_6 (by omega) bd9_6_12
                            have hB105 : Bd (uI (uI M 3 12 1) 3 13 (M 3 6)) := Bd.o0 hB104 io9_112_3_6 (by omega) bd9_6_13
                            refine ⟨Or.inl rfl, ?_⟩
                            intro o106
                            refine ⟨Or.inl rfl, ?_⟩
                            intro o107
                            have e108 : ((v4 + 1) : Int32).toInt = (v4.toInt) + (1) := ti_add rfl rfl (by omega)
                            exact ih _ _ _ _ hB105 (Or.inl rfl) (by have q0 : ((v4 + 1) : Int32).toInt = (v4.toInt + 1) := e108; omega) (by have q0 : ((v4 + 1) : Int32).toInt = (v4.toInt + 1) := e108; omega)
                        · skip
                          have d109 : ¬ (((M 3 9).toInt) : Int) = (7) := ci_ne rfl rfl c94
                          refine ⟨fun c110 => ?_, fun c110 => ?_⟩
                          · skip
                            have d111 : (((M 3 9).toInt) : Int) = (8) := ci_eq rfl rfl c110
                            refine sp_X1_readKnown hB hR0 ho1 (fun x112 y117 I113 J114 hB115 p116 => ?_)
                            intro o118
                            have i119 := i32 x112
                            have e120 : ((v4 + 1) : Int32).toInt = (v4.toInt) + (1) := ti_add rfl rfl (by omega)
                            exact ih _ _ _ _ hB115 (o118) (by have q0 : ((v4 + 1) : Int32).toInt = (v4.toInt + 1) := e120; omega) (by have q0 : ((v4 + 1) : Int32).toInt = (v4.toInt + 1) := e120; omega)
                          · skip
                            have d121 : ¬ (((M 3 9).toInt) : Int) = (8) := ci_ne rfl rfl c110
                            refine w_X6_misplaced ?_
                            refine ⟨fun c122 => ?_, fun c122 => ?_⟩
                            · skip
                              have d123 : ¬ (((M 3 8).toInt) : Int) = (4) := ci_ne rfl rfl c122
                              refine w_X6_wrong ?_
                              have hB124 : Bd (uI M 3 12 2) := Bd.o0 hB io9_112_3_6 (by omega) bd9_6_12
                              have hB125 : Bd (uI (uI M 3 12 2) 3 13 (M 3 6)) := Bd.o0 hB124 io9_112_3_6 (by omega) bd9_6_13
                              refine ⟨Or.inl rfl, ?_⟩
                              intro o126
                              refine ⟨Or.inl rfl, ?_⟩
                              intro o127
                              have e128 : ((v4 + 1) : Int32).toInt = (v4.toInt) + (1) := ti_add rfl rfl (by omega)
                              exact ih _ _ _ _ hB125 (Or.inl rfl) (by have q0 : ((v4 + 1) : Int32).toInt = (v4.toInt + 1) := e128; omega) (by have q0 : ((v4 + 1) : Int32).toInt = (v4.toInt + 1) := e128; omega)
                            · skip
                              have d129 : (((M 3 8).toInt) : Int) = (4) := ci_eq rfl rfl c122
                              refine w_X6_wrong ?_
                              have hB130 : Bd (uI M 3 12 1) := Bd.o0 hB io9_112_3_6 (by omega) bd9_6_12
                              have hB131 : Bd (uI (uI M 3 12 1) 3 13 (M 3 6)) := Bd.o0 hB130 io9_112_3_6 (by omega) bd9_6_13
                              refine ⟨Or.inl rfl, ?_⟩
                              intro o132
                              refine ⟨Or.inl rfl, ?_⟩
                              intro o133
                              have e134 : ((v4 + 1) : Int32).toInt = (v4.toInt) + (1) := ti_add rfl rfl (by omega)
                              exact ih _ _ _ _ hB131 (Or.inl rfl) (by have q0 : ((v4 + 1) : Int32).toInt = (v4.toInt + 1) := e134; omega) (by have q0 : ((v4 + 1) : Int32).toInt = (v4.toInt + 1) := e134; omega)
  refine sg_X1_readInto_0 hc _ _ _ _ ?_
  refine bif_t ho1 ?_
  refine sp_X0_forget hB0 hR0 ho1 (fun x135 y140 I136 J137 hB138 p139 => ?_)
  refine ⟨Or.inl rfl, ?_⟩
  have hB141 : Bd (uI I136 6 0 0) := Bd.o1 hB138 io9_112_6_1 (by omega) bd9_1_0 rfl (bl_ti (Or.inl rfl))
  refine ⟨Or.inl rfl, ?_⟩
  have hB142 : Bd (uI (uI I136 6 0 0) 6 1 0) := Bd.o1 hB141 io9_112_6_1 (by omega) bd9_1_1 rfl (bl_ti (Or.inl rfl))
  have hB143 : Bd (uI (uI (uI I136 6 0 0) 6 1 0) 6 2 0) := Bd.o0 hB142 io9_112_6_1 (by omega) bd9_1_2
  exact (L 1000000) _ _ _ _ hB143 (Or.inr rfl) (by have q0 : (0 : Int32).toInt = 0 := rfl; omega) (by have q0 : (0 : Int32).toInt = 0 := rfl; omega)
set_option maxHeartbeats 2000000 in
theorem sp_X3_takeMan {d : Nat} {Q : Qt} {v0 : Nat} {I : Im} {J : Jm} {R : Rm} (hB0 : Bd I) (hR0 : RI R) (ho0 : isO 112 v0 0 = true) (hQ : ∀ (x : Int32) (y : Int64) (I2 : Im) (J2 : Jm), Bd I2 → (I2 7 1 = I 7 1) → Q x y I2 J2 R) : AM (d + 4) 39 112 [.ref v0, .ref 3] I J R Q := by
  refine w_X3_takeMan ?_
  refine sp_X6_takeName hB0 hR0 (fun x1 y6 I2 J3 hB4 p5 => ?_)
  refine ⟨fun c7 => ?_, fun c7 => ?_⟩
  · skip
    rw [lg_cmp_eq] at c7
    have d8 : ¬ (((y6 : Int64).toInt) : Int) = (0) := cl_ne rfl rfl c7
    refine bif_t ho0 ?_
    refine sp_X0_manNamed hB4 hR0 ho0 (fun x9 y14 I10 J11 hB12 p13 => ?_)
    have i15 := i32 x9
    refine ⟨fun c16 => ?_, fun c16 => ?_⟩
    · skip
      have d17 : ¬ ((x9.toInt) : Int) = ((-1)) := ci_ne rfl rfl c16
      exact hQ _ _ _ _ hB12 (Eq.trans p13 p5)
    · skip
      have d18 : ((x9.toInt) : Int) = ((-1)) := ci_eq rfl rfl c16
      refine w_X6_wrongTaken ?_
      refine w_X6_wrong ?_
      have hB19 : Bd (uI I10 3 12 3) := Bd.o0 hB12 io9_112_3_6 (by omega) bd9_6_12
      have hB20 : Bd (uI (uI I10 3 12 3) 3 13 (I10 3 7)) := Bd.o0 hB19 io9_112_3_6 (by omega) bd9_6_13
      refine ⟨Or.inl rfl, ?_⟩
      intro o21
      refine ⟨Or.inl rfl, ?_⟩
      intro o22
      exact hQ _ _ _ _ hB20 (Eq.trans (Eq.trans (Eq.trans (rd_ne (by first | decide | omega)) (rd_ne (by first | decide | omega))) p13) p5)
  · skip
    rw [lg_cmp_eq] at c7
    have d23 : (((y6 : Int64).toInt) : Int) = (0) := cl_eq rfl rfl c7
    exact hQ _ _ _ _ hB4 p5
set_option maxHeartbeats 2000000 in
theorem sp_X3_readCut {d : Nat} {Q : Qt} {v0 : Nat} {I : Im} {J : Jm} {R : Rm} (hB0 : Bd I) (hR0 : RI R) (ho0 : isO 112 v0 2 = true) (hQ : ∀ (x : Int32) (y : Int64) (I2 : Im) (J2 : Jm), Bd I2 → (True) → Q x y I2 J2 R) : AM (d + 4) 37 112 [.ref v0, .ref 3] I J R Q := by
  refine w_X3_readCut ?_
  refine sp_X6_takeNumber hB0 hR0 (fun x1 y6 I2 J3 hB4 p5 => ?_)
  have i7 := i32 x1
  refine ⟨fun c8 => ?_, fun c8 => ?_⟩
  · skip
    have d9 : ¬ ((x1.toInt) : Int) = ((-1)) := ci_ne rfl rfl c8
    refine sp_X6_takeNumber hB4 hR0 (fun x10 y15 I11 J12 hB13 p14 => ?_)
    have i16 := i32 x10
    refine ⟨fun c17 => ?_, fun c17 => ?_⟩
    · skip
      have d18 : ¬ ((x10.toInt) : Int) = ((-1)) := ci_ne rfl rfl c17
      refine sp_X6_takeNumber hB13 hR0 (fun x19 y24 I20 J21 hB22 p23 => ?_)
      have i25 := i32 x19
      refine ⟨fun c26 => ?_, fun c26 => ?_⟩
      · skip
        have d27 : ((x19.toInt) : Int) = ((-1)) := ci_eq rfl rfl c26
        refine ⟨Or.inl rfl, ?_⟩
        exact hQ _ _ _ _ hB22 trivial
      · skip
        have d28 : ¬ ((x19.toInt) : Int) = ((-1)) := ci_ne rfl rfl c26
        refine bif_t ho0 ?_
        refine sp_X2_add hB22 hR0 ho0 (fun x29 y34 I30 J31 hB32 p33 => ?_)
        intro o35
        have i36 := i32 x29
        refine ⟨fun c37 => ?_, fun c37 => ?_⟩
        · skip
          have d38 : ((x29.toInt) : Int) = (0) := ci_eq rfl rfl c37
          refine ⟨Or.inl rfl, ?_⟩
          exact hQ _ _ _ _ hB32 trivial
        · skip
          have d39 : ¬ ((x29.toInt) : Int) = (0) := ci_ne rfl rfl c37
          refine ⟨Or.inr rfl, ?_⟩
          exact hQ _ _ _ _ hB32 trivial
    · skip
      have d40 : ((x10.toInt) : Int) = ((-1)) := ci_eq rfl rfl c17
      refine ⟨fun c41 => ?_, fun c41 => ?_⟩
      · skip
        refine ⟨Or.inl rfl, ?_⟩
        exact hQ _ _ _ _ hB13 trivial
      · exact absurd c41 (by decide)
  · skip
    have d42 : ((x1.toInt) : Int) = ((-1)) := ci_eq rfl rfl c8
    refine ⟨fun c43 => ?_, fun c43 => ?_⟩
    · exact absurd c43 (by decide)
    · skip
      refine ⟨fun c44 => ?_, fun c44 => ?_⟩
      · skip
        refine ⟨Or.inl rfl, ?_⟩
        exact hQ _ _ _ _ hB4 trivial
      · exact absurd c44 (by decide)
set_option maxHeartbeats 2000000 in
theorem sp_X3_readAct {d : Nat} {Q : Qt} {v0 : Nat} {v1 : Nat} {v2 : Int32} {I : Im} {J : Jm} {R : Rm} (hB0 : Bd I) (hR0 : RI R) (ho0 : isO 112 v0 2 = true) (ho1 : isO 112 v1 0 = true) (hQ : ∀ (x : Int32) (y : Int64) (I2 : Im) (J2 : Jm), Bd I2 → (True) → Q x y I2 J2 R) : AM (d + 5) 36 112 [.ref v0, .ref v1, .int v2, .ref 3] I J R Q := by
  have i_v2 := i32 v2
  refine w_X3_readAct ?_
  refine ⟨fun c1 => ?_, fun c1 => ?_⟩
  · skip
    have d2 : ((v2.toInt) : Int) = (9) := ci_eq rfl rfl c1
    refine sp_X3_readCut hB0 hR0 ho0 (fun x3 y8 I4 J5 hB6 p7 => ?_)
    intro o9
    have i10 := i32 x3
    refine ⟨o9, ?_⟩
    exact hQ _ _ _ _ hB6 trivial
  · skip
    have d11 : ¬ ((v2.toInt) : Int) = (9) := ci_ne rfl rfl c1
    refine ⟨fun c12 => ?_, fun c12 => ?_⟩
    · skip
      have d13 : ((v2.toInt) : Int) = (10) := ci_eq rfl rfl c12
      refine sp_X6_takeNumber hB0 hR0 (fun x14 y19 I15 J16 hB17 p18 => ?_)
      have i20 := i32 x14
      refine ⟨fun c21 => ?_, fun c21 => ?_⟩
      · skip
        have d22 : ¬ ((x14.toInt) : Int) = ((-1)) := ci_ne rfl rfl c21
        refine sp_X6_takeNumber hB17 hR0 (fun x23 y28 I24 J25 hB26 p27 => ?_)
        have i29 := i32 x23
        refine ⟨fun c30 => ?_, fun c30 => ?_⟩
        · skip
          have d31 : ((x23.toInt) : Int) = ((-1)) := ci_eq rfl rfl c30
          refine ⟨Or.inl rfl, ?_⟩
          exact hQ _ _ _ _ hB26 trivial
        · skip
          have d32 : ¬ ((x23.toInt) : Int) = ((-1)) := ci_ne rfl rfl c30
          refine bif_t ho0 ?_
          refine sp_X2_add hB26 hR0 ho0 (fun x33 y38 I34 J35 hB36 p37 => ?_)
          intro o39
          have i40 := i32 x33
          refine ⟨fun c41 => ?_, fun c41 => ?_⟩
          · skip
            have d42 : ((x33.toInt) : Int) = (0) := ci_eq rfl rfl c41
            refine ⟨Or.inl rfl, ?_⟩
            exact hQ _ _ _ _ hB36 trivial
          · skip
            have d43 : ¬ ((x33.toInt) : Int) = (0) := ci_ne rfl rfl c41
            refine ⟨Or.inr rfl, ?_⟩
            exact hQ _ _ _ _ hB36 trivial
      · skip
        have d44 : ((x14.toInt) : Int) = ((-1)) := ci_eq rfl rfl c21
        refine ⟨fun c45 => ?_, fun c45 => ?_⟩
        · skip
          refine ⟨Or.inl rfl, ?_⟩
          exact hQ _ _ _ _ hB17 trivial
        · exact absurd c45 (by decide)
    · skip
      have d46 : ¬ ((v2.toInt) : Int) = (10) := ci_ne rfl rfl c12
      refine ⟨fun c47 => ?_, fun c47 => ?_⟩
      · skip
        have d48 : ((v2.toInt) : Int) = (11) := ci_eq rfl rfl c47
        refine sp_X3_takeMan hB0 hR0 ho1 (fun x49 y54 I50 J51 hB52 p53 => ?_)
        have i55 := i32 x49
        refine ⟨fun c56 => ?_, fun c56 => ?_⟩
        · skip
          have d57 : ¬ ((x49.toInt) : Int) = ((-1)) := ci_ne rfl rfl c56
          refine sp_X6_takeNumber hB52 hR0 (fun x58 y63 I59 J60 hB61 p62 => ?_)
          have i64 := i32 x58
          refine ⟨fun c65 => ?_, fun c65 => ?_⟩
          · skip
            have d66 : ((x58.toInt) : Int) = ((-1)) := ci_eq rfl rfl c65
            refine ⟨Or.inl rfl, ?_⟩
            exact hQ _ _ _ _ hB61 trivial
          · skip
            have d67 : ¬ ((x58.toInt) : Int) = ((-1)) := ci_ne rfl rfl c65
            refine bif_t ho0 ?_
            refine sp_X2_add hB61 hR0 ho0 (fun x68 y73 I69 J70 hB71 p72 => ?_)
            intro o74
            have i75 := i32 x68
            refine ⟨fun c76 => ?_, fun c76 => ?_⟩
            · skip
              have d77 : ((x68.toInt) : Int) = (0) := ci_eq rfl rfl c76
              refine ⟨Or.inl rfl, ?_⟩
              exact hQ _ _ _ _ hB71 trivial
            · skip
              have d78 : ¬ ((x68.toInt) : Int) = (0) := ci_ne rfl rfl c76
              refine ⟨Or.inr rfl, ?_⟩
              exact hQ _ _ _ _ hB71 trivial
        · skip
          have d79 : ((x49.toInt) : Int) = ((-1)) := ci_eq rfl rfl c56
          refine ⟨fun c80 => ?_, fun c80 => ?_⟩
          · skip
            refine ⟨Or.inl rfl, ?_⟩
            exact hQ _ _ _ _ hB52 trivial
          · exact absurd c80 (by decide)
      · skip
        have d81 : ¬ ((v2.toInt) : Int) = (11) := ci_ne rfl rfl c47
        refine ⟨fun c82 => ?_, fun c82 => ?_⟩
        · skip
          have d83 : ((v2.toInt) : Int) = (12) := ci_eq rfl rfl c82
          refine sp_X3_takeMan hB0 hR0 ho1 (fun x84 y89 I85 J86 hB87 p88 => ?_)
          have i90 := i32 x84
          refine ⟨fun c91 => ?_, fun c91 => ?_⟩
          · skip
            have d92 : ¬ ((x84.toInt) : Int) = ((-1)) := ci_ne rfl rfl c91
            refine sp_X6_takeNumber hB87 hR0 (fun x93 y98 I94 J95 hB96 p97 => ?_)
            have i99 := i32 x93
            refine ⟨fun c100 => ?_, fun c100 => ?_⟩
            · skip
              have d101 : ((x93.toInt) : Int) = ((-1)) := ci_eq rfl rfl c100
              refine ⟨Or.inl rfl, ?_⟩
              exact hQ _ _ _ _ hB96 trivial
            · skip
              have d102 : ¬ ((x93.toInt) : Int) = ((-1)) := ci_ne rfl rfl c100
              refine bif_t ho0 ?_
              refine sp_X2_add hB96 hR0 ho0 (fun x103 y108 I104 J105 hB106 p107 => ?_)
              intro o109
              have i110 := i32 x103
              refine ⟨fun c111 => ?_, fun c111 => ?_⟩
              · skip
                have d112 : ((x103.toInt) : Int) = (0) := ci_eq rfl rfl c111
                refine ⟨Or.inl rfl, ?_⟩
                exact hQ _ _ _ _ hB106 trivial
              · skip
                have d113 : ¬ ((x103.toInt) : Int) = (0) := ci_ne rfl rfl c111
                refine ⟨Or.inr rfl, ?_⟩
                exact hQ _ _ _ _ hB106 trivial
          · skip
            have d114 : ((x84.toInt) : Int) = ((-1)) := ci_eq rfl rfl c91
            refine ⟨fun c115 => ?_, fun c115 => ?_⟩
            · skip
              refine ⟨Or.inl rfl, ?_⟩
              exact hQ _ _ _ _ hB87 trivial
            · exact absurd c115 (by decide)
        · skip
          have d116 : ¬ ((v2.toInt) : Int) = (12) := ci_ne rfl rfl c82
          refine ⟨fun c117 => ?_, fun c117 => ?_⟩
          · skip
            have d118 : ((v2.toInt) : Int) = (13) := ci_eq rfl rfl c117
            refine sp_X6_takeNumber hB0 hR0 (fun x119 y124 I120 J121 hB122 p123 => ?_)
            have i125 := i32 x119
            refine ⟨fun c126 => ?_, fun c126 => ?_⟩
            · skip
              have d127 : ((x119.toInt) : Int) = ((-1)) := ci_eq rfl rfl c126
              refine ⟨Or.inl rfl, ?_⟩
              exact hQ _ _ _ _ hB122 trivial
            · skip
              have d128 : ¬ ((x119.toInt) : Int) = ((-1)) := ci_ne rfl rfl c126
              refine bif_t ho0 ?_
              refine sp_X2_add hB122 hR0 ho0 (fun x129 y134 I130 J131 hB132 p133 => ?_)
              intro o135
              have i136 := i32 x129
              refine ⟨fun c137 => ?_, fun c137 => ?_⟩
              · skip
                have d138 : ((x129.toInt) : Int) = (0) := ci_eq rfl rfl c137
                refine ⟨Or.inl rfl, ?_⟩
                exact hQ _ _ _ _ hB132 trivial
              · skip
                have d139 : ¬ ((x129.toInt) : Int) = (0) := ci_ne rfl rfl c137
                refine ⟨Or.inr rfl, ?_⟩
                exact hQ _ _ _ _ hB132 trivial
          · skip
            have d140 : ¬ ((v2.toInt) : Int) = (13) := ci_ne rfl rfl c117
            refine ⟨fun c141 => ?_, fun c141 => ?_⟩
            · skip
              have d142 : ((v2.toInt) : Int) = (14) := ci_eq rfl rfl c141
              refine bif_t ho0 ?_
              refine sp_X2_add hB0 hR0 ho0 (fun x143 y148 I144 J145 hB146 p147 => ?_)
              intro o149
              have i150 := i32 x143
              refine ⟨o149, ?_⟩
              exact hQ _ _ _ _ hB146 trivial
            · skip
              have d151 : ¬ ((v2.toInt) : Int) = (14) := ci_ne rfl rfl c141
              refine ⟨fun c152 => ?_, fun c152 => ?_⟩
              · skip
                have d153 : ((v2.toInt) : Int) = (15) := ci_eq rfl rfl c152
                refine bif_t ho0 ?_
                refine sp_X2_add hB0 hR0 ho0 (fun x154 y159 I155 J156 hB157 p158 => ?_)
                intro o160
                have i161 := i32 x154
                refine ⟨o160, ?_⟩
                exact hQ _ _ _ _ hB157 trivial
              · skip
                have d162 : ¬ ((v2.toInt) : Int) = (15) := ci_ne rfl rfl c152
                refine ⟨fun c163 => ?_, fun c163 => ?_⟩
                · skip
                  have d164 : ((v2.toInt) : Int) = (16) := ci_eq rfl rfl c163
                  refine bif_t ho0 ?_
                  refine sp_X2_add hB0 hR0 ho0 (fun x165 y170 I166 J167 hB168 p169 => ?_)
                  intro o171
                  have i172 := i32 x165
                  refine ⟨o171, ?_⟩
                  exact hQ _ _ _ _ hB168 trivial
                · skip
                  have d173 : ¬ ((v2.toInt) : Int) = (16) := ci_ne rfl rfl c163
                  refine ⟨fun c174 => ?_, fun c174 => ?_⟩
                  · skip
                    have d175 : ((v2.toInt) : Int) = (17) := ci_eq rfl rfl c174
                    refine bif_t ho0 ?_
                    refine sp_X2_add hB0 hR0 ho0 (fun x176 y181 I177 J178 hB179 p180 => ?_)
                    intro o182
                    have i183 := i32 x176
                    refine ⟨o182, ?_⟩
                    exact hQ _ _ _ _ hB179 trivial
                  · skip
                    have d184 : ¬ ((v2.toInt) : Int) = (17) := ci_ne rfl rfl c174
                    refine ⟨fun c185 => ?_, fun c185 => ?_⟩
                    · skip
                      have d186 : ((v2.toInt) : Int) = (18) := ci_eq rfl rfl c185
                      refine bif_t ho0 ?_
                      refine sp_X2_add hB0 hR0 ho0 (fun x187 y192 I188 J189 hB190 p191 => ?_)
                      intro o193
                      have i194 := i32 x187
                      refine ⟨o193, ?_⟩
                      exact hQ _ _ _ _ hB190 trivial
                    · skip
                      have d195 : ¬ ((v2.toInt) : Int) = (18) := ci_ne rfl rfl c185
                      refine ⟨fun c196 => ?_, fun c196 => ?_⟩
                      · skip
                        have d197 : ((v2.toInt) : Int) = (19) := ci_eq rfl rfl c196
                        refine sp_X6_takeNumber hB0 hR0 (fun x198 y203 I199 J200 hB201 p202 => ?_)
                        have i204 := i32 x198
                        refine ⟨fun c205 => ?_, fun c205 => ?_⟩
                        · skip
                          have d206 : ((x198.toInt) : Int) = ((-1)) := ci_eq rfl rfl c205
                          refine ⟨Or.inl rfl, ?_⟩
                          exact hQ _ _ _ _ hB201 trivial
                        · skip
                          have d207 : ¬ ((x198.toInt) : Int) = ((-1)) := ci_ne rfl rfl c205
                          refine bif_t ho0 ?_
                          refine sp_X2_add hB201 hR0 ho0 (fun x208 y213 I209 J210 hB211 p212 => ?_)
                          intro o214
                          have i215 := i32 x208
                          refine ⟨fun c216 => ?_, fun c216 => ?_⟩
                          · skip
                            have d217 : ((x208.toInt) : Int) = (0) := ci_eq rfl rfl c216
                            refine ⟨Or.inl rfl, ?_⟩
                            exact hQ _ _ _ _ hB211 trivial
                          · skip
                            have d218 : ¬ ((x208.toInt) : Int) = (0) := ci_ne rfl rfl c216
                            refine ⟨Or.inr rfl, ?_⟩
                            exact hQ _ _ _ _ hB211 trivial
                      · skip
                        have d219 : ¬ ((v2.toInt) : Int) = (19) := ci_ne rfl rfl c196
                        refine bif_t ho0 ?_
                        refine sp_X2_add hB0 hR0 ho0 (fun x220 y225 I221 J222 hB223 p224 => ?_)
                        intro o226
                        have i227 := i32 x220
                        refine ⟨o226, ?_⟩
                        exact hQ _ _ _ _ hB223 trivial
