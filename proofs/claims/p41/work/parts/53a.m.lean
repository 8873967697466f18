set_option maxHeartbeats 2000000 in
theorem sp_X12_readMan {d : Nat} {Q : Qt} {I : Im} {J : Jm} {R : Rm} (hB0 : Bd I) (hR0 : RI R) (hQ : ∀ (x : Int32) (y : Int64) (I2 : Im) (J2 : Jm), Bd I2 → (Fr pR I I2 ∧ PMp I I2) → Q x y I2 J2 R) : AM (d + 6) 231 112 [.ref 97] I J R Q := by
  refine am_X12_readMan (fun P hc => ?_)
  have L : ∀ n : Nat, (∀ (v1 : Int32) (M : Im) (JM : Jm), Bd M → Fr pR I M → PMp I M → (v1.toInt = (M 102 1296).toInt ∧ 0 ≤ v1.toInt ∧ v1.toInt ≤ 6 ∧ (v1.toInt = 6 → 1 ≤ (M 97 12).toInt)) → 4 < (n : Int) → P 25 112 [(0, .ref 97), (1, .int v1)] [] M JM R) ∧ (∀ (v1 : Int32) (M : Im) (JM : Jm), Bd M → Fr pR I M → PMp I M → (v1.toInt = (M 102 1296).toInt ∧ 0 ≤ v1.toInt ∧ v1.toInt ≤ 6 ∧ (v1.toInt = 6 → 1 ≤ (M 97 12).toInt)) → 3 < (n : Int) → P 48 112 [(0, .ref 97), (1, .int v1)] [] M JM R) ∧ (∀ (v1 : Int32) (M : Im) (JM : Jm), Bd M → Fr pR I M → PMp I M → (v1.toInt = (M 102 1296).toInt ∧ 0 ≤ v1.toInt ∧ v1.toInt ≤ 6 ∧ (v1.toInt = 6 → 1 ≤ (M 97 12).toInt)) → 2 < (n : Int) → P 72 112 [(0, .ref 97), (1, .int v1)] [] M JM R) ∧ (∀ (v1 : Int32) (M : Im) (JM : Jm), Bd M → Fr pR I M → PMp I M → (v1.toInt = (M 102 1296).toInt ∧ 0 ≤ v1.toInt ∧ v1.toInt ≤ 6 ∧ (v1.toInt = 6 → 1 ≤ (M 97 12).toInt)) → 1 < (n : Int) → P 92 112 [(0, .ref 97), (1, .int v1)] [] M JM R) := by
    intro n
    induction n with
    | zero =>
      exact ⟨fun v1 M J _ _ _ hi hm => absurd hm (by omega), fun v1 M J _ _ _ hi hm => absurd hm (by omega), fun v1 M J _ _ _ hi hm => absurd hm (by omega), fun v1 M J _ _ _ hi hm => absurd hm (by omega)⟩
    | succ n ih =>
      refine ⟨?_, ?_, ?_, ?_⟩
      · skip
        intro v1 M JM hB hf hpm hi hm
        have i_v1 := i32 v1
        refine sg_X12_readMan_25 hc _ _ _ _ ?_
        have b1 := (Bd.c hB (j := 1296) (z := 1296) rfl).1 (by decide)
        have b2 := Bd.o hB io9_112_97_12 bd9_12_12
        refine sp_X12_must hB hR0 (fun x3 y8 I4 J5 hB6 p7 => ?_)
        have hh9 := Hid.i p7
        clear p7
        have f10 : Fr pT M I4 := (Hid.o hh9).2.1
        have f11 : Fr pR I I4 := Fr.tr hf f10 (fun _ _ => trivial)
        have m12 : PMp M I4 := (PMp.mk (Hid.o hh9).2.2.1 (Hid.o hh9).2.2.2.1)
        have q13 : (1 : Int32).toInt = 1 := rfl
        have b14 := Bd.o hB io9_112_97_12 bd9_12_14
        have b15 := Bd.o hB io9_112_97_12 bd9_12_16
        have b16 := Bd.o hB6 io9_112_97_12 bd9_12_12
        have b17 := Bd.o hB6 io9_112_97_12 bd9_12_14
        have b18 := Bd.o hB6 io9_112_97_12 bd9_12_16
        refine ⟨fun c19 => ?_, fun c19 => ?_⟩
        · skip
          have d20 : ¬ (((I4 97 12).toInt) : Int) = (0) := ci_ne rfl rfl c19
          have cb21 : (I4 97 12).toInt = 0 → (M 97 12).toInt = 0 := ((PMp.tr (PMp.refl M) m12)).2
          have e22 : ((I4 102 1296) : Int32).toInt = (M 102 1296).toInt := Eq.trans (congrArg Int32.toInt (f10.1 1296 trivial)) rfl
          exact ih.2.1 _ _ _ hB6 f11 (PMp.tr hpm m12) (by have q0 : (v1 : Int32).toInt = v1.toInt := rfl; have q1 : ((I4 102 1296) : Int32).toInt = (M 102 1296).toInt := e22; have q2 : ((I4 97 12) : Int32).toInt = (I4 97 12).toInt := rfl; omega) (by omega)
        · skip
          have d23 : (((I4 97 12).toInt) : Int) = (0) := ci_eq rfl rfl c19
          refine sp_X12_isName hB6 hR0 (fun x24 y29 I25 J26 hB27 p28 => ?_)
          intro o30
          have hh31 := Hid.i p28
          clear p28
          have f32 : Fr pT I4 I25 := (Hid.o hh31).2.2.2.2
          have f33 : Fr pR I I25 := Fr.tr f11 f32 (fun _ _ => trivial)
          have m34 : PMp I4 I25 := (PMp.keep (Hid.o hh31).1 (Hid.o hh31).2.2.1 (Hid.o hh31).2.2.2.1)
          have i35 := i32 x24
          refine ⟨fun c36 => ?_, fun c36 => ?_⟩
          · skip
            have d37 : ¬ ((x24.toInt) : Int) = (0) := ci_ne rfl rfl c36
            have cb38 : (I25 97 12).toInt = 0 → (M 97 12).toInt = 0 := ((PMp.tr (PMp.tr (PMp.refl M) m12) m34)).2
            have e39 : ((I25 102 1296) : Int32).toInt = (M 102 1296).toInt := Eq.trans (congrArg Int32.toInt (Eq.trans (f32.1 1296 trivial) (f10.1 1296 trivial))) rfl
            have e40 : ((I25 97 12) : Int32).toInt = (I4 97 12).toInt := Eq.trans (congrArg Int32.toInt (Hid.o hh31).1) rfl
            exact ih.2.1 _ _ _ hB27 f33 (PMp.tr (PMp.tr hpm m12) m34) (by have q0 : (v1 : Int32).toInt = v1.toInt := rfl; have q1 : ((I25 102 1296) : Int32).toInt = (M 102 1296).toInt := e39; have q2 : ((I25 97 12) : Int32).toInt = (I4 97 12).toInt := e40; omega) (by omega)
          · skip
            have d41 : ((x24.toInt) : Int) = (0) := ci_eq rfl rfl c36
            refine sp_X12_amiss hB27 hR0 (fun x42 y47 I43 J44 hB45 p46 => ?_)
            have hh48 := Hid.i p46
            clear p46
            have f49 : Fr pT I25 I43 := (Hid.o hh48).2.2.2.2.1
            have f50 : Fr pR I I43 := Fr.tr f33 f49 (fun _ _ => trivial)
            have m51 : PMp I25 I43 := (PMp.fail (Hid.o hh48).2.1 (Hid.o hh48).2.2.1 (Hid.o hh48).2.2.2.2.2)
            have wr52 := (Hid.o hh48).2.2.2.2.2
            have b53 := Bd.o hB45 io9_112_97_12 bd9_12_12
            have cb54 : (I43 97 12).toInt = 0 → (M 97 12).toInt = 0 := ((PMp.tr (PMp.tr (PMp.tr (PMp.refl M) m12) m34) m51)).2
            have cb55 : (I43 97 12).toInt = 0 → (I43 97 12).toInt = 0 := ((PMp.refl I43)).2
            have e56 : ((I43 102 1296) : Int32).toInt = (M 102 1296).toInt := Eq.trans (congrArg Int32.toInt (Eq.trans (Eq.trans (f49.1 1296 trivial) (f32.1 1296 trivial)) (f10.1 1296 trivial))) rfl
            exact ih.2.1 _ _ _ hB45 f50 (PMp.tr (PMp.tr (PMp.tr hpm m12) m34) m51) (by have q0 : (v1 : Int32).toInt = v1.toInt := rfl; have q1 : ((I43 102 1296) : Int32).toInt = (M 102 1296).toInt := e56; have q2 : ((I43 97 12) : Int32).toInt = (I43 97 12).toInt := rfl; omega) (by first | (clear p7 b16 b17 b18 d23 p28 i35 d41; omega) | omega)
      · skip
        intro v1 M JM hB hf hpm hi hm
        have i_v1 := i32 v1
        refine sg_X12_readMan_48 hc _ _ _ _ ?_
        have b57 := (Bd.c hB (j := 1296) (z := 1296) rfl).1 (by decide)
        have b58 := Bd.o hB io9_112_97_12 bd9_12_12
        refine ⟨fun c59 => ?_, fun c59 => ?_⟩
        · skip
          have d60 : ¬ (((M 97 12).toInt) : Int) = (0) := ci_ne rfl rfl c59
          have cb61 : (M 97 12).toInt = 0 → (M 97 12).toInt = 0 := ((PMp.refl M)).2
          exact ih.2.2.1 _ _ _ hB hf hpm (by have q0 : (v1 : Int32).toInt = v1.toInt := rfl; have q1 : ((M 102 1296) : Int32).toInt = (M 102 1296).toInt := rfl; have q2 : ((M 97 12) : Int32).toInt = (M 97 12).toInt := rfl; omega) (by omega)
        · skip
          have d62 : (((M 97 12).toInt) : Int) = (0) := ci_eq rfl rfl c59
          refine sp_X12_named hB hR0 (by have z : (4 : Int32).toInt = 4 := rfl; omega) (fun x63 y68 I64 J65 hB66 p67 => ?_)
          have hh69 := Hid.i p67
          clear p67
          have f70 : Fr pT M I64 := (Hid.o hh69).2.2.2.2.1
          have f71 : Fr pR I I64 := Fr.tr hf f70 (fun _ _ => trivial)
          have m72 : PMp M I64 := (PMp.keep (Hid.o hh69).1 (Hid.o hh69).2.2.1 (Hid.o hh69).2.2.2.1)
          have q73 : (4 : Int32).toInt = 4 := rfl
          have b74 := (Bd.c hB (j := 0) (z := 0) rfl).1 (by decide)
          have i75 := i32 x63
          refine ⟨fun c76 => ?_, fun c76 => ?_⟩
          · skip
            have d77 : ((x63.toInt) : Int) < (0) := ci_lt rfl rfl c76
            have cb78 : (I64 97 12).toInt = 0 → (M 97 12).toInt = 0 := ((PMp.tr (PMp.refl M) m72)).2
            have e79 : ((I64 102 1296) : Int32).toInt = (M 102 1296).toInt := Eq.trans (congrArg Int32.toInt (f70.1 1296 trivial)) rfl
            have e80 : ((I64 97 12) : Int32).toInt = (M 97 12).toInt := Eq.trans (congrArg Int32.toInt (Hid.o hh69).1) rfl
            exact ih.2.2.1 _ _ _ hB66 f71 (PMp.tr hpm m72) (by have q0 : (v1 : Int32).toInt = v1.toInt := rfl; have q1 : ((I64 102 1296) : Int32).toInt = (M 102 1296).toInt := e79; have q2 : ((I64 97 12) : Int32).toInt = (M 97 12).toInt := e80; omega) (by omega)
          · skip
            have d81 : ((0) : Int) ≤ (x63.toInt) := ci_nlt rfl rfl c76
            refine sp_X12_fail hB66 hR0 (by have z : (3 : Int32).toInt = 3 := rfl; omega) (fun x82 y87 I83 J84 hB85 p86 => ?_)
            have hh88 := Hid.i p86
            clear p86
            have f89 : Fr pT I64 I83 := (Hid.o hh88).2.2.2.2.1
            have f90 : Fr pR I I83 := Fr.tr f71 f89 (fun _ _ => trivial)
            have m91 : PMp I64 I83 := (PMp.fail (Hid.o hh88).2.1 (Hid.o hh88).2.2.1 (Hid.o hh88).2.2.2.2.2)
            have wr92 := (Hid.o hh88).2.2.2.2.2
            have q93 : (3 : Int32).toInt = 3 := rfl
            have b94 := Bd.o hB66 io9_112_97_12 bd9_12_15
            have q95 : ((I64 97 15) : Int32).toInt = (I64 97 15).toInt := rfl
            have b96 := Bd.o hB85 io9_112_97_12 bd9_12_12
            have cb97 : (I83 97 12).toInt = 0 → (M 97 12).toInt = 0 := ((PMp.tr (PMp.tr (PMp.refl M) m72) m91)).2
            have cb98 : (I83 97 12).toInt = 0 → (I83 97 12).toInt = 0 := ((PMp.refl I83)).2
            have e99 : ((I83 102 1296) : Int32).toInt = (M 102 1296).toInt := Eq.trans (congrArg Int32.toInt (Eq.trans (f89.1 1296 trivial) (f70.1 1296 trivial))) rfl
            exact ih.2.2.1 _ _ _ hB85 f90 (PMp.tr (PMp.tr hpm m72) m91) (by have q0 : (v1 : Int32).toInt = v1.toInt := rfl; have q1 : ((I83 102 1296) : Int32).toInt = (M 102 1296).toInt := e99; have q2 : ((I83 97 12) : Int32).toInt = (I83 97 12).toInt := rfl; omega) (by first | (clear p67 i75 d81 b94 q95; omega) | omega)
      · skip
        intro v1 M JM hB hf hpm hi hm
        have i_v1 := i32 v1
        refine sg_X12_readMan_72 hc _ _ _ _ ?_
        have b100 := (Bd.c hB (j := 1296) (z := 1296) rfl).1 (by decide)
        have b101 := Bd.o hB io9_112_97_12 bd9_12_12
        refine ⟨fun c102 => ?_, fun c102 => ?_⟩
        · skip
          have d103 : ¬ (((M 97 12).toInt) : Int) = (0) := ci_ne rfl rfl c102
          have cb104 : (M 97 12).toInt = 0 → (M 97 12).toInt = 0 := ((PMp.refl M)).2
          exact ih.2.2.2 _ _ _ hB hf hpm (by have q0 : (v1 : Int32).toInt = v1.toInt := rfl; have q1 : ((M 102 1296) : Int32).toInt = (M 102 1296).toInt := rfl; have q2 : ((M 97 12) : Int32).toInt = (M 97 12).toInt := rfl; omega) (by omega)
        · skip
          have d105 : (((M 97 12).toInt) : Int) = (0) := ci_eq rfl rfl c102
          have e106 : ((24 + v1) : Int32).toInt = (24) + (v1.toInt) := ti_add rfl rfl (by omega)
          refine ⟨vp_of (a := (24 + v1.toInt)) e106 (by omega) (by omega), ?_⟩
          have cb107 : (M 97 12).toInt = 0 → (M 97 12).toInt = 0 := ((PMp.refl M)).2
          exact ih.2.2.2 _ _ _ hB hf hpm (by have q0 : (v1 : Int32).toInt = v1.toInt := rfl; have q1 : ((M 102 1296) : Int32).toInt = (M 102 1296).toInt := rfl; have q2 : ((M 97 12) : Int32).toInt = (M 97 12).toInt := rfl; omega) (by omega)
      · skip
        intro v1 M JM hB hf hpm hi hm
        have i_v1 := i32 v1
        refine sg_X12_readMan_92 hc _ _ _ _ ?_
        have b108 := (Bd.c hB (j := 1296) (z := 1296) rfl).1 (by decide)
        have b109 := Bd.o hB io9_112_97_12 bd9_12_12
        refine sp_X12_must hB hR0 (fun x110 y115 I111 J112 hB113 p114 => ?_)
        have hh116 := Hid.i p114
        clear p114
        have f117 : Fr pT M I111 := (Hid.o hh116).2.1
        have f118 : Fr pR I I111 := Fr.tr hf f117 (fun _ _ => trivial)
        have m119 : PMp M I111 := (PMp.mk (Hid.o hh116).2.2.1 (Hid.o hh116).2.2.2.1)
        have q120 : (1 : Int32).toInt = 1 := rfl
        have b121 := Bd.o hB io9_112_97_12 bd9_12_14
        have b122 := Bd.o hB io9_112_97_12 bd9_12_16
        have b123 := Bd.o hB113 io9_112_97_12 bd9_12_12
        have b124 := Bd.o hB113 io9_112_97_12 bd9_12_14
        have b125 := Bd.o hB113 io9_112_97_12 bd9_12_16
        refine sp_X12_isDue hB113 hR0 (fun x126 y131 I127 J128 hB129 p130 => ?_)
        intro o132
        have hh133 := Hid.i p130
        clear p130
        have f134 : Fr pT I111 I127 := (Hid.o hh133).2.2.2.2.1
        have f135 : Fr pR I I127 := Fr.tr f118 f134 (fun _ _ => trivial)
        have m136 : PMp I111 I127 := (PMp.keep (Hid.o hh133).1 (Hid.o hh133).2.2.1 (Hid.o hh133).2.2.2.1)
        have i137 := i32 x126
        refine sp_X12_behindWord hB129 hR0 (fun x138 y143 I139 J140 hB141 p142 => ?_)
        have hh144 := Hid.i p142
        clear p142
        have f145 : Fr pT I127 I139 := (Hid.o hh144).2.1
        have f146 : Fr pR I I139 := Fr.tr f135 f145 (fun _ _ => trivial)
        have m147 : PMp I127 I139 := (PMp.mk (Hid.o hh144).2.2.1 (Hid.o hh144).2.2.2.1)
        have wr148 := Or.imp (fun z => z.2) (fun z => z) (Hid.o hh144).2.2.2.2
        have q149 : (1 : Int32).toInt = 1 := rfl
        have q150 : (99 : Int32).toInt = 99 := rfl
        have e151 : ((I127 97 12) : Int32).toInt = (I111 97 12).toInt := Eq.trans (congrArg Int32.toInt (Hid.o hh133).1) rfl
        have e152 : ((I127 97 14) : Int32).toInt = (I111 97 14).toInt := Eq.trans (congrArg Int32.toInt (Hid.o hh133).2.2.1) rfl
        have e153 : ((I127 97 16) : Int32).toInt = (I111 97 16).toInt := Eq.trans (congrArg Int32.toInt (Hid.o hh133).2.2.2.1) rfl
        have b154 := Bd.o hB141 io9_112_97_12 bd9_12_12
        have b155 := Bd.o hB141 io9_112_97_12 bd9_12_14
        have b156 := Bd.o hB141 io9_112_97_12 bd9_12_16
        have i157 := i32 x138
        refine sp_X12_isBy hB141 hR0 (fun x158 y163 I159 J160 hB161 p162 => ?_)
        intro o164
        have hh165 := Hid.i p162
        clear p162
        have f166 : Fr pT I139 I159 := (Hid.o hh165).2.2.2.2.1
        have f167 : Fr pR I I159 := Fr.tr f146 f166 (fun _ _ => trivial)
        have m168 : PMp I139 I159 := (PMp.keep (Hid.o hh165).1 (Hid.o hh165).2.2.1 (Hid.o hh165).2.2.2.1)
        have i169 := i32 x158
        refine sp_X12_behindWord hB161 hR0 (fun x170 y175 I171 J172 hB173 p174 => ?_)
        have hh176 := Hid.i p174
        clear p174
        have f177 : Fr pT I159 I171 := (Hid.o hh176).2.1
        have f178 : Fr pR I I171 := Fr.tr f167 f177 (fun _ _ => trivial)
        have m179 : PMp I159 I171 := (PMp.mk (Hid.o hh176).2.2.1 (Hid.o hh176).2.2.2.1)
        have wr180 := Or.imp (fun z => z.2) (fun z => z) (Hid.o hh176).2.2.2.2
        have q181 : (1 : Int32).toInt = 1 := rfl
        have q182 : (30 : Int32).toInt = 30 := rfl
        have e183 : ((I159 97 12) : Int32).toInt = (I139 97 12).toInt := Eq.trans (congrArg Int32.toInt (Hid.o hh165).1) rfl
        have e184 : ((I159 97 14) : Int32).toInt = (I139 97 14).toInt := Eq.trans (congrArg Int32.toInt (Hid.o hh165).2.2.1) rfl
        have e185 : ((I159 97 16) : Int32).toInt = (I139 97 16).toInt := Eq.trans (congrArg Int32.toInt (Hid.o hh165).2.2.2.1) rfl
        have b186 := Bd.o hB173 io9_112_97_12 bd9_12_12
        have b187 := Bd.o hB173 io9_112_97_12 bd9_12_14
        have b188 := Bd.o hB173 io9_112_97_12 bd9_12_16
        have i189 := i32 x170
        refine sp_X12_isHas hB173 hR0 (fun x190 y195 I191 J192 hB193 p194 => ?_)
        intro o196
        have hh197 := Hid.i p194
        clear p194
        have f198 : Fr pT I171 I191 := (Hid.o hh197).2.2.2.2.1
        have f199 : Fr pR I I191 := Fr.tr f178 f198 (fun _ _ => trivial)
        have m200 : PMp I171 I191 := (PMp.keep (Hid.o hh197).1 (Hid.o hh197).2.2.1 (Hid.o hh197).2.2.2.1)
        have i201 := i32 x190
        refine sp_X12_perhaps hB193 hR0 (fun x202 y207 I203 J204 hB205 p206 => ?_)
        intro o208
        have hh209 := Hid.i p206
        clear p206
        have f210 : Fr pT I191 I203 := (Hid.o hh209).2.1
        have f211 : Fr pR I I203 := Fr.tr f199 f210 (fun _ _ => trivial)
        have m212 : PMp I191 I203 := (PMp.mk (Hid.o hh209).2.2.1 (Hid.o hh209).2.2.2)
        have e213 : ((I191 97 12) : Int32).toInt = (I171 97 12).toInt := Eq.trans (congrArg Int32.toInt (Hid.o hh197).1) rfl
        have e214 : ((I191 97 14) : Int32).toInt = (I171 97 14).toInt := Eq.trans (congrArg Int32.toInt (Hid.o hh197).2.2.1) rfl
        have e215 : ((I191 97 16) : Int32).toInt = (I171 97 16).toInt := Eq.trans (congrArg Int32.toInt (Hid.o hh197).2.2.2.1) rfl
        have b216 := Bd.o hB205 io9_112_97_12 bd9_12_12
        have b217 := Bd.o hB205 io9_112_97_12 bd9_12_14
        have b218 := Bd.o hB205 io9_112_97_12 bd9_12_16
        have i219 := i32 x202
        refine ⟨fun c220 => ?_, fun c220 => ?_⟩
        · skip
          have d221 : ((x202.toInt) : Int) = (0) := ci_eq rfl rfl c220
          refine ⟨fun c222 => ?_, fun c222 => ?_⟩
          · skip
            have d223 : (((I203 97 12).toInt) : Int) ≤ (0) := ci_le rfl rfl c222
            have z224 : ((I203 97 12) : Int32).toInt = 0 := by have z := (show ((I203 97 12) : Int32).toInt = (I203 97 12).toInt from rfl); omega
            have b0225 := PMp.bad (PMp.tr (PMp.tr (PMp.tr (PMp.tr (PMp.tr (PMp.tr (PMp.tr (PMp.refl M) m119) m136) m147) m168) m179) m200) m212) z224
            have op226 := Or.resolve_left (Hid.o hh144).2.2.2.2 (fun z => by have b := PMp.bad (PMp.tr (PMp.tr (PMp.tr (PMp.tr (PMp.refl I139) m168) m179) m200) m212) z224; omega)
            have op227 := Or.resolve_left (Hid.o hh176).2.2.2.2 (fun z => by have b := PMp.bad (PMp.tr (PMp.tr (PMp.refl I171) m200) m212) z224; omega)
            have e228 : ((1330 + v1) : Int32).toInt = (1330) + (v1.toInt) := ti_add rfl rfl (by first | (clear b109 p114 b121 b122 b123 b124 b125 p130 i137 p142 e151 e152 e153 b154 b155 b156 i157 p162 i169 p174 e183 e184 e185 b186 b187 b188 i189 p194 i201 p206 e213 e214 e215 b216 b217 b218 i219 d221 d223 b0225; omega) | omega)
            refine ⟨vp_of (a := (1330 + v1.toInt)) e228 (by first | (clear b109 p114 b121 b122 b123 b124 b125 p130 i137 p142 e151 e152 e153 b154 b155 b156 i157 p162 i169 p174 e183 e184 e185 b186 b187 b188 i189 p194 i201 p206 e213 e214 e215 b216 b217 b218 i219 d221 d223 b0225; omega) | omega) (by first | (clear b109 p114 b121 b122 b123 b124 b125 p130 i137 p142 e151 e152 e153 b154 b155 b156 i157 p162 i169 p174 e183 e184 e185 b186 b187 b188 i189 p194 i201 p206 e213 e214 e215 b216 b217 b218 i219 d221 d223 b0225; omega) | omega), ?_⟩
            have hB229 : Bd (uI I203 102 (Int32.toNatClampNeg (1330 + v1)) x138) := Bd.cfree hB205 (show ((1330 + v1) : Int32).toInt = (1330 + v1.toInt) from e228) (by first | (clear b109 p114 b121 b122 b123 b124 b125 p130 i137 e151 e152 e153 b154 b155 b156 p162 i169 p174 e183 e184 e185 b186 b187 b188 i189 p194 i201 e213 e214 e215 i219 d221 b0225; omega) | omega) (by first | (clear b109 p114 b121 b122 b123 b124 b125 p130 i137 e151 e152 e153 b154 b155 b156 p162 i169 p174 e183 e184 e185 b186 b187 b188 i189 p194 i201 e213 e214 e215 i219 d221 b0225; omega) | omega) (by first | (clear b109 p114 b121 b122 b123 b124 b125 p130 i137 e151 e152 e153 b154 b155 b156 p162 i169 p174 e183 e184 e185 b186 b187 b188 i189 p194 i201 e213 e214 e215 i219 d221 b0225; omega) | omega) (by first | (clear b109 p114 b121 b122 b123 b124 b125 p130 i137 e151 e152 e153 b154 b155 b156 p162 i169 p174 e183 e184 e185 b186 b187 b188 i189 p194 i201 e213 e214 e215 i219 d221 b0225; omega) | omega)
            have f230 : Fr pR I (uI I203 102 (Int32.toNatClampNeg (1330 + v1)) x138) := Fr.w f211 (show ((1330 + v1) : Int32).toInt = (1330 + v1.toInt) from e228) (by first | (clear b109 p114 b121 b122 b123 b124 b125 p130 i137 e151 e152 e153 b154 b155 b156 p162 i169 p174 e183 e184 e185 b186 b187 b188 i189 p194 i201 e213 e214 e215 i219 d221 b0225; omega) | omega) (fun j hj hp => by unfold pR at hp; omega)
            have e231 : ((1336 + v1) : Int32).toInt = (1336) + (v1.toInt) := ti_add rfl rfl (by first | (clear b109 p114 b121 b122 b123 b124 b125 p130 i137 p142 e151 e152 e153 b154 b155 b156 i157 p162 i169 p174 e183 e184 e185 b186 b187 b188 i189 p194 i201 p206 e213 e214 e215 b216 b217 b218 i219 d221 d223 b0225; omega) | omega)
            refine ⟨vp_of (a := (1336 + v1.toInt)) e231 (by first | (clear b109 p114 b121 b122 b123 b124 b125 p130 i137 p142 e151 e152 e153 b154 b155 b156 i157 p162 i169 p174 e183 e184 e185 b186 b187 b188 i189 p194 i201 p206 e213 e214 e215 b216 b217 b218 i219 d221 d223 b0225; omega) | omega) (by first | (clear b109 p114 b121 b122 b123 b124 b125 p130 i137 p142 e151 e152 e153 b154 b155 b156 i157 p162 i169 p174 e183 e184 e185 b186 b187 b188 i189 p194 i201 p206 e213 e214 e215 b216 b217 b218 i219 d221 d223 b0225; omega) | omega), ?_⟩
            have hB232 : Bd (uI (uI I203 102 (Int32.toNatClampNeg (1330 + v1)) x138) 102 (Int32.toNatClampNeg (1336 + v1)) x170) := Bd.csecond hB229 (show ((1336 + v1) : Int32).toInt = (1336 + v1.toInt) from e231) (show (x170 : Int32).toInt = x170.toInt from rfl) (by first | (clear b109 p114 b121 b122 b123 b124 b125 p130 i137 e151 e152 e153 b154 b155 b156 p162 i169 e183 e184 e185 b186 b187 b188 p194 i201 e213 e214 e215 i219 d221 b0225; omega) | omega) (by first | (clear b109 p114 b121 b122 b123 b124 b125 p130 i137 e151 e152 e153 b154 b155 b156 p162 i169 e183 e184 e185 b186 b187 b188 p194 i201 e213 e214 e215 i219 d221 b0225; omega) | omega) (by first | (clear b109 p114 b121 b122 b123 b124 b125 p130 i137 e151 e152 e153 b154 b155 b156 p162 i169 e183 e184 e185 b186 b187 b188 p194 i201 e213 e214 e215 i219 d221 b0225; omega) | omega) 
            have f233 : Fr pR I (uI (uI I203 102 (Int32.toNatClampNeg (1330 + v1)) x138) 102 (Int32.toNatClampNeg (1336 + v1)) x170) := Fr.w f230 (show ((1336 + v1) : Int32).toInt = (1336 + v1.toInt) from e231) (by first | (clear b109 p114 b121 b122 b123 b124 b125 p130 i137 e151 e152 e153 b154 b155 b156 p162 i169 e183 e184 e185 b186 b187 b188 p194 i201 e213 e214 e215 i219 d221 b0225; omega) | omega) (fun j hj hp => by unfold pR at hp; omega)
            have e234 : ((1342 + v1) : Int32).toInt = (1342) + (v1.toInt) := ti_add rfl rfl (by first | (clear b109 p114 b121 b122 b123 b124 b125 p130 i137 p142 e151 e152 e153 b154 b155 b156 i157 p162 i169 p174 e183 e184 e185 b186 b187 b188 i189 p194 i201 p206 e213 e214 e215 b216 b217 b218 i219 d221 d223 b0225; omega) | omega)
            refine ⟨vp_of (a := (1342 + v1.toInt)) e234 (by first | (clear b109 p114 b121 b122 b123 b124 b125 p130 i137 p142 e151 e152 e153 b154 b155 b156 i157 p162 i169 p174 e183 e184 e185 b186 b187 b188 i189 p194 i201 p206 e213 e214 e215 b216 b217 b218 i219 d221 d223 b0225; omega) | omega) (by first | (clear b109 p114 b121 b122 b123 b124 b125 p130 i137 p142 e151 e152 e153 b154 b155 b156 i157 p162 i169 p174 e183 e184 e185 b186 b187 b188 i189 p194 i201 p206 e213 e214 e215 b216 b217 b218 i219 d221 d223 b0225; omega) | omega), ?_⟩
            have hB235 : Bd (uI (uI (uI I203 102 (Int32.toNatClampNeg (1330 + v1)) x138) 102 (Int32.toNatClampNeg (1336 + v1)) x170) 102 (Int32.toNatClampNeg (1342 + v1)) 0) := Bd.cfree hB232 (show ((1342 + v1) : Int32).toInt = (1342 + v1.toInt) from e234) (by first | (clear b109 p114 b121 b122 b123 b124 b125 p130 i137 e151 e152 e153 b154 b155 b156 p162 i169 e183 e184 e185 b186 b187 b188 p194 i201 e213 e214 e215 i219 d221 b0225; omega) | omega) (by first | (clear b109 p114 b121 b122 b123 b124 b125 p130 i137 e151 e152 e153 b154 b155 b156 p162 i169 e183 e184 e185 b186 b187 b188 p194 i201 e213 e214 e215 i219 d221 b0225; omega) | omega) (by first | (clear b109 p114 b121 b122 b123 b124 b125 p130 i137 e151 e152 e153 b154 b155 b156 p162 i169 e183 e184 e185 b186 b187 b188 p194 i201 e213 e214 e215 i219 d221 b0225; omega) | omega) (by first | (clear b109 p114 b121 b122 b123 b124 b125 p130 i137 e151 e152 e153 b154 b155 b156 p162 i169 e183 e184 e185 b186 b187 b188 p194 i201 e213 e214 e215 i219 d221 b0225; omega) | omega)
            have f236 : Fr pR I (uI (uI (uI I203 102 (Int32.toNatClampNeg (1330 + v1)) x138) 102 (Int32.toNatClampNeg (1336 + v1)) x170) 102 (Int32.toNatClampNeg (1342 + v1)) 0) := Fr.w f233 (show ((1342 + v1) : Int32).toInt = (1342 + v1.toInt) from e234) (by first | (clear b109 p114 b121 b122 b123 b124 b125 p130 i137 e151 e152 e153 b154 b155 b156 p162 i169 e183 e184 e185 b186 b187 b188 p194 i201 e213 e214 e215 i219 d221 b0225; omega) | omega) (fun j hj hp => by unfold pR at hp; omega)
            refine ⟨vp_of (a := 1296) rfl (by first | (clear b109 p114 b121 b122 b123 b124 b125 p130 i137 p142 e151 e152 e153 b154 b155 b156 i157 p162 i169 p174 e183 e184 e185 b186 b187 b188 i189 p194 i201 p206 e213 e214 e215 b216 b217 b218 i219 d221 d223 b0225 e228 e231 e234; omega) | omega) (by first | (clear b109 p114 b121 b122 b123 b124 b125 p130 i137 p142 e151 e152 e153 b154 b155 b156 i157 p162 i169 p174 e183 e184 e185 b186 b187 b188 i189 p194 i201 p206 e213 e214 e215 b216 b217 b218 i219 d221 d223 b0225 e228 e231 e234; omega) | omega), ?_⟩
            refine ⟨vp_of (a := 1296) rfl (by first | (clear b109 p114 b121 b122 b123 b124 b125 p130 i137 p142 e151 e152 e153 b154 b155 b156 i157 p162 i169 p174 e183 e184 e185 b186 b187 b188 i189 p194 i201 p206 e213 e214 e215 b216 b217 b218 i219 d221 d223 b0225 e228 e231 e234; omega) | omega) (by first | (clear b109 p114 b121 b122 b123 b124 b125 p130 i137 p142 e151 e152 e153 b154 b155 b156 i157 p162 i169 p174 e183 e184 e185 b186 b187 b188 i189 p194 i201 p206 e213 e214 e215 b216 b217 b218 i219 d221 d223 b0225 e228 e231 e234; omega) | omega), ?_⟩
            have e238 : (((uI (uI (uI I203 102 (Int32.toNatClampNeg (1330 + v1)) x138) 102 (Int32.toNatClampNeg (1336 + v1)) x170) 102 (Int32.toNatClampNeg (1342 + v1)) 0) 102 (Int32.toNatClampNeg 1296)) : Int32).toInt = (M 102 1296).toInt := Eq.trans (congrArg Int32.toInt (Eq.trans (Eq.trans (Eq.trans (Eq.trans (Eq.trans (Eq.trans (Eq.trans (Eq.trans (Eq.trans (Eq.trans (rd_k (fun z => by have z1 := tn_of (show (1296 : Int32).toInt = 1296 from rfl) (by first | (clear p114 b123 b124 b125 p130 i137 e151 e152 e153 b154 b155 b156 p162 i169 e183 e184 e185 b186 b187 b188 p194 i201 e213 e214 e215 i219 d221; omega) | omega); have z2 := tn_of (show ((1342 + v1) : Int32).toInt = (1342 + v1.toInt) from e234) (by first | (clear p114 b123 b124 b125 p130 i137 e151 e152 e153 b154 b155 b156 p162 i169 e183 e184 e185 b186 b187 b188 p194 i201 e213 e214 e215 i219 d221; omega) | omega); have z0 : (1296 : Nat) = (Int32.toNatClampNeg (1342 + v1)) := z; have z4 : Int32.toNatClampNeg 1296 = 1296 := rfl; omega)) (rd_k (fun z => by have z1 := tn_of (show (1296 : Int32).toInt = 1296 from rfl) (by first | (clear p114 b123 b124 b125 p130 i137 e151 e152 e153 b154 b155 b156 p162 i169 e183 e184 e185 b186 b187 b188 p194 i201 e213 e214 e215 i219 d221; omega) | omega); have z2 := tn_of (show ((1336 + v1) : Int32).toInt = (1336 + v1.toInt) from e231) (by first | (clear p114 b123 b124 b125 p130 i137 e151 e152 e153 b154 b155 b156 p162 i169 e183 e184 e185 b186 b187 b188 p194 i201 e213 e214 e215 i219 d221; omega) | omega); have z0 : (1296 : Nat) = (Int32.toNatClampNeg (1336 + v1)) := z; have z4 : Int32.toNatClampNeg 1296 = 1296 := rfl; omega))) (rd_k (fun z => by have z1 := tn_of (show (1296 : Int32).toInt = 1296 from rfl) (by first | (clear p114 b123 b124 b125 p130 i137 e151 e152 e153 b154 b155 b156 p162 i169 e183 e184 e185 b186 b187 b188 p194 i201 e213 e214 e215 i219 d221; omega) | omega); have z2 := tn_of (show ((1330 + v1) : Int32).toInt = (1330 + v1.toInt) from e228) (by first | (clear p114 b123 b124 b125 p130 i137 e151 e152 e153 b154 b155 b156 p162 i169 e183 e184 e185 b186 b187 b188 p194 i201 e213 e214 e215 i219 d221; omega) | omega); have z0 : (1296 : Nat) = (Int32.toNatClampNeg (1330 + v1)) := z; have z4 : Int32.toNatClampNeg 1296 = 1296 := rfl; omega))) (f210.1 (Int32.toNatClampNeg 1296) trivial)) (f198.1 (Int32.toNatClampNeg 1296) trivial)) (f177.1 (Int32.toNatClampNeg 1296) trivial)) (f166.1 (Int32.toNatClampNeg 1296) trivial)) (f145.1 (Int32.toNatClampNeg 1296) trivial)) (f134.1 (Int32.toNatClampNeg 1296) trivial)) (f117.1 (Int32.toNatClampNeg 1296) trivial)) rfl)) rfl
            have e239 : ((((uI (uI (uI I203 102 (Int32.toNatClampNeg (1330 + v1)) x138) 102 (Int32.toNatClampNeg (1336 + v1)) x170) 102 (Int32.toNatClampNeg (1342 + v1)) 0) 102 (Int32.toNatClampNeg 1296)) + 1) : Int32).toInt = ((M 102 1296).toInt) + (1) := ti_add e238 rfl (by first | (clear p114 b123 b124 b125 p130 i137 e151 e152 e153 b154 b155 b156 p162 i169 e183 e184 e185 b186 b187 b188 p194 i201 e213 e214 e215 i219 d221; omega) | omega)
            have e240 : (((uI (uI (uI I203 102 (Int32.toNatClampNeg (1330 + v1)) x138) 102 (Int32.toNatClampNeg (1336 + v1)) x170) 102 (Int32.toNatClampNeg (1342 + v1)) 0) 102 1296) : Int32).toInt = (M 102 1296).toInt := Eq.trans (congrArg Int32.toInt (Eq.trans (Eq.trans (Eq.trans (Eq.trans (Eq.trans (Eq.trans (Eq.trans (Eq.trans (Eq.trans (rd_k (fun z => by have z1 := tn_of (show (1296 : Int32).toInt = 1296 from rfl) (by first | (clear p114 b123 b124 b125 p130 i137 e151 e152 e153 b154 b155 b156 p162 i169 e183 e184 e185 b186 b187 b188 p194 i201 e213 e214 e215 i219 d221; omega) | omega); have z2 := tn_of (show ((1342 + v1) : Int32).toInt = (1342 + v1.toInt) from e234) (by first | (clear p114 b123 b124 b125 p130 i137 e151 e152 e153 b154 b155 b156 p162 i169 e183 e184 e185 b186 b187 b188 p194 i201 e213 e214 e215 i219 d221; omega) | omega); have z0 : (1296 : Nat) = (Int32.toNatClampNeg (1342 + v1)) := z; have z4 : Int32.toNatClampNeg 1296 = 1296 := rfl; omega)) (rd_k (fun z => by have z1 := tn_of (show (1296 : Int32).toInt = 1296 from rfl) (by first | (clear p114 b123 b124 b125 p130 i137 e151 e152 e153 b154 b155 b156 p162 i169 e183 e184 e185 b186 b187 b188 p194 i201 e213 e214 e215 i219 d221; omega) | omega); have z2 := tn_of (show ((1336 + v1) : Int32).toInt = (1336 + v1.toInt) from e231) (by first | (clear p114 b123 b124 b125 p130 i137 e151 e152 e153 b154 b155 b156 p162 i169 e183 e184 e185 b186 b187 b188 p194 i201 e213 e214 e215 i219 d221; omega) | omega); have z0 : (1296 : Nat) = (Int32.toNatClampNeg (1336 + v1)) := z; have z4 : Int32.toNatClampNeg 1296 = 1296 := rfl; omega))) (rd_k (fun z => by have z1 := tn_of (show (1296 : Int32).toInt = 1296 from rfl) (by first | (clear p114 b123 b124 b125 p130 i137 e151 e152 e153 b154 b155 b156 p162 i169 e183 e184 e185 b186 b187 b188 p194 i201 e213 e214 e215 i219 d221; omega) | omega); have z2 := tn_of (show ((1330 + v1) : Int32).toInt = (1330 + v1.toInt) from e228) (by first | (clear p114 b123 b124 b125 p130 i137 e151 e152 e153 b154 b155 b156 p162 i169 e183 e184 e185 b186 b187 b188 p194 i201 e213 e214 e215 i219 d221; omega) | omega); have z0 : (1296 : Nat) = (Int32.toNatClampNeg (1330 + v1)) := z; have z4 : Int32.toNatClampNeg 1296 = 1296 := rfl; omega))) (f210.1 1296 trivial)) (f198.1 1296 trivial)) (f177.1 1296 trivial)) (f166.1 1296 trivial)) (f145.1 1296 trivial)) (f134.1 1296 trivial)) (f117.1 1296 trivial))) rfl
            have e241 : (((uI (uI (uI I203 102 (Int32.toNatClampNeg (1330 + v1)) x138) 102 (Int32.toNatClampNeg (1336 + v1)) x170) 102 (Int32.toNatClampNeg (1342 + v1)) 0) 102 (Int32.toNatClampNeg (1336 + v1))) : Int32).toInt = x170.toInt := Eq.trans (congrArg Int32.toInt (Eq.trans (rd_k (fun z => by have z1 := tn_of (show ((1336 + v1) : Int32).toInt = (1336 + v1.toInt) from e231) (by first | (clear b109 p114 b121 b122 b123 b124 b125 p130 i137 e151 e152 e153 b154 b155 b156 p162 i169 e183 e184 e185 b186 b187 b188 p194 i201 e213 e214 e215 i219 d221 b0225; omega) | omega); have z2 := tn_of (show ((1342 + v1) : Int32).toInt = (1342 + v1.toInt) from e234) (by first | (clear b109 p114 b121 b122 b123 b124 b125 p130 i137 e151 e152 e153 b154 b155 b156 p162 i169 e183 e184 e185 b186 b187 b188 p194 i201 e213 e214 e215 i219 d221 b0225; omega) | omega); omega)) rd_eq)) rfl
            have hB237 : Bd (uI (uI (uI (uI I203 102 (Int32.toNatClampNeg (1330 + v1)) x138) 102 (Int32.toNatClampNeg (1336 + v1)) x170) 102 (Int32.toNatClampNeg (1342 + v1)) 0) 102 (Int32.toNatClampNeg 1296) (((uI (uI (uI I203 102 (Int32.toNatClampNeg (1330 + v1)) x138) 102 (Int32.toNatClampNeg (1336 + v1)) x170) 102 (Int32.toNatClampNeg (1342 + v1)) 0) 102 (Int32.toNatClampNeg 1296)) + 1)) := Bd.cmen hB235 (m := 1296) (b := 4) rfl rfl (by decide) (by have z1 : ((((uI (uI (uI I203 102 (Int32.toNatClampNeg (1330 + v1)) x138) 102 (Int32.toNatClampNeg (1336 + v1)) x170) 102 (Int32.toNatClampNeg (1342 + v1)) 0) 102 (Int32.toNatClampNeg 1296)) + 1) : Int32).toInt = ((M 102 1296).toInt + 1) := e239; have z2 : ((uI (uI (uI I203 102 (Int32.toNatClampNeg (1330 + v1)) x138) 102 (Int32.toNatClampNeg (1336 + v1)) x170) 102 (Int32.toNatClampNeg (1342 + v1)) 0) 102 1296).toInt = (M 102 1296).toInt := e240; omega) (by have z1 : ((((uI (uI (uI I203 102 (Int32.toNatClampNeg (1330 + v1)) x138) 102 (Int32.toNatClampNeg (1336 + v1)) x170) 102 (Int32.toNatClampNeg (1342 + v1)) 0) 102 (Int32.toNatClampNeg 1296)) + 1) : Int32).toInt = ((M 102 1296).toInt + 1) := e239; omega) (w := (1336 + v1)) (by have z1 := tn_of (show ((1336 + v1) : Int32).toInt = (1336 + v1.toInt) from e231) (by first | (clear p114 b123 b124 b125 p130 i137 e151 e152 e153 b154 b155 b156 p162 i169 e183 e184 e185 b186 b187 b188 p194 i201 e213 e214 e215 i219 d221; omega) | omega); have z2 : ((uI (uI (uI I203 102 (Int32.toNatClampNeg (1330 + v1)) x138) 102 (Int32.toNatClampNeg (1336 + v1)) x170) 102 (Int32.toNatClampNeg (1342 + v1)) 0) 102 1296).toInt = (M 102 1296).toInt := e240; omega) (by have z1 : ((uI (uI (uI I203 102 (Int32.toNatClampNeg (1330 + v1)) x138) 102 (Int32.toNatClampNeg (1336 + v1)) x170) 102 (Int32.toNatClampNeg (1342 + v1)) 0) 102 (Int32.toNatClampNeg (1336 + v1))).toInt = x170.toInt := e241; omega)
            have f242 : Fr pR I (uI (uI (uI (uI I203 102 (Int32.toNatClampNeg (1330 + v1)) x138) 102 (Int32.toNatClampNeg (1336 + v1)) x170) 102 (Int32.toNatClampNeg (1342 + v1)) 0) 102 (Int32.toNatClampNeg 1296) (((uI (uI (uI I203 102 (Int32.toNatClampNeg (1330 + v1)) x138) 102 (Int32.toNatClampNeg (1336 + v1)) x170) 102 (Int32.toNatClampNeg (1342 + v1)) 0) 102 (Int32.toNatClampNeg 1296)) + 1)) := Fr.w f236 (show (1296 : Int32).toInt = 1296 from rfl) (by first | (clear b109 p114 b121 b122 b123 b124 b125 p130 i137 e151 e152 e153 b154 b155 b156 p162 i169 e183 e184 e185 b186 b187 b188 p194 i201 e213 e214 e215 i219 d221 b0225; omega) | omega) (fun j hj hp => by unfold pR at hp; omega)
            exact hQ _ _ _ _ hB237 ⟨f242, (PMp.o (PMp.o (PMp.o (PMp.o (PMp.tr (PMp.tr (PMp.tr (PMp.tr (PMp.tr (PMp.tr (PMp.tr hpm m119) m136) m147) m168) m179) m200) m212) (show ¬ (97 : Nat) = 102 by decide)) (show ¬ (97 : Nat) = 102 by decide)) (show ¬ (97 : Nat) = 102 by decide)) (show ¬ (97 : Nat) = 102 by decide))⟩
          · skip
            have d243 : ((0) : Int) < ((I203 97 12).toInt) := ci_nle rfl rfl c222
            exact hQ _ _ _ _ hB205 ⟨f211, (PMp.tr (PMp.tr (PMp.tr (PMp.tr (PMp.tr (PMp.tr (PMp.tr hpm m119) m136) m147) m168) m179) m200) m212)⟩
        · skip
          have d244 : ¬ ((x202.toInt) : Int) = (0) := ci_ne rfl rfl c220
          refine sp_X12_readSlices hB205 hR0 (fun x245 y250 I246 J247 hB248 p249 => ?_)
          have hh251 := Hid.i p249
          clear p249
          have f252 : Fr pT I203 I246 := (Hid.o hh251).2.1
          have f253 : Fr pR I I246 := Fr.tr f211 f252 (fun _ _ => trivial)
          have m254 : PMp I203 I246 := (PMp.mk (Hid.o hh251).2.2.1 (Hid.o hh251).2.2.2.1)
          have wr255 := (Hid.o hh251).2.2.2.2
          have b256 := Bd.o hB248 io9_112_97_12 bd9_12_12
          have b257 := Bd.o hB248 io9_112_97_12 bd9_12_14
          have b258 := Bd.o hB248 io9_112_97_12 bd9_12_16
          have i259 := i32 x245
          refine ⟨fun c260 => ?_, fun c260 => ?_⟩
          · skip
            have d261 : (((I246 97 12).toInt) : Int) ≤ (0) := ci_le rfl rfl c260
            have z262 : ((I246 97 12) : Int32).toInt = 0 := by have z := (show ((I246 97 12) : Int32).toInt = (I246 97 12).toInt from rfl); omega
            have b0263 := PMp.bad (PMp.tr (PMp.tr (PMp.tr (PMp.tr (PMp.tr (PMp.tr (PMp.tr (PMp.tr (PMp.refl M) m119) m136) m147) m168) m179) m200) m212) m254) z262
            have op264 := Or.resolve_left (Hid.o hh144).2.2.2.2 (fun z => by have b := PMp.bad (PMp.tr (PMp.tr (PMp.tr (PMp.tr (PMp.tr (PMp.refl I139) m168) m179) m200) m212) m254) z262; omega)
            have op265 := Or.resolve_left (Hid.o hh176).2.2.2.2 (fun z => by have b := PMp.bad (PMp.tr (PMp.tr (PMp.tr (PMp.refl I171) m200) m212) m254) z262; omega)
            have op266 := Or.resolve_left (Or.inr True.intro : (1 : Int) ≤ 0 ∨ True) (fun z => by have b := PMp.bad (PMp.refl I246) z262; omega)
            have e267 : ((1330 + v1) : Int32).toInt = (1330) + (v1.toInt) := ti_add rfl rfl (by first | (clear b109 p114 b121 b122 b123 b124 b125 p130 i137 p142 e151 e152 e153 b154 b155 b156 i157 p162 i169 p174 e183 e184 e185 b186 b187 b188 i189 p194 i201 p206 e213 e214 e215 b216 b217 b218 i219 d244 p249 b256 b257 b258 i259 d261 b0263; omega) | omega)
            refine ⟨vp_of (a := (1330 + v1.toInt)) e267 (by first | (clear b109 p114 b121 b122 b123 b124 b125 p130 i137 p142 e151 e152 e153 b154 b155 b156 i157 p162 i169 p174 e183 e184 e185 b186 b187 b188 i189 p194 i201 p206 e213 e214 e215 b216 b217 b218 i219 d244 p249 b256 b257 b258 i259 d261 b0263; omega) | omega) (by first | (clear b109 p114 b121 b122 b123 b124 b125 p130 i137 p142 e151 e152 e153 b154 b155 b156 i157 p162 i169 p174 e183 e184 e185 b186 b187 b188 i189 p194 i201 p206 e213 e214 e215 b216 b217 b218 i219 d244 p249 b256 b257 b258 i259 d261 b0263; omega) | omega), ?_⟩
            have hB268 : Bd (uI I246 102 (Int32.toNatClampNeg (1330 + v1)) x138) := Bd.cfree hB248 (show ((1330 + v1) : Int32).toInt = (1330 + v1.toInt) from e267) (by first | (clear b109 p114 b121 b122 b123 b124 b125 p130 i137 e151 e152 e153 b154 b155 b156 p162 i169 p174 e183 e184 e185 b186 b187 b188 i189 p194 i201 p206 e213 e214 e215 b216 b217 b218 i219 d244 i259 b0263; omega) | omega) (by first | (clear b109 p114 b121 b122 b123 b124 b125 p130 i137 e151 e152 e153 b154 b155 b156 p162 i169 p174 e183 e184 e185 b186 b187 b188 i189 p194 i201 p206 e213 e214 e215 b216 b217 b218 i219 d244 i259 b0263; omega) | omega) (by first | (clear b109 p114 b121 b122 b123 b124 b125 p130 i137 e151 e152 e153 b154 b155 b156 p162 i169 p174 e183 e184 e185 b186 b187 b188 i189 p194 i201 p206 e213 e214 e215 b216 b217 b218 i219 d244 i259 b0263; omega) | omega) (by first | (clear b109 p114 b121 b122 b123 b124 b125 p130 i137 e151 e152 e153 b154 b155 b156 p162 i169 p174 e183 e184 e185 b186 b187 b188 i189 p194 i201 p206 e213 e214 e215 b216 b217 b218 i219 d244 i259 b0263; omega) | omega)
            have f269 : Fr pR I (uI I246 102 (Int32.toNatClampNeg (1330 + v1)) x138) := Fr.w f253 (show ((1330 + v1) : Int32).toInt = (1330 + v1.toInt) from e267) (by first | (clear b109 p114 b121 b122 b123 b124 b125 p130 i137 e151 e152 e153 b154 b155 b156 p162 i169 p174 e183 e184 e185 b186 b187 b188 i189 p194 i201 p206 e213 e214 e215 b216 b217 b218 i219 d244 i259 b0263; omega) | omega) (fun j hj hp => by unfold pR at hp; omega)
            have e270 : ((1336 + v1) : Int32).toInt = (1336) + (v1.toInt) := ti_add rfl rfl (by first | (clear b109 p114 b121 b122 b123 b124 b125 p130 i137 p142 e151 e152 e153 b154 b155 b156 i157 p162 i169 p174 e183 e184 e185 b186 b187 b188 i189 p194 i201 p206 e213 e214 e215 b216 b217 b218 i219 d244 p249 b256 b257 b258 i259 d261 b0263; omega) | omega)
            refine ⟨vp_of (a := (1336 + v1.toInt)) e270 (by first | (clear b109 p114 b121 b122 b123 b124 b125 p130 i137 p142 e151 e152 e153 b154 b155 b156 i157 p162 i169 p174 e183 e184 e185 b186 b187 b188 i189 p194 i201 p206 e213 e214 e215 b216 b217 b218 i219 d244 p249 b256 b257 b258 i259 d261 b0263; omega) | omega) (by first | (clear b109 p114 b121 b122 b123 b124 b125 p130 i137 p142 e151 e152 e153 b154 b155 b156 i157 p162 i169 p174 e183 e184 e185 b186 b187 b188 i189 p194 i201 p206 e213 e214 e215 b216 b217 b218 i219 d244 p249 b256 b257 b258 i259 d261 b0263; omega) | omega), ?_⟩
            have hB271 : Bd (uI (uI I246 102 (Int32.toNatClampNeg (1330 + v1)) x138) 102 (Int32.toNatClampNeg (1336 + v1)) x170) := Bd.csecond hB268 (show ((1336 + v1) : Int32).toInt = (1336 + v1.toInt) from e270) (show (x170 : Int32).toInt = x170.toInt from rfl) (by first | (clear b109 p114 b121 b122 b123 b124 b125 p130 i137 e151 e152 e153 b154 b155 b156 p162 i169 e183 e184 e185 b186 b187 b188 p194 i201 p206 e213 e214 e215 b216 b217 b218 i219 d244 i259 b0263; omega) | omega) (by first | (clear b109 p114 b121 b122 b123 b124 b125 p130 i137 e151 e152 e153 b154 b155 b156 p162 i169 e183 e184 e185 b186 b187 b188 p194 i201 p206 e213 e214 e215 b216 b217 b218 i219 d244 i259 b0263; omega) | omega) (by first | (clear b109 p114 b121 b122 b123 b124 b125 p130 i137 e151 e152 e153 b154 b155 b156 p162 i169 e183 e184 e185 b186 b187 b188 p194 i201 p206 e213 e214 e215 b216 b217 b218 i219 d244 i259 b0263; omega) | omega) 
            have f272 : Fr pR I (uI (uI I246 102 (Int32.toNatClampNeg (1330 + v1)) x138) 102 (Int32.toNatClampNeg (1336 + v1)) x170) := Fr.w f269 (show ((1336 + v1) : Int32).toInt = (1336 + v1.toInt) from e270) (by first | (clear b109 p114 b121 b122 b123 b124 b125 p130 i137 e151 e152 e153 b154 b155 b156 p162 i169 e183 e184 e185 b186 b187 b188 p194 i201 p206 e213 e214 e215 b216 b217 b218 i219 d244 i259 b0263; omega) | omega) (fun j hj hp => by unfold pR at hp; omega)
            have e273 : ((1342 + v1) : Int32).toInt = (1342) + (v1.toInt) := ti_add rfl rfl (by first | (clear b109 p114 b121 b122 b123 b124 b125 p130 i137 p142 e151 e152 e153 b154 b155 b156 i157 p162 i169 p174 e183 e184 e185 b186 b187 b188 i189 p194 i201 p206 e213 e214 e215 b216 b217 b218 i219 d244 p249 b256 b257 b258 i259 d261 b0263; omega) | omega)
            refine ⟨vp_of (a := (1342 + v1.toInt)) e273 (by first | (clear b109 p114 b121 b122 b123 b124 b125 p130 i137 p142 e151 e152 e153 b154 b155 b156 i157 p162 i169 p174 e183 e184 e185 b186 b187 b188 i189 p194 i201 p206 e213 e214 e215 b216 b217 b218 i219 d244 p249 b256 b257 b258 i259 d261 b0263; omega) | omega) (by first | (clear b109 p114 b121 b122 b123 b124 b125 p130 i137 p142 e151 e152 e153 b154 b155 b156 i157 p162 i169 p174 e183 e184 e185 b186 b187 b188 i189 p194 i201 p206 e213 e214 e215 b216 b217 b218 i219 d244 p249 b256 b257 b258 i259 d261 b0263; omega) | omega), ?_⟩
            have hB274 : Bd (uI (uI (uI I246 102 (Int32.toNatClampNeg (1330 + v1)) x138) 102 (Int32.toNatClampNeg (1336 + v1)) x170) 102 (Int32.toNatClampNeg (1342 + v1)) x245) := Bd.cfree hB271 (show ((1342 + v1) : Int32).toInt = (1342 + v1.toInt) from e273) (by first | (clear b109 p114 b121 b122 b123 b124 b125 p130 i137 e151 e152 e153 b154 b155 b156 p162 i169 e183 e184 e185 b186 b187 b188 p194 i201 p206 e213 e214 e215 b216 b217 b218 i219 d244 b0263; omega) | omega) (by first | (clear b109 p114 b121 b122 b123 b124 b125 p130 i137 e151 e152 e153 b154 b155 b156 p162 i169 e183 e184 e185 b186 b187 b188 p194 i201 p206 e213 e214 e215 b216 b217 b218 i219 d244 b0263; omega) | omega) (by first | (clear b109 p114 b121 b122 b123 b124 b125 p130 i137 e151 e152 e153 b154 b155 b156 p162 i169 e183 e184 e185 b186 b187 b188 p194 i201 p206 e213 e214 e215 b216 b217 b218 i219 d244 b0263; omega) | omega) (by first | (clear b109 p114 b121 b122 b123 b124 b125 p130 i137 e151 e152 e153 b154 b155 b156 p162 i169 e183 e184 e185 b186 b187 b188 p194 i201 p206 e213 e214 e215 b216 b217 b218 i219 d244 b0263; omega) | omega)
            have f275 : Fr pR I (uI (uI (uI I246 102 (Int32.toNatClampNeg (1330 + v1)) x138) 102 (Int32.toNatClampNeg (1336 + v1)) x170) 102 (Int32.toNatClampNeg (1342 + v1)) x245) := Fr.w f272 (show ((1342 + v1) : Int32).toInt = (1342 + v1.toInt) from e273) (by first | (clear b109 p114 b121 b122 b123 b124 b125 p130 i137 e151 e152 e153 b154 b155 b156 p162 i169 e183 e184 e185 b186 b187 b188 p194 i201 p206 e213 e214 e215 b216 b217 b218 i219 d244 b0263; omega) | omega) (fun j hj hp => by unfold pR at hp; omega)
            refine ⟨vp_of (a := 1296) rfl (by first | (clear b109 p114 b121 b122 b123 b124 b125 p130 i137 p142 e151 e152 e153 b154 b155 b156 i157 p162 i169 p174 e183 e184 e185 b186 b187 b188 i189 p194 i201 p206 e213 e214 e215 b216 b217 b218 i219 d244 p249 b256 b257 b258 i259 d261 b0263 e267 e270 e273; omega) | omega) (by first | (clear b109 p114 b121 b122 b123 b124 b125 p130 i137 p142 e151 e152 e153 b154 b155 b156 i157 p162 i169 p174 e183 e184 e185 b186 b187 b188 i189 p194 i201 p206 e213 e214 e215 b216 b217 b218 i219 d244 p249 b256 b257 b258 i259 d261 b0263 e267 e270 e273; omega) | omega), ?_⟩
            refine ⟨vp_of (a := 1296) rfl (by first | (clear b109 p114 b121 b122 b123 b124 b125 p130 i137 p142 e151 e152 e153 b154 b155 b156 i157 p162 i169 p174 e183 e184 e185 b186 b187 b188 i189 p194 i201 p206 e213 e214 e215 b216 b217 b218 i219 d244 p249 b256 b257 b258 i259 d261 b0263 e267 e270 e273; omega) | omega) (by first | (clear b109 p114 b121 b122 b123 b124 b125 p130 i137 p142 e151 e152 e153 b154 b155 b156 i157 p162 i169 p174 e183 e184 e185 b186 b187 b188 i189 p194 i201 p206 e213 e214 e215 b216 b217 b218 i219 d244 p249 b256 b257 b258 i259 d261 b0263 e267 e270 e273; omega) | omega), ?_⟩
            have e277 : (((uI (uI (uI I246 102 (Int32.toNatClampNeg (1330 + v1)) x138) 102 (Int32.toNatClampNeg (1336 + v1)) x170) 102 (Int32.toNatClampNeg (1342 + v1)) x245) 102 (Int32.toNatClampNeg 1296)) : Int32).toInt = (M 102 1296).toInt := Eq.trans (congrArg Int32.toInt (Eq.trans (Eq.trans (Eq.trans (Eq.trans (Eq.trans (Eq.trans (Eq.trans (Eq.trans (Eq.trans (Eq.trans (Eq.trans (rd_k (fun z => by have z1 := tn_of (show (1296 : Int32).toInt = 1296 from rfl) (by first | (clear p114 b123 b124 b125 p130 i137 e151 e152 e153 b154 b155 b156 p162 i169 e183 e184 e185 b186 b187 b188 p194 i201 p206 e213 e214 e215 b216 b217 b218 i219 d244; omega) | omega); have z2 := tn_of (show ((1342 + v1) : Int32).toInt = (1342 + v1.toInt) from e273) (by first | (clear p114 b123 b124 b125 p130 i137 e151 e152 e153 b154 b155 b156 p162 i169 e183 e184 e185 b186 b187 b188 p194 i201 p206 e213 e214 e215 b216 b217 b218 i219 d244; omega) | omega); have z0 : (1296 : Nat) = (Int32.toNatClampNeg (1342 + v1)) := z; have z4 : Int32.toNatClampNeg 1296 = 1296 := rfl; omega)) (rd_k (fun z => by have z1 := tn_of (show (1296 : Int32).toInt = 1296 from rfl) (by first | (clear p114 b123 b124 b125 p130 i137 e151 e152 e153 b154 b155 b156 p162 i169 e183 e184 e185 b186 b187 b188 p194 i201 p206 e213 e214 e215 b216 b217 b218 i219 d244; omega) | omega); have z2 := tn_of (show ((1336 + v1) : Int32).toInt = (1336 + v1.toInt) from e270) (by first | (clear p114 b123 b124 b125 p130 i137 e151 e152 e153 b154 b155 b156 p162 i169 e183 e184 e185 b186 b187 b188 p194 i201 p206 e213 e214 e215 b216 b217 b218 i219 d244; omega) | omega); have z0 : (1296 : Nat) = (Int32.toNatClampNeg (1336 + v1)) := z; have z4 : Int32.toNatClampNeg 1296 = 1296 := rfl; omega))) (rd_k (fun z => by have z1 := tn_of (show (1296 : Int32).toInt = 1296 from rfl) (by first | (clear p114 b123 b124 b125 p130 i137 e151 e152 e153 b154 b155 b156 p162 i169 e183 e184 e185 b186 b187 b188 p194 i201 p206 e213 e214 e215 b216 b217 b218 i219 d244; omega) | omega); have z2 := tn_of (show ((1330 + v1) : Int32).toInt = (1330 + v1.toInt) from e267) (by first | (clear p114 b123 b124 b125 p130 i137 e151 e152 e153 b154 b155 b156 p162 i169 e183 e184 e185 b186 b187 b188 p194 i201 p206 e213 e214 e215 b216 b217 b218 i219 d244; omega) | omega); have z0 : (1296 : Nat) = (Int32.toNatClampNeg (1330 + v1)) := z; have z4 : Int32.toNatClampNeg 1296 = 1296 := rfl; omega))) (f252.1 (Int32.toNatClampNeg 1296) trivial)) (f210.1 (Int32.toNatClampNeg 1296) trivial)) (f198.1 (Int32.toNatClampNeg 1296) trivial)) (f177.1 (Int32.toNatClampNeg 1296) trivial)) (f166.1 (Int32.toNatClampNeg 1296) trivial)) (f145.1 (Int32.toNatClampNeg 1296) trivial)) (f134.1 (Int32.toNatClampNeg 1296) trivial)) (f117.1 (Int32.toNatClampNeg 1296) trivial)) rfl)) rfl
            have e278 : ((((uI (uI (uI I246 102 (Int32.toNatClampNeg (1330 + v1)) x138) 102 (Int32.toNatClampNeg (1336 + v1)) x170) 102 (Int32.toNatClampNeg (1342 + v1)) x245) 102 (Int32.toNatClampNeg 1296)) + 1) : Int32).toInt = ((M 102 1296).toInt) + (1) := ti_add e277 rfl (by first | (clear p114 b123 b124 b125 p130 i137 e151 e152 e153 b154 b155 b156 p162 i169 e183 e184 e185 b186 b187 b188 p194 i201 p206 e213 e214 e215 b216 b217 b218 i219 d244; omega) | omega)
            have e279 : (((uI (uI (uI I246 102 (Int32.toNatClampNeg (1330 + v1)) x138) 102 (Int32.toNatClampNeg (1336 + v1)) x170) 102 (Int32.toNatClampNeg (1342 + v1)) x245) 102 1296) : Int32).toInt = (M 102 1296).toInt := Eq.trans (congrArg Int32.toInt (Eq.trans (Eq.trans (Eq.trans (Eq.trans (Eq.trans (Eq.trans (Eq.trans (Eq.trans (Eq.trans (Eq.trans (rd_k (fun z => by have z1 := tn_of (show (1296 : Int32).toInt = 1296 from rfl) (by first | (clear p114 b123 b124 b125 p130 i137 e151 e152 e153 b154 b155 b156 p162 i169 e183 e184 e185 b186 b187 b188 p194 i201 p206 e213 e214 e215 b216 b217 b218 i219 d244; omega) | omega); have z2 := tn_of (show ((1342 + v1) : Int32).toInt = (1342 + v1.toInt) from e273) (by first | (clear p114 b123 b124 b125 p130 i137 e151 e152 e153 b154 b155 b156 p162 i169 e183 e184 e185 b186 b187 b188 p194 i201 p206 e213 e214 e215 b216 b217 b218 i219 d244; omega) | omega); have z0 : (1296 : Nat) = (Int32.toNatClampNeg (1342 + v1)) := z; have z4 : Int32.toNatClampNeg 1296 = 1296 := rfl; omega)) (rd_k (fun z => by have z1 := tn_of (show (1296 : Int32).toInt = 1296 from rfl) (by first | (clear p114 b123 b124 b125 p130 i137 e151 e152 e153 b154 b155 b156 p162 i169 e183 e184 e185 b186 b187 b188 p194 i201 p206 e213 e214 e215 b216 b217 b218 i219 d244; omega) | omega); have z2 := tn_of (show ((1336 + v1) : Int32).toInt = (1336 + v1.toInt) from e270) (by first | (clear p114 b123 b124 b125 p130 i137 e151 e152 e153 b154 b155 b156 p162 i169 e183 e184 e185 b186 b187 b188 p194 i201 p206 e213 e214 e215 b216 b217 b218 i219 d244; omega) | omega); have z0 : (1296 : Nat) = (Int32.toNatClampNeg (1336 + v1)) := z; have z4 : Int32.toNatClampNeg 1296 = 1296 := rfl; omega))) (rd_k (fun z => by have z1 := tn_of (show (1296 : Int32).toInt = 1296 from rfl) (by first | (clear p114 b123 b124 b125 p130 i137 e151 e152 e153 b154 b155 b156 p162 i169 e183 e184 e185 b186 b187 b188 p194 i201 p206 e213 e214 e215 b216 b217 b218 i219 d244; omega) | omega); have z2 := tn_of (show ((1330 + v1) : Int32).toInt = (1330 + v1.toInt) from e267) (by first | (clear p114 b123 b124 b125 p130 i137 e151 e152 e153 b154 b155 b156 p162 i169 e183 e184 e185 b186 b187 b188 p194 i201 p206 e213 e214 e215 b216 b217 b218 i219 d244; omega) | omega); have z0 : (1296 : Nat) = (Int32.toNatClampNeg (1330 + v1)) := z; have z4 : Int32.toNatClampNeg 1296 = 1296 := rfl; omega))) (f252.1 1296 trivial)) (f210.1 1296 trivial)) (f198.1 1296 trivial)) (f177.1 1296 trivial)) (f166.1 1296 trivial)) (f145.1 1296 trivial)) (f134.1 1296 trivial)) (f117.1 1296 trivial))) rfl
            have e280 : (((uI (uI (uI I246 102 (Int32.toNatClampNeg (1330 + v1)) x138) 102 (Int32.toNatClampNeg (1336 + v1)) x170) 102 (Int32.toNatClampNeg (1342 + v1)) x245) 102 (Int32.toNatClampNeg (1336 + v1))) : Int32).toInt = x170.toInt := Eq.trans (congrArg Int32.toInt (Eq.trans (rd_k (fun z => by have z1 := tn_of (show ((1336 + v1) : Int32).toInt = (1336 + v1.toInt) from e270) (by first | (clear b109 p114 b121 b122 b123 b124 b125 p130 i137 e151 e152 e153 b154 b155 b156 p162 i169 e183 e184 e185 b186 b187 b188 p194 i201 p206 e213 e214 e215 b216 b217 b218 i219 d244 b0263; omega) | omega); have z2 := tn_of (show ((1342 + v1) : Int32).toInt = (1342 + v1.toInt) from e273) (by first | (clear b109 p114 b121 b122 b123 b124 b125 p130 i137 e151 e152 e153 b154 b155 b156 p162 i169 e183 e184 e185 b186 b187 b188 p194 i201 p206 e213 e214 e215 b216 b217 b218 i219 d244 b0263; omega) | omega); omega)) rd_eq)) rfl
            have hB276 : Bd (uI (uI (uI (uI I246 102 (Int32.toNatClampNeg (1330 + v1)) x138) 102 (Int32.toNatClampNeg (1336 + v1)) x170) 102 (Int32.toNatClampNeg (1342 + v1)) x245) 102 (Int32.toNatClampNeg 1296) (((uI (uI (uI I246 102 (Int32.toNatClampNeg (1330 + v1)) x138) 102 (Int32.toNatClampNeg (1336 + v1)) x170) 102 (Int32.toNatClampNeg (1342 + v1)) x245) 102 (Int32.toNatClampNeg 1296)) + 1)) := Bd.cmen hB274 (m := 1296) (b := 4) rfl rfl (by decide) (by have z1 : ((((uI (uI (uI I246 102 (Int32.toNatClampNeg (1330 + v1)) x138) 102 (Int32.toNatClampNeg (1336 + v1)) x170) 102 (Int32.toNatClampNeg (1342 + v1)) x245) 102 (Int32.toNatClampNeg 1296)) + 1) : Int32).toInt = ((M 102 1296).toInt + 1) := e278; have z2 : ((uI (uI (uI I246 102 (Int32.toNatClampNeg (1330 + v1)) x138) 102 (Int32.toNatClampNeg (1336 + v1)) x170) 102 (Int32.toNatClampNeg (1342 + v1)) x245) 102 1296).toInt = (M 102 1296).toInt := e279; omega) (by have z1 : ((((uI (uI (uI I246 102 (Int32.toNatClampNeg (1330 + v1)) x138) 102 (Int32.toNatClampNeg (1336 + v1)) x170) 102 (Int32.toNatClampNeg (1342 + v1)) x245) 102 (Int32.toNatClampNeg 1296)) + 1) : Int32).toInt = ((M 102 1296).toInt + 1) := e278; omega) (w := (1336 + v1)) (by have z1 := tn_of (show ((1336 + v1) : Int32).toInt = (1336 + v1.toInt) from e270) (by first | (clear p114 b123 b124 b125 p130 i137 e151 e152 e153 b154 b155 b156 p162 i169 e183 e184 e185 b186 b187 b188 p194 i201 p206 e213 e214 e215 b216 b217 b218 i219 d244; omega) | omega); have z2 : ((uI (uI (uI I246 102 (Int32.toNatClampNeg (1330 + v1)) x138) 102 (Int32.toNatClampNeg (1336 + v1)) x170) 102 (Int32.toNatClampNeg (1342 + v1)) x245) 102 1296).toInt = (M 102 1296).toInt := e279; omega) (by have z1 : ((uI (uI (uI I246 102 (Int32.toNatClampNeg (1330 + v1)) x138) 102 (Int32.toNatClampNeg (1336 + v1)) x170) 102 (Int32.toNatClampNeg (1342 + v1)) x245) 102 (Int32.toNatClampNeg (1336 + v1))).toInt = x170.toInt := e280; omega)
            have f281 : Fr pR I (uI (uI (uI (uI I246 102 (Int32.toNatClampNeg (1330 + v1)) x138) 102 (Int32.toNatClampNeg (1336 + v1)) x170) 102 (Int32.toNatClampNeg (1342 + v1)) x245) 102 (Int32.toNatClampNeg 1296) (((uI (uI (uI I246 102 (Int32.toNatClampNeg (1330 + v1)) x138) 102 (Int32.toNatClampNeg (1336 + v1)) x170) 102 (Int32.toNatClampNeg (1342 + v1)) x245) 102 (Int32.toNatClampNeg 1296)) + 1)) := Fr.w f275 (show (1296 : Int32).toInt = 1296 from rfl) (by first | (clear b109 p114 b121 b122 b123 b124 b125 p130 i137 e151 e152 e153 b154 b155 b156 p162 i169 e183 e184 e185 b186 b187 b188 p194 i201 p206 e213 e214 e215 b216 b217 b218 i219 d244 b0263; omega) | omega) (fun j hj hp => by unfold pR at hp; omega)
            exact hQ _ _ _ _ hB276 ⟨f281, (PMp.o (PMp.o (PMp.o (PMp.o (PMp.tr (PMp.tr (PMp.tr (PMp.tr (PMp.tr (PMp.tr (PMp.tr (PMp.tr hpm m119) m136) m147) m168) m179) m200) m212) m254) (show ¬ (97 : Nat) = 102 by decide)) (show ¬ (97 : Nat) = 102 by decide)) (show ¬ (97 : Nat) = 102 by decide)) (show ¬ (97 : Nat) = 102 by decide))⟩
          · skip
            have d282 : ((0) : Int) < ((I246 97 12).toInt) := ci_nle rfl rfl c260
            exact hQ _ _ _ _ hB248 ⟨f253, (PMp.tr (PMp.tr (PMp.tr (PMp.tr (PMp.tr (PMp.tr (PMp.tr (PMp.tr hpm m119) m136) m147) m168) m179) m200) m212) m254)⟩
  refine sg_X12_readMan_0 hc _ _ _ ?_
  refine ⟨vp_of (a := 1296) rfl (by omega) (by omega), ?_⟩
  refine ⟨fun c283 => ?_, fun c283 => ?_⟩
  · skip
    have b284 := (Bd.c hB0 (j := 1296) (z := 1296) rfl).1 (by decide)
    have e285 : ((I 102 (Int32.toNatClampNeg 1296)) : Int32).toInt = (I 102 1296).toInt := Eq.trans (congrArg Int32.toInt rfl) rfl
    have d286 : ¬ (((I 102 1296).toInt) : Int) = (6) := ci_ne e285 rfl c283
    have cb287 : (I 97 12).toInt = 0 → (I 97 12).toInt = 0 := ((PMp.refl I)).2
    have b288 := Bd.o hB0 io9_112_97_12 bd9_12_12
    exact (L 1000000).1 _ _ _ hB0 (Fr.refl _ _) (PMp.refl I) (by have q0 : ((I 102 (Int32.toNatClampNeg 1296)) : Int32).toInt = (I 102 1296).toInt := e285; have q1 : ((I 102 1296) : Int32).toInt = (I 102 1296).toInt := rfl; have q2 : ((I 97 12) : Int32).toInt = (I 97 12).toInt := rfl; omega) (by omega)
  · skip
    have b289 := (Bd.c hB0 (j := 1296) (z := 1296) rfl).1 (by decide)
    have e290 : ((I 102 (Int32.toNatClampNeg 1296)) : Int32).toInt = (I 102 1296).toInt := Eq.trans (congrArg Int32.toInt rfl) rfl
    have d291 : (((I 102 1296).toInt) : Int) = (6) := ci_eq e290 rfl c283
    refine sp_X12_fail hB0 hR0 (by have z : (6 : Int32).toInt = 6 := rfl; omega) (fun x292 y297 I293 J294 hB295 p296 => ?_)
    have hh298 := Hid.i p296
    clear p296
    have f299 : Fr pT I I293 := (Hid.o hh298).2.2.2.2.1
    have f300 : Fr pR I I293 := Fr.tr (Fr.refl _ _) f299 (fun _ _ => trivial)
    have m301 : PMp I I293 := (PMp.fail (Hid.o hh298).2.1 (Hid.o hh298).2.2.1 (Hid.o hh298).2.2.2.2.2)
    have wr302 := (Hid.o hh298).2.2.2.2.2
    have q303 : (6 : Int32).toInt = 6 := rfl
    have b304 := Bd.o hB0 io9_112_97_12 bd9_12_15
    have q305 : ((I 97 15) : Int32).toInt = (I 97 15).toInt := rfl
    have b306 := Bd.o hB295 io9_112_97_12 bd9_12_12
    have cb307 : (I293 97 12).toInt = 0 → (I 97 12).toInt = 0 := ((PMp.tr (PMp.refl I) m301)).2
    have cb308 : (I293 97 12).toInt = 0 → (I293 97 12).toInt = 0 := ((PMp.refl I293)).2
    have e309 : ((I293 102 1296) : Int32).toInt = (I 102 1296).toInt := Eq.trans (congrArg Int32.toInt (f299.1 1296 trivial)) rfl
    exact (L 1000000).1 _ _ _ hB295 f300 (PMp.tr (PMp.refl I) m301) (by have q0 : ((I 102 (Int32.toNatClampNeg 1296)) : Int32).toInt = (I 102 1296).toInt := e290; have q1 : ((I293 102 1296) : Int32).toInt = (I 102 1296).toInt := e309; have q2 : ((I293 97 12) : Int32).toInt = (I293 97 12).toInt := rfl; omega) (by omega)
set_option maxHeartbeats 2000000 in
theorem sp_X12_readPart {d : Nat} {Q : Qt} {I : Im} {J : Jm} {R : Rm} (hB0 : Bd I) (hR0 : RI R) (hQ : ∀ (x : Int32) (y : Int64) (I2 : Im) (J2 : Jm), Bd I2 → (Fr pR I I2 ∧ PMp I I2) → Q x y I2 J2 R) : AM (d + 7) 232 112 [.ref 97] I J R Q := by
  refine w_X12_readPart ?_
  refine sp_X12_isOdds hB0 hR0 (fun x1 y6 I2 J3 hB4 p5 => ?_)
  intro o7
  have hh8 := Hid.i p5
  clear p5
  have f9 : Fr pT I I2 := (Hid.o hh8).2.2.2.2.1
  have f10 : Fr pR I I2 := Fr.tr (Fr.refl _ _) f9 (fun _ _ => trivial)
  have m11 : PMp I I2 := (PMp.keep (Hid.o hh8).1 (Hid.o hh8).2.2.1 (Hid.o hh8).2.2.2.1)
  have b12 := Bd.o hB0 io9_112_97_12 bd9_12_14
  have i13 := i32 x1
  refine ⟨fun c14 => ?_, fun c14 => ?_⟩
  · skip
    have d15 : ((x1.toInt) : Int) = (0) := ci_eq rfl rfl c14
    refine sp_X12_isStore hB4 hR0 (fun x16 y21 I17 J18 hB19 p20 => ?_)
    intro o22
    have hh23 := Hid.i p20
    clear p20
    have f24 : Fr pT I2 I17 := (Hid.o hh23).2.2.2.2.1
    have f25 : Fr pR I I17 := Fr.tr f10 f24 (fun _ _ => trivial)
    have m26 : PMp I2 I17 := (PMp.keep (Hid.o hh23).1 (Hid.o hh23).2.2.1 (Hid.o hh23).2.2.2.1)
    have e27 : ((I2 97 14) : Int32).toInt = (I 97 14).toInt := Eq.trans (congrArg Int32.toInt (Hid.o hh8).2.2.1) rfl
    have i28 := i32 x16
    refine ⟨fun c29 => ?_, fun c29 => ?_⟩
    · skip
      have d30 : ((x16.toInt) : Int) = (0) := ci_eq rfl rfl c29
      refine sp_X12_isMan hB19 hR0 (fun x31 y36 I32 J33 hB34 p35 => ?_)
      intro o37
      have hh38 := Hid.i p35
      clear p35
      have f39 : Fr pT I17 I32 := (Hid.o hh38).2.2.2.2.1
      have f40 : Fr pR I I32 := Fr.tr f25 f39 (fun _ _ => trivial)
      have m41 : PMp I17 I32 := (PMp.keep (Hid.o hh38).1 (Hid.o hh38).2.2.1 (Hid.o hh38).2.2.2.1)
      have e42 : ((I17 97 14) : Int32).toInt = (I 97 14).toInt := Eq.trans (congrArg Int32.toInt (Eq.trans (Hid.o hh23).2.2.1 (Hid.o hh8).2.2.1)) rfl
      have i43 := i32 x31
      refine ⟨fun c44 => ?_, fun c44 => ?_⟩
      · skip
        have d45 : ((x31.toInt) : Int) = (0) := ci_eq rfl rfl c44
        refine sp_X12_isKnown hB34 hR0 (fun x46 y51 I47 J48 hB49 p50 => ?_)
        intro o52
        have hh53 := Hid.i p50
        clear p50
        have f54 : Fr pT I32 I47 := (Hid.o hh53).2.2.2.2.1
        have f55 : Fr pR I I47 := Fr.tr f40 f54 (fun _ _ => trivial)
        have m56 : PMp I32 I47 := (PMp.keep (Hid.o hh53).1 (Hid.o hh53).2.2.1 (Hid.o hh53).2.2.2.1)
        have e57 : ((I32 97 14) : Int32).toInt = (I 97 14).toInt := Eq.trans (congrArg Int32.toInt (Eq.trans (Eq.trans (Hid.o hh38).2.2.1 (Hid.o hh23).2.2.1) (Hid.o hh8).2.2.1)) rfl
        have i58 := i32 x46
        refine ⟨fun c59 => ?_, fun c59 => ?_⟩
        · skip
          have d60 : ((x46.toInt) : Int) = (0) := ci_eq rfl rfl c59
          refine sp_X12_amiss hB49 hR0 (fun x61 y66 I62 J63 hB64 p65 => ?_)
          have hh67 := Hid.i p65
          clear p65
          have f68 : Fr pT I47 I62 := (Hid.o hh67).2.2.2.2.1
          have f69 : Fr pR I I62 := Fr.tr f55 f68 (fun _ _ => trivial)
          have m70 : PMp I47 I62 := (PMp.fail (Hid.o hh67).2.1 (Hid.o hh67).2.2.1 (Hid.o hh67).2.2.2.2.2)
          have wr71 := (Hid.o hh67).2.2.2.2.2
          have b72 := Bd.o hB64 io9_112_97_12 bd9_12_12
          exact hQ _ _ _ _ hB64 ⟨f69, (PMp.tr (PMp.tr (PMp.tr (PMp.tr (PMp.tr (PMp.refl I) m11) m26) m41) m56) m70)⟩
        · skip
          have d73 : ¬ ((x46.toInt) : Int) = (0) := ci_ne rfl rfl c59
          refine sp_X12_readKnown hB49 hR0 (fun x74 y79 I75 J76 hB77 p78 => ?_)
          have hh80 := Hid.i p78
          clear p78
          have f81 : Fr pR I47 I75 := (Hid.o hh80).2.1
          have f82 : Fr pR I I75 := Fr.tr f55 f81 (fun _ z => z)
          have m83 : PMp I47 I75 := (PMp.mk (Hid.o hh80).2.2.1 (Hid.o hh80).2.2.2)
          have b84 := Bd.o hB0 io9_112_97_12 bd9_12_12
          have e85 : ((I47 97 12) : Int32).toInt = (I 97 12).toInt := Eq.trans (congrArg Int32.toInt (Eq.trans (Eq.trans (Eq.trans (Hid.o hh53).1 (Hid.o hh38).1) (Hid.o hh23).1) (Hid.o hh8).1)) rfl
          have e86 : ((I47 97 14) : Int32).toInt = (I 97 14).toInt := Eq.trans (congrArg Int32.toInt (Eq.trans (Eq.trans (Eq.trans (Hid.o hh53).2.2.1 (Hid.o hh38).2.2.1) (Hid.o hh23).2.2.1) (Hid.o hh8).2.2.1)) rfl
          have b87 := Bd.o hB0 io9_112_97_12 bd9_12_16
          have e88 : ((I47 97 16) : Int32).toInt = (I 97 16).toInt := Eq.trans (congrArg Int32.toInt (Eq.trans (Eq.trans (Eq.trans (Hid.o hh53).2.2.2.1 (Hid.o hh38).2.2.2.1) (Hid.o hh23).2.2.2.1) (Hid.o hh8).2.2.2.1)) rfl
          have b89 := Bd.o hB77 io9_112_97_12 bd9_12_12
          have b90 := Bd.o hB77 io9_112_97_12 bd9_12_14
          have b91 := Bd.o hB77 io9_112_97_12 bd9_12_16
          exact hQ _ _ _ _ hB77 ⟨f82, (PMp.tr (PMp.tr (PMp.tr (PMp.tr (PMp.tr (PMp.refl I) m11) m26) m41) m56) m83)⟩
      · skip
        have d92 : ¬ ((x31.toInt) : Int) = (0) := ci_ne rfl rfl c44
        refine sp_X12_readMan hB34 hR0 (fun x93 y98 I94 J95 hB96 p97 => ?_)
        have hh99 := Hid.i p97
        clear p97
        have f100 : Fr pR I32 I94 := (Hid.o hh99).1
        have f101 : Fr pR I I94 := Fr.tr f40 f100 (fun _ z => z)
        have m102 : PMp I32 I94 := (Hid.o hh99).2
        exact hQ _ _ _ _ hB96 ⟨f101, (PMp.tr (PMp.tr (PMp.tr (PMp.tr (PMp.refl I) m11) m26) m41) m102)⟩
    · skip
      have d103 : ¬ ((x16.toInt) : Int) = (0) := ci_ne rfl rfl c29
      refine sp_X12_readStore hB19 hR0 (fun x104 y109 I105 J106 hB107 p108 => ?_)
      have hh110 := Hid.i p108
      clear p108
      have f111 : Fr pR I17 I105 := (Hid.o hh110).2.1
      have f112 : Fr pR I I105 := Fr.tr f25 f111 (fun _ z => z)
      have m113 : PMp I17 I105 := (PMp.mk (Hid.o hh110).2.2.1 (Hid.o hh110).2.2.2)
      have b114 := Bd.o hB0 io9_112_97_12 bd9_12_12
      have e115 : ((I17 97 12) : Int32).toInt = (I 97 12).toInt := Eq.trans (congrArg Int32.toInt (Eq.trans (Hid.o hh23).1 (Hid.o hh8).1)) rfl
      have e116 : ((I17 97 14) : Int32).toInt = (I 97 14).toInt := Eq.trans (congrArg Int32.toInt (Eq.trans (Hid.o hh23).2.2.1 (Hid.o hh8).2.2.1)) rfl
      have b117 := Bd.o hB0 io9_112_97_12 bd9_12_16
      have e118 : ((I17 97 16) : Int32).toInt = (I 97 16).toInt := Eq.trans (congrArg Int32.toInt (Eq.trans (Hid.o hh23).2.2.2.1 (Hid.o hh8).2.2.2.1)) rfl
      have b119 := Bd.o hB107 io9_112_97_12 bd9_12_12
      have b120 := Bd.o hB107 io9_112_97_12 bd9_12_14
      have b121 := Bd.o hB107 io9_112_97_12 bd9_12_16
      exact hQ _ _ _ _ hB107 ⟨f112, (PMp.tr (PMp.tr (PMp.tr (PMp.refl I) m11) m26) m113)⟩
  · skip
    have d122 : ¬ ((x1.toInt) : Int) = (0) := ci_ne rfl rfl c14
    refine sp_X12_readOdds hB4 hR0 (fun x123 y128 I124 J125 hB126 p127 => ?_)
    have hh129 := Hid.i p127
    clear p127
    have f130 : Fr pR I2 I124 := (Hid.o hh129).2.1
    have f131 : Fr pR I I124 := Fr.tr f10 f130 (fun _ z => z)
    have m132 : PMp I2 I124 := (PMp.mk (Hid.o hh129).2.2.1 (Hid.o hh129).2.2.2)
    have b133 := Bd.o hB0 io9_112_97_12 bd9_12_12
    have e134 : ((I2 97 12) : Int32).toInt = (I 97 12).toInt := Eq.trans (congrArg Int32.toInt (Hid.o hh8).1) rfl
    have e135 : ((I2 97 14) : Int32).toInt = (I 97 14).toInt := Eq.trans (congrArg Int32.toInt (Hid.o hh8).2.2.1) rfl
    have b136 := Bd.o hB0 io9_112_97_12 bd9_12_16
    have e137 : ((I2 97 16) : Int32).toInt = (I 97 16).toInt := Eq.trans (congrArg Int32.toInt (Hid.o hh8).2.2.2.1) rfl
    have b138 := Bd.o hB126 io9_112_97_12 bd9_12_12
    have b139 := Bd.o hB126 io9_112_97_12 bd9_12_14
    have b140 := Bd.o hB126 io9_112_97_12 bd9_12_16
    exact hQ _ _ _ _ hB126 ⟨f131, (PMp.tr (PMp.tr (PMp.refl I) m11) m132)⟩
