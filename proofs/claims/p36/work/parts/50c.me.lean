set_option maxHeartbeats 2000000 in
theorem sp_X12_readStore {d : Nat} {Q : Qt} {I : Im} {J : Jm} {R : Rm} (hB0 : Bd I) (hR0 : RI R) (hQ : ∀ (x : Int32) (y : Int64) (I2 : Im) (J2 : Jm), Bd I2 → (I2 97 27 = I 97 27 ∧ Fr pR I I2 ∧ ((2 * (901 - (I2 97 16).toInt) + min (I2 97 14).toInt 1) ≤ (2 * (901 - (I 97 16).toInt) + min (I 97 14).toInt 1) ∧ ((I 97 12).toInt = 0 ∨ 1 ≤ (I2 97 12).toInt))) → Q x y I2 J2 R) : AM (d + 5) 230 112 [.ref 97] I J R Q := by
  refine am_X12_readStore (fun P hc => ?_)
  have L : ∀ n : Nat, (∀ (M : Im) (JM : Jm), Bd M → (M 97 27 = I 97 27) → Fr pR I M → (((I 97 12).toInt = 0 ∨ 1 ≤ (M 97 12).toInt) ∧ (2 * (901 - (M 97 16).toInt) + min (M 97 14).toInt 1) ≤ (2 * (901 - (I 97 16).toInt) + min (I 97 14).toInt 1)) → 1 < (n : Int) → P 44 112 [(0, .ref 97)] [] M JM R) := by
    intro n
    induction n with
    | zero =>
      exact fun  M J _ _ _ hi hm => absurd hm (by omega)
    | succ n ih =>
      intro  M JM hB hk_97_27 hf hi hm
      refine sg_X12_readStore_44 hc _ _ _ ?_
      have b1 := Bd.o hB io9_112_97_12 bd9_12_12
      have b2 := Bd.o hB io9_112_97_12 bd9_12_14
      have b3 := Bd.o hB io9_112_97_12 bd9_12_16
      refine sp_X12_count hB hR0 (fun x4 y9 I5 J6 hB7 p8 => ?_)
      have f10 : Fr pT M I5 := p8.2.1
      have f11 : Fr pR I I5 := Fr.tr hf f10 (fun _ _ => trivial)
      have q12 : (1 : Int32).toInt = 1 := rfl
      have q13 : (30 : Int32).toInt = 30 := rfl
      have b14 := Bd.o hB7 io9_112_97_12 bd9_12_12
      have b15 := Bd.o hB7 io9_112_97_12 bd9_12_14
      have b16 := Bd.o hB7 io9_112_97_12 bd9_12_16
      have i17 := i32 x4
      refine sp_X12_isTimes hB7 hR0 (fun x18 y23 I19 J20 hB21 p22 => ?_)
      intro o24
      have f25 : Fr pT I5 I19 := p22.2.2.2.2.1
      have f26 : Fr pR I I19 := Fr.tr f11 f25 (fun _ _ => trivial)
      have i27 := i32 x18
      refine sp_X12_perhaps hB21 hR0 (fun x28 y33 I29 J30 hB31 p32 => ?_)
      intro o34
      have f35 : Fr pT I19 I29 := p32.2.1
      have f36 : Fr pR I I29 := Fr.tr f26 f35 (fun _ _ => trivial)
      have e37 : ((I19 97 12) : Int32).toInt = (I5 97 12).toInt := Eq.trans (congrArg Int32.toInt p22.1) rfl
      have e38 : ((I19 97 14) : Int32).toInt = (I5 97 14).toInt := Eq.trans (congrArg Int32.toInt p22.2.2.1) rfl
      have e39 : ((I19 97 16) : Int32).toInt = (I5 97 16).toInt := Eq.trans (congrArg Int32.toInt p22.2.2.2.1) rfl
      have b40 := Bd.o hB31 io9_112_97_12 bd9_12_12
      have b41 := Bd.o hB31 io9_112_97_12 bd9_12_14
      have b42 := Bd.o hB31 io9_112_97_12 bd9_12_16
      have i43 := i32 x28
      refine ⟨fun c44 => ?_, fun c44 => ?_⟩
      · skip
        have d45 : ((x28.toInt) : Int) = (0) := ci_eq rfl rfl c44
        refine ⟨fun c46 => ?_, fun c46 => ?_⟩
        · skip
          have d47 : (((I29 97 12).toInt) : Int) ≤ (0) := ci_le rfl rfl c46
          have hB48 : Bd (uI I29 97 26 ((I29 97 26) ||| (1 <<< ((x4 - 1) &&& 31)))) := Bd.o0 hB31 io9_112_97_12 (by omega) bd9_12_26
          have f49 : Fr pR I (uI I29 97 26 ((I29 97 26) ||| (1 <<< ((x4 - 1) &&& 31)))) := Fr.o f36 (by decide) (by decide)
          have e50 : ((1300 + x4) : Int32).toInt = (1300) + (x4.toInt) := ti_add rfl rfl (by omega)
          have e51 : (((1300 + x4) - 1) : Int32).toInt = ((1300 + x4.toInt)) - (1) := ti_sub e50 rfl (by omega)
          refine ⟨vp_of (a := ((1300 + x4.toInt) - 1)) e51 (by omega) (by omega), ?_⟩
          have hB52 : Bd (uI (uI I29 97 26 ((I29 97 26) ||| (1 <<< ((x4 - 1) &&& 31)))) 102 (Int32.toNatClampNeg ((1300 + x4) - 1)) 1) := Bd.cfree hB48 (show (((1300 + x4) - 1) : Int32).toInt = ((1300 + x4.toInt) - 1) from e51) (by omega) (by omega) (by omega) (by omega)
          have f53 : Fr pR I (uI (uI I29 97 26 ((I29 97 26) ||| (1 <<< ((x4 - 1) &&& 31)))) 102 (Int32.toNatClampNeg ((1300 + x4) - 1)) 1) := Fr.w f49 (show (((1300 + x4) - 1) : Int32).toInt = ((1300 + x4.toInt) - 1) from e51) (by omega) (fun j hj hp => by unfold pR at hp; omega)
          have b54 := Bd.o hB0 io9_112_97_12 bd9_12_12
          have b55 := Bd.o hB0 io9_112_97_12 bd9_12_14
          have b56 := Bd.o hB0 io9_112_97_12 bd9_12_16
          have e57 : (((uI (uI I29 97 26 ((I29 97 26) ||| (1 <<< ((x4 - 1) &&& 31)))) 102 (Int32.toNatClampNeg ((1300 + x4) - 1)) 1) 97 12) : Int32).toInt = (I29 97 12).toInt := Eq.trans (congrArg Int32.toInt (Eq.trans (rd_ne (by first | decide | omega)) (rd_k (by decide)))) rfl
          have e58 : (((uI (uI I29 97 26 ((I29 97 26) ||| (1 <<< ((x4 - 1) &&& 31)))) 102 (Int32.toNatClampNeg ((1300 + x4) - 1)) 1) 97 14) : Int32).toInt = (I29 97 14).toInt := Eq.trans (congrArg Int32.toInt (Eq.trans (rd_ne (by first | decide | omega)) (rd_k (by decide)))) rfl
          have e59 : (((uI (uI I29 97 26 ((I29 97 26) ||| (1 <<< ((x4 - 1) &&& 31)))) 102 (Int32.toNatClampNeg ((1300 + x4) - 1)) 1) 97 16) : Int32).toInt = (I29 97 16).toInt := Eq.trans (congrArg Int32.toInt (Eq.trans (rd_ne (by first | decide | omega)) (rd_k (by decide)))) rfl
          exact hQ _ _ _ _ hB52 ⟨(Eq.trans (Eq.trans (Eq.trans (Eq.trans (Eq.trans (rd_ne (by first | decide | omega)) (rd_k (by decide))) p32.1) p22.2.1) p8.1) hk_97_27), f53, (by have q4 : (((uI (uI I29 97 26 ((I29 97 26) ||| (1 <<< ((x4 - 1) &&& 31)))) 102 (Int32.toNatClampNeg ((1300 + x4) - 1)) 1) 97 12) : Int32).toInt = (I29 97 12).toInt := e57; have q5 : (((uI (uI I29 97 26 ((I29 97 26) ||| (1 <<< ((x4 - 1) &&& 31)))) 102 (Int32.toNatClampNeg ((1300 + x4) - 1)) 1) 97 14) : Int32).toInt = (I29 97 14).toInt := e58; have q6 : (((uI (uI I29 97 26 ((I29 97 26) ||| (1 <<< ((x4 - 1) &&& 31)))) 102 (Int32.toNatClampNeg ((1300 + x4) - 1)) 1) 97 16) : Int32).toInt = (I29 97 16).toInt := e59; omega)⟩
        · skip
          have d60 : ((0) : Int) < ((I29 97 12).toInt) := ci_nle rfl rfl c46
          have b61 := Bd.o hB0 io9_112_97_12 bd9_12_12
          have b62 := Bd.o hB0 io9_112_97_12 bd9_12_14
          have b63 := Bd.o hB0 io9_112_97_12 bd9_12_16
          exact hQ _ _ _ _ hB31 ⟨(Eq.trans (Eq.trans (Eq.trans p32.1 p22.2.1) p8.1) hk_97_27), f36, (by have q4 : ((I29 97 12) : Int32).toInt = (I29 97 12).toInt := rfl; have q5 : ((I29 97 14) : Int32).toInt = (I29 97 14).toInt := rfl; have q6 : ((I29 97 16) : Int32).toInt = (I29 97 16).toInt := rfl; omega)⟩
      · skip
        have d64 : ¬ ((x28.toInt) : Int) = (0) := ci_ne rfl rfl c44
        refine sp_X12_count hB31 hR0 (fun x65 y70 I66 J67 hB68 p69 => ?_)
        have f71 : Fr pT I29 I66 := p69.2.1
        have f72 : Fr pR I I66 := Fr.tr f36 f71 (fun _ _ => trivial)
        have q73 : (0 : Int32).toInt = 0 := rfl
        have q74 : (99 : Int32).toInt = 99 := rfl
        have b75 := Bd.o hB68 io9_112_97_12 bd9_12_12
        have b76 := Bd.o hB68 io9_112_97_12 bd9_12_14
        have b77 := Bd.o hB68 io9_112_97_12 bd9_12_16
        have i78 := i32 x65
        refine ⟨fun c79 => ?_, fun c79 => ?_⟩
        · skip
          have d80 : (((I66 97 12).toInt) : Int) ≤ (0) := ci_le rfl rfl c79
          have hB81 : Bd (uI I66 97 26 ((I66 97 26) ||| (1 <<< ((x4 - 1) &&& 31)))) := Bd.o0 hB68 io9_112_97_12 (by omega) bd9_12_26
          have f82 : Fr pR I (uI I66 97 26 ((I66 97 26) ||| (1 <<< ((x4 - 1) &&& 31)))) := Fr.o f72 (by decide) (by decide)
          have e83 : ((1300 + x4) : Int32).toInt = (1300) + (x4.toInt) := ti_add rfl rfl (by omega)
          have e84 : (((1300 + x4) - 1) : Int32).toInt = ((1300 + x4.toInt)) - (1) := ti_sub e83 rfl (by omega)
          refine ⟨vp_of (a := ((1300 + x4.toInt) - 1)) e84 (by omega) (by omega), ?_⟩
          have hB85 : Bd (uI (uI I66 97 26 ((I66 97 26) ||| (1 <<< ((x4 - 1) &&& 31)))) 102 (Int32.toNatClampNeg ((1300 + x4) - 1)) x65) := Bd.cfree hB81 (show (((1300 + x4) - 1) : Int32).toInt = ((1300 + x4.toInt) - 1) from e84) (by omega) (by omega) (by omega) (by omega)
          have f86 : Fr pR I (uI (uI I66 97 26 ((I66 97 26) ||| (1 <<< ((x4 - 1) &&& 31)))) 102 (Int32.toNatClampNeg ((1300 + x4) - 1)) x65) := Fr.w f82 (show (((1300 + x4) - 1) : Int32).toInt = ((1300 + x4.toInt) - 1) from e84) (by omega) (fun j hj hp => by unfold pR at hp; omega)
          have b87 := Bd.o hB0 io9_112_97_12 bd9_12_12
          have b88 := Bd.o hB0 io9_112_97_12 bd9_12_14
          have b89 := Bd.o hB0 io9_112_97_12 bd9_12_16
          have e90 : (((uI (uI I66 97 26 ((I66 97 26) ||| (1 <<< ((x4 - 1) &&& 31)))) 102 (Int32.toNatClampNeg ((1300 + x4) - 1)) x65) 97 12) : Int32).toInt = (I66 97 12).toInt := Eq.trans (congrArg Int32.toInt (Eq.trans (rd_ne (by first | decide | omega)) (rd_k (by decide)))) rfl
          have e91 : (((uI (uI I66 97 26 ((I66 97 26) ||| (1 <<< ((x4 - 1) &&& 31)))) 102 (Int32.toNatClampNeg ((1300 + x4) - 1)) x65) 97 14) : Int32).toInt = (I66 97 14).toInt := Eq.trans (congrArg Int32.toInt (Eq.trans (rd_ne (by first | decide | omega)) (rd_k (by decide)))) rfl
          have e92 : (((uI (uI I66 97 26 ((I66 97 26) ||| (1 <<< ((x4 - 1) &&& 31)))) 102 (Int32.toNatClampNeg ((1300 + x4) - 1)) x65) 97 16) : Int32).toInt = (I66 97 16).toInt := Eq.trans (congrArg Int32.toInt (Eq.trans (rd_ne (by first | decide | omega)) (rd_k (by decide)))) rfl
          exact hQ _ _ _ _ hB85 ⟨(Eq.trans (Eq.trans (Eq.trans (Eq.trans (Eq.trans (Eq.trans (rd_ne (by first | decide | omega)) (rd_k (by decide))) p69.1) p32.1) p22.2.1) p8.1) hk_97_27), f86, (by have q4 : (((uI (uI I66 97 26 ((I66 97 26) ||| (1 <<< ((x4 - 1) &&& 31)))) 102 (Int32.toNatClampNeg ((1300 + x4) - 1)) x65) 97 12) : Int32).toInt = (I66 97 12).toInt := e90; have q5 : (((uI (uI I66 97 26 ((I66 97 26) ||| (1 <<< ((x4 - 1) &&& 31)))) 102 (Int32.toNatClampNeg ((1300 + x4) - 1)) x65) 97 14) : Int32).toInt = (I66 97 14).toInt := e91; have q6 : (((uI (uI I66 97 26 ((I66 97 26) ||| (1 <<< ((x4 - 1) &&& 31)))) 102 (Int32.toNatClampNeg ((1300 + x4) - 1)) x65) 97 16) : Int32).toInt = (I66 97 16).toInt := e92; omega)⟩
        · skip
          have d93 : ((0) : Int) < ((I66 97 12).toInt) := ci_nle rfl rfl c79
          have b94 := Bd.o hB0 io9_112_97_12 bd9_12_12
          have b95 := Bd.o hB0 io9_112_97_12 bd9_12_14
          have b96 := Bd.o hB0 io9_112_97_12 bd9_12_16
          exact hQ _ _ _ _ hB68 ⟨(Eq.trans (Eq.trans (Eq.trans (Eq.trans p69.1 p32.1) p22.2.1) p8.1) hk_97_27), f72, (by have q4 : ((I66 97 12) : Int32).toInt = (I66 97 12).toInt := rfl; have q5 : ((I66 97 14) : Int32).toInt = (I66 97 14).toInt := rfl; have q6 : ((I66 97 16) : Int32).toInt = (I66 97 16).toInt := rfl; omega)⟩
  refine sg_X12_readStore_0 hc _ _ _ ?_
  refine sp_X12_must hB0 hR0 (fun x97 y102 I98 J99 hB100 p101 => ?_)
  have f103 : Fr pT I I98 := p101.2.1
  have f104 : Fr pR I I98 := Fr.tr (Fr.refl _ _) f103 (fun _ _ => trivial)
  have q105 : (1 : Int32).toInt = 1 := rfl
  have b106 := Bd.o hB0 io9_112_97_12 bd9_12_12
  have b107 := Bd.o hB0 io9_112_97_12 bd9_12_14
  have b108 := Bd.o hB0 io9_112_97_12 bd9_12_16
  have b109 := Bd.o hB100 io9_112_97_12 bd9_12_12
  have b110 := Bd.o hB100 io9_112_97_12 bd9_12_14
  have b111 := Bd.o hB100 io9_112_97_12 bd9_12_16
  refine sp_X12_mayBe hB100 hR0 (fun x112 y117 I113 J114 hB115 p116 => ?_)
  have f118 : Fr pT I98 I113 := p116.2.2.2.2.1
  have f119 : Fr pR I I113 := Fr.tr f104 f118 (fun _ _ => trivial)
  have q120 : (1 : Int32).toInt = 1 := rfl
  have q121 : (30 : Int32).toInt = 30 := rfl
  have b122 := Bd.o hB115 io9_112_97_12 bd9_12_12
  have e123 : ((I113 97 17) : Int32).toInt = (I98 97 17).toInt := Eq.trans (congrArg Int32.toInt p116.2.2.2.1) rfl
  refine ⟨fun c124 => ?_, fun c124 => ?_⟩
  · skip
    have d125 : ¬ (((I113 97 12).toInt) : Int) = (0) := ci_ne rfl rfl c124
    have e126 : ((I113 97 16) : Int32).toInt = (I98 97 16).toInt := Eq.trans (congrArg Int32.toInt p116.2.2.1) rfl
    have e127 : ((I113 97 14) : Int32).toInt = (I98 97 14).toInt := Eq.trans (congrArg Int32.toInt p116.2.1) rfl
    exact (L 1000000) _ _ hB115 (Eq.trans p116.1 p101.1) f119 (by have q0 : ((I113 97 12) : Int32).toInt = (I113 97 12).toInt := rfl; have q1 : ((I113 97 16) : Int32).toInt = (I98 97 16).toInt := e126; have q2 : ((I113 97 14) : Int32).toInt = (I98 97 14).toInt := e127; omega) (by omega)
  · skip
    have d128 : (((I113 97 12).toInt) : Int) = (0) := ci_eq rfl rfl c124
    refine w_X12_isOf ?_
    refine ⟨fun c129 => ?_, fun c129 => ?_⟩
    · skip
      have d130 : ¬ ((((((I113 97 26) >>> (((I113 97 17) - 1) &&& 31)) &&& 1) : Int32).toInt) : Int) = (1) := ci_ne rfl rfl c129
      refine ⟨Or.inl rfl, ?_⟩
      intro o131
      refine ⟨fun c132 => ?_, fun c132 => ?_⟩
      · skip
        have e133 : ((I113 97 16) : Int32).toInt = (I98 97 16).toInt := Eq.trans (congrArg Int32.toInt p116.2.2.1) rfl
        have e134 : ((I113 97 14) : Int32).toInt = (I98 97 14).toInt := Eq.trans (congrArg Int32.toInt p116.2.1) rfl
        exact (L 1000000) _ _ hB115 (Eq.trans p116.1 p101.1) f119 (by have q0 : ((I113 97 12) : Int32).toInt = (I113 97 12).toInt := rfl; have q1 : ((I113 97 16) : Int32).toInt = (I98 97 16).toInt := e133; have q2 : ((I113 97 14) : Int32).toInt = (I98 97 14).toInt := e134; omega) (by omega)
      · exact absurd c132 (by decide)
    · skip
      have d135 : ((((((I113 97 26) >>> (((I113 97 17) - 1) &&& 31)) &&& 1) : Int32).toInt) : Int) = (1) := ci_eq rfl rfl c129
      refine ⟨Or.inr rfl, ?_⟩
      intro o136
      refine ⟨fun c137 => ?_, fun c137 => ?_⟩
      · exact absurd c137 (by decide)
      · skip
        refine sp_X12_fail hB115 hR0 (by have z : (5 : Int32).toInt = 5 := rfl; omega) (fun x138 y143 I139 J140 hB141 p142 => ?_)
        have f144 : Fr pT I113 I139 := p142.2.2.2.2.1
        have f145 : Fr pR I I139 := Fr.tr f119 f144 (fun _ _ => trivial)
        have q146 : (5 : Int32).toInt = 5 := rfl
        have b147 := Bd.o hB115 io9_112_97_12 bd9_12_15
        have q148 : ((I113 97 15) : Int32).toInt = (I113 97 15).toInt := rfl
        have b149 := Bd.o hB141 io9_112_97_12 bd9_12_12
        have e150 : ((I139 97 16) : Int32).toInt = (I98 97 16).toInt := Eq.trans (congrArg Int32.toInt (Eq.trans p142.2.2.1 p116.2.2.1)) rfl
        have e151 : ((I139 97 14) : Int32).toInt = (I98 97 14).toInt := Eq.trans (congrArg Int32.toInt (Eq.trans p142.2.1 p116.2.1)) rfl
        exact (L 1000000) _ _ hB141 (Eq.trans (Eq.trans p142.1 p116.1) p101.1) f145 (by have q0 : ((I139 97 12) : Int32).toInt = (I139 97 12).toInt := rfl; have q1 : ((I139 97 16) : Int32).toInt = (I98 97 16).toInt := e150; have q2 : ((I139 97 14) : Int32).toInt = (I98 97 14).toInt := e151; omega) (by omega)
