set_option maxHeartbeats 2000000 in
theorem sp_X12_named {d : Nat} {Q : Qt} {v1 : Int32} {I : Im} {J : Jm} {R : Rm} (hB0 : Bd I) (hR0 : RI R) (hv1 : 0 ≤ v1.toInt ∧ v1.toInt ≤ 4) (hQ : ∀ (x : Int32) (y : Int64) (I2 : Im) (J2 : Jm), Bd I2 → (I2 97 12 = I 97 12 ∧ I2 97 27 = I 97 27 ∧ I2 97 14 = I 97 14 ∧ I2 97 16 = I 97 16 ∧ Fr pT I I2 ∧ ((-1 ≤ x.toInt ∧ x.toInt ≤ 5) ∧ NmOk v1 x.toInt (I 102 0).toInt)) → Q x y I2 J2 R) : AM (d + 1) 226 112 [.ref 97, .int v1] I J R Q := by
  have i_v1 := i32 v1
  refine am_X12_named (fun P hc => ?_)
  have L : ∀ n : Nat, (∀ (v2 : Int32) (M : Im) (JM : Jm), Bd M → (M 97 12 = I 97 12) → (M 97 27 = I 97 27) → (M 97 14 = I 97 14) → (M 97 16 = I 97 16) → Fr pT I M → (0 ≤ v1.toInt ∧ v1.toInt ≤ 4 ∧ 0 ≤ v2.toInt ∧ v2.toInt ≤ 6) → 10 - v2.toInt < (n : Int) → P 2 112 [(0, .ref 97), (1, .int v1), (2, .int v2)] [] M JM R) := by
    intro n
    induction n with
    | zero =>
      exact fun v2 M J _ _ _ _ _ _ hi hm => absurd hm (by omega)
    | succ n ih =>
      intro v2 M JM hB hk_97_12 hk_97_27 hk_97_14 hk_97_16 hf hi hm
      have i_v1 := i32 v1
      have i_v2 := i32 v2
      refine sg_X12_named_2 hc _ _ _ _ _ ?_
      have e1 : ((324 * v1) : Int32).toInt = (324) * (v1.toInt) := ti_mul rfl rfl (by omega)
      refine ⟨vp_of (a := (324 * v1.toInt)) e1 (by omega) (by omega), ?_⟩
      refine ⟨fun c2 => ?_, fun c2 => ?_⟩
      · skip
        have b3 := Bd.c hB0 (tn_of (show ((324 * v1) : Int32).toInt = (324 * v1.toInt) from e1) (by omega))
        have e4 : ((M 102 (Int32.toNatClampNeg (324 * v1))) : Int32).toInt = (I 102 (Int32.toNatClampNeg (324 * v1))).toInt := Eq.trans (congrArg Int32.toInt (hf.1 (Int32.toNatClampNeg (324 * v1)) trivial)) rfl
        have d5 : (((I 102 (Int32.toNatClampNeg (324 * v1))).toInt) : Int) ≤ (v2.toInt) := ci_le e4 rfl c2
        exact hQ _ _ _ _ hB ⟨hk_97_12, hk_97_27, hk_97_14, hk_97_16, hf, ⟨by decide, fun _ => by have := Bd.men hB0; have z : (-1 : Int32).toInt = -1 := rfl; omega⟩⟩
      · skip
        have b6 := Bd.c hB0 (tn_of (show ((324 * v1) : Int32).toInt = (324 * v1.toInt) from e1) (by omega))
        have e7 : ((M 102 (Int32.toNatClampNeg (324 * v1))) : Int32).toInt = (I 102 (Int32.toNatClampNeg (324 * v1))).toInt := Eq.trans (congrArg Int32.toInt (hf.1 (Int32.toNatClampNeg (324 * v1)) trivial)) rfl
        have d8 : ((v2.toInt) : Int) < ((I 102 (Int32.toNatClampNeg (324 * v1))).toInt) := ci_nle e7 rfl c2
        have e9 : ((6 * v1) : Int32).toInt = (6) * (v1.toInt) := ti_mul rfl rfl (by omega)
        have e10 : (((6 * v1) + v2) : Int32).toInt = ((6 * v1.toInt)) + (v2.toInt) := ti_add e9 rfl (by omega)
        refine ⟨vp_of (a := ((6 * v1.toInt) + v2.toInt)) e10 (by omega) (by omega), ?_⟩
        refine ⟨fun c11 => ?_, fun c11 => ?_⟩
        · skip
          rw [lg_cmp_eq] at c11
          have d12 : ¬ ((((JM 104 (Int32.toNatClampNeg ((6 * v1) + v2))) : Int64).toInt) : Int) = (((JM 97 19) : Int64).toInt) := cl_ne rfl rfl c11
          have e13 : ((v2 + 1) : Int32).toInt = (v2.toInt) + (1) := ti_add rfl rfl (by omega)
          exact ih _ _ _ hB hk_97_12 hk_97_27 hk_97_14 hk_97_16 hf (by have q0 : ((v2 + 1) : Int32).toInt = (v2.toInt + 1) := e13; omega) (by have q0 : ((v2 + 1) : Int32).toInt = (v2.toInt + 1) := e13; omega)
        · skip
          rw [lg_cmp_eq] at c11
          have d14 : ((((JM 104 (Int32.toNatClampNeg ((6 * v1) + v2))) : Int64).toInt) : Int) = (((JM 97 19) : Int64).toInt) := cl_eq rfl rfl c11
          exact hQ _ _ _ _ hB ⟨hk_97_12, hk_97_27, hk_97_14, hk_97_16, hf, ⟨(by have q0 : (v2 : Int32).toInt = v2.toInt := rfl; omega), fun z => by have h0 : (I 102 (Int32.toNatClampNeg (324 * v1))).toInt = (I 102 0).toInt := (by rw [show v1 = 0 from Int32.toInt_inj.mp z]; rfl); omega⟩⟩
  refine sg_X12_named_0 hc _ _ _ _ ?_
  exact (L 1000000) _ _ _ hB0 rfl rfl rfl rfl (Fr.refl _ _) (by have q0 : (0 : Int32).toInt = 0 := rfl; omega) (by have q0 : (0 : Int32).toInt = 0 := rfl; omega)
set_option maxHeartbeats 2000000 in
theorem sp_X12_readTold {d : Nat} {Q : Qt} {v1 : Int32} {I : Im} {J : Jm} {R : Rm} (hB0 : Bd I) (hR0 : RI R) (hv1 : 0 ≤ v1.toInt ∧ v1.toInt ≤ 4) (hQ : ∀ (x : Int32) (y : Int64) (I2 : Im) (J2 : Jm), Bd I2 → (I2 97 27 = I 97 27 ∧ Fr pT I I2 ∧ (((2 * (901 - (I2 97 16).toInt) + min (I2 97 14).toInt 1) ≤ (2 * (901 - (I 97 16).toInt) + min (I 97 14).toInt 1) ∧ ((I 97 12).toInt = 0 ∨ 1 ≤ (I2 97 12).toInt) ∧ 0 ≤ x.toInt ∧ x.toInt ≤ 5) ∧ TdOk (I2 97 12).toInt v1 x.toInt (I 102 0).toInt)) → Q x y I2 J2 R) : AM (d + 5) 227 112 [.ref 97, .int v1] I J R Q := by
  have i_v1 := i32 v1
  refine am_X12_readTold (fun P hc => ?_)
  have L : ∀ n : Nat, (∀ (M : Im) (JM : Jm), Bd M → (M 97 27 = I 97 27) → Fr pT I M → (0 ≤ v1.toInt ∧ v1.toInt ≤ 4 ∧ ((I 97 12).toInt = 0 ∨ 1 ≤ (M 97 12).toInt) ∧ (2 * (901 - (M 97 16).toInt) + min (M 97 14).toInt 1) ≤ (2 * (901 - (I 97 16).toInt) + min (I 97 14).toInt 1)) → 1 < (n : Int) → P 18 112 [(0, .ref 97), (1, .int v1)] [] M JM R) := by
    intro n
    induction n with
    | zero =>
      exact fun  M J _ _ _ hi hm => absurd hm (by omega)
    | succ n ih =>
      intro  M JM hB hk_97_27 hf hi hm
      have i_v1 := i32 v1
      refine sg_X12_readTold_18 hc _ _ _ _ ?_
      have b1 := Bd.o hB io9_112_97_12 bd9_12_12
      have b2 := Bd.o hB io9_112_97_12 bd9_12_14
      have b3 := Bd.o hB io9_112_97_12 bd9_12_16
      refine ⟨fun c4 => ?_, fun c4 => ?_⟩
      · skip
        have d5 : (((M 97 12).toInt) : Int) ≤ (0) := ci_le rfl rfl c4
        refine sp_X12_named hB hR0 (by have z : (v1 : Int32).toInt = v1.toInt := rfl; omega) (fun x6 y11 I7 J8 hB9 p10 => ?_)
        have f12 : Fr pT M I7 := p10.2.2.2.2.1
        have f13 : Fr pT I I7 := Fr.tr hf f12 (fun _ _ => trivial)
        have b14 := (Bd.c hB0 (j := 0) (z := 0) rfl).1 (by decide)
        have e15 : ((M 102 0) : Int32).toInt = (I 102 0).toInt := Eq.trans (congrArg Int32.toInt (hf.1 0 trivial)) rfl
        have i16 := i32 x6
        refine ⟨fun c17 => ?_, fun c17 => ?_⟩
        · skip
          have d18 : ((0) : Int) ≤ (x6.toInt) := ci_le rfl rfl c17
          refine sp_X12_must hB9 hR0 (fun x19 y24 I20 J21 hB22 p23 => ?_)
          have f25 : Fr pT I7 I20 := p23.2.1
          have f26 : Fr pT I I20 := Fr.tr f13 f25 (fun _ _ => trivial)
          have q27 : (1 : Int32).toInt = 1 := rfl
          have e28 : ((I7 97 12) : Int32).toInt = (M 97 12).toInt := Eq.trans (congrArg Int32.toInt p10.1) rfl
          have e29 : ((I7 97 14) : Int32).toInt = (M 97 14).toInt := Eq.trans (congrArg Int32.toInt p10.2.2.1) rfl
          have e30 : ((I7 97 16) : Int32).toInt = (M 97 16).toInt := Eq.trans (congrArg Int32.toInt p10.2.2.2.1) rfl
          have b31 := Bd.o hB22 io9_112_97_12 bd9_12_12
          have b32 := Bd.o hB22 io9_112_97_12 bd9_12_14
          have b33 := Bd.o hB22 io9_112_97_12 bd9_12_16
          have e34 : ((if (0 : Int32) < x6 then x6 else 0) : Int32).toInt = max (0) (x6.toInt) := ti_max rfl rfl
          have b35 := Bd.o hB0 io9_112_97_12 bd9_12_12
          have b36 := Bd.o hB0 io9_112_97_12 bd9_12_14
          have b37 := Bd.o hB0 io9_112_97_12 bd9_12_16
          exact hQ _ _ _ _ hB22 ⟨(Eq.trans (Eq.trans p23.1 p10.2.1) hk_97_27), f26, ⟨(by have q4 : ((I20 97 12) : Int32).toInt = (I20 97 12).toInt := rfl; have q5 : ((I20 97 14) : Int32).toInt = (I20 97 14).toInt := rfl; have q6 : ((I20 97 16) : Int32).toInt = (I20 97 16).toInt := rfl; have q0 : ((if (0 : Int32) < x6 then x6 else 0) : Int32).toInt = (max (0) (x6.toInt)) := e34; omega), fun hb hv => by have z0 : ((if (0 : Int32) < x6 then x6 else 0) : Int32).toInt = (max (0) (x6.toInt)) := e34; have z1 : ((I20 97 12) : Int32).toInt = (I20 97 12).toInt := rfl; have z2 := p10.2.2.2.2.2.2 hv; have z3 := Bd.men hB0; have z4 : (M 102 0).toInt = (I 102 0).toInt := congrArg Int32.toInt (hf.1 0 trivial); omega⟩⟩
        · skip
          have d38 : ((x6.toInt) : Int) < (0) := ci_nle rfl rfl c17
          refine sp_X12_fail hB9 hR0 (by have z : (3 : Int32).toInt = 3 := rfl; omega) (fun x39 y44 I40 J41 hB42 p43 => ?_)
          have f45 : Fr pT I7 I40 := p43.2.2.2.2.1
          have f46 : Fr pT I I40 := Fr.tr f13 f45 (fun _ _ => trivial)
          have q47 : (3 : Int32).toInt = 3 := rfl
          have b48 := Bd.o hB9 io9_112_97_12 bd9_12_15
          have q49 : ((I7 97 15) : Int32).toInt = (I7 97 15).toInt := rfl
          have b50 := Bd.o hB42 io9_112_97_12 bd9_12_12
          refine sp_X12_must hB42 hR0 (fun x51 y56 I52 J53 hB54 p55 => ?_)
          have f57 : Fr pT I40 I52 := p55.2.1
          have f58 : Fr pT I I52 := Fr.tr f46 f57 (fun _ _ => trivial)
          have q59 : (1 : Int32).toInt = 1 := rfl
          have e60 : ((I40 97 14) : Int32).toInt = (M 97 14).toInt := Eq.trans (congrArg Int32.toInt (Eq.trans p43.2.1 p10.2.2.1)) rfl
          have e61 : ((I40 97 16) : Int32).toInt = (M 97 16).toInt := Eq.trans (congrArg Int32.toInt (Eq.trans p43.2.2.1 p10.2.2.2.1)) rfl
          have b62 := Bd.o hB54 io9_112_97_12 bd9_12_12
          have b63 := Bd.o hB54 io9_112_97_12 bd9_12_14
          have b64 := Bd.o hB54 io9_112_97_12 bd9_12_16
          have e65 : ((if (0 : Int32) < x6 then x6 else 0) : Int32).toInt = max (0) (x6.toInt) := ti_max rfl rfl
          have b66 := Bd.o hB0 io9_112_97_12 bd9_12_12
          have b67 := Bd.o hB0 io9_112_97_12 bd9_12_14
          have b68 := Bd.o hB0 io9_112_97_12 bd9_12_16
          exact hQ _ _ _ _ hB54 ⟨(Eq.trans (Eq.trans (Eq.trans p55.1 p43.1) p10.2.1) hk_97_27), f58, ⟨(by have q4 : ((I52 97 12) : Int32).toInt = (I52 97 12).toInt := rfl; have q5 : ((I52 97 14) : Int32).toInt = (I52 97 14).toInt := rfl; have q6 : ((I52 97 16) : Int32).toInt = (I52 97 16).toInt := rfl; have q0 : ((if (0 : Int32) < x6 then x6 else 0) : Int32).toInt = (max (0) (x6.toInt)) := e65; omega), fun hb hv => by have z0 : ((if (0 : Int32) < x6 then x6 else 0) : Int32).toInt = (max (0) (x6.toInt)) := e65; have z1 : ((I52 97 12) : Int32).toInt = (I52 97 12).toInt := rfl; have z2 := p10.2.2.2.2.2.2 hv; have z3 := Bd.men hB0; have z4 : (M 102 0).toInt = (I 102 0).toInt := congrArg Int32.toInt (hf.1 0 trivial); omega⟩⟩
      · skip
        have d69 : ((0) : Int) < ((M 97 12).toInt) := ci_nle rfl rfl c4
        have b70 := Bd.o hB0 io9_112_97_12 bd9_12_12
        have b71 := Bd.o hB0 io9_112_97_12 bd9_12_14
        have b72 := Bd.o hB0 io9_112_97_12 bd9_12_16
        exact hQ _ _ _ _ hB ⟨hk_97_27, hf, ⟨(by have q4 : ((M 97 12) : Int32).toInt = (M 97 12).toInt := rfl; have q5 : ((M 97 14) : Int32).toInt = (M 97 14).toInt := rfl; have q6 : ((M 97 16) : Int32).toInt = (M 97 16).toInt := rfl; have q0 : (0 : Int32).toInt = 0 := rfl; omega), fun hb _ => by exfalso; have z1 : ((M 97 12) : Int32).toInt = (M 97 12).toInt := rfl; omega⟩⟩
  refine sg_X12_readTold_0 hc _ _ _ _ ?_
  refine ⟨fun c73 => ?_, fun c73 => ?_⟩
  · skip
    have b74 := Bd.o hB0 io9_112_97_12 bd9_12_12
    have d75 : ¬ (((I 97 12).toInt) : Int) = (0) := ci_ne rfl rfl c73
    have b76 := Bd.o hB0 io9_112_97_12 bd9_12_16
    have b77 := Bd.o hB0 io9_112_97_12 bd9_12_14
    exact (L 1000000) _ _ hB0 rfl (Fr.refl _ _) (by have q0 : ((I 97 12) : Int32).toInt = (I 97 12).toInt := rfl; have q1 : ((I 97 16) : Int32).toInt = (I 97 16).toInt := rfl; have q2 : ((I 97 14) : Int32).toInt = (I 97 14).toInt := rfl; omega) (by omega)
  · skip
    have b78 := Bd.o hB0 io9_112_97_12 bd9_12_12
    have d79 : (((I 97 12).toInt) : Int) = (0) := ci_eq rfl rfl c73
    refine sp_X12_isName hB0 hR0 (fun x80 y85 I81 J82 hB83 p84 => ?_)
    intro o86
    have f87 : Fr pT I I81 := p84.2.2.2.2
    have f88 : Fr pT I I81 := Fr.tr (Fr.refl _ _) f87 (fun _ _ => trivial)
    have i89 := i32 x80
    refine ⟨fun c90 => ?_, fun c90 => ?_⟩
    · skip
      have d91 : ¬ ((x80.toInt) : Int) = (0) := ci_ne rfl rfl c90
      have e92 : ((I81 97 12) : Int32).toInt = (I 97 12).toInt := Eq.trans (congrArg Int32.toInt p84.1) rfl
      have b93 := Bd.o hB0 io9_112_97_12 bd9_12_16
      have e94 : ((I81 97 16) : Int32).toInt = (I 97 16).toInt := Eq.trans (congrArg Int32.toInt p84.2.2.2.1) rfl
      have b95 := Bd.o hB0 io9_112_97_12 bd9_12_14
      have e96 : ((I81 97 14) : Int32).toInt = (I 97 14).toInt := Eq.trans (congrArg Int32.toInt p84.2.2.1) rfl
      exact (L 1000000) _ _ hB83 p84.2.1 f88 (by have q0 : ((I81 97 12) : Int32).toInt = (I 97 12).toInt := e92; have q1 : ((I81 97 16) : Int32).toInt = (I 97 16).toInt := e94; have q2 : ((I81 97 14) : Int32).toInt = (I 97 14).toInt := e96; omega) (by omega)
    · skip
      have d97 : ((x80.toInt) : Int) = (0) := ci_eq rfl rfl c90
      refine sp_X12_amiss hB83 hR0 (fun x98 y103 I99 J100 hB101 p102 => ?_)
      have f104 : Fr pT I81 I99 := p102.2.2.2.2.1
      have f105 : Fr pT I I99 := Fr.tr f88 f104 (fun _ _ => trivial)
      have b106 := Bd.o hB101 io9_112_97_12 bd9_12_12
      have b107 := Bd.o hB0 io9_112_97_12 bd9_12_16
      have e108 : ((I99 97 16) : Int32).toInt = (I 97 16).toInt := Eq.trans (congrArg Int32.toInt (Eq.trans p102.2.2.1 p84.2.2.2.1)) rfl
      have b109 := Bd.o hB0 io9_112_97_12 bd9_12_14
      have e110 : ((I99 97 14) : Int32).toInt = (I 97 14).toInt := Eq.trans (congrArg Int32.toInt (Eq.trans p102.2.1 p84.2.2.1)) rfl
      exact (L 1000000) _ _ hB101 (Eq.trans p102.1 p84.2.1) f105 (by have q0 : ((I99 97 12) : Int32).toInt = (I99 97 12).toInt := rfl; have q1 : ((I99 97 16) : Int32).toInt = (I 97 16).toInt := e108; have q2 : ((I99 97 14) : Int32).toInt = (I 97 14).toInt := e110; omega) (by omega)
