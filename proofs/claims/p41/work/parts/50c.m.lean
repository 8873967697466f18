set_option maxHeartbeats 2000000 in
theorem sp_X12_named {d : Nat} {Q : Qt} {v1 : Int32} {I : Im} {J : Jm} {R : Rm} (hB0 : Bd I) (hR0 : RI R) (hv1 : 0 ≤ v1.toInt ∧ v1.toInt ≤ 4) (hQ : ∀ (x : Int32) (y : Int64) (I2 : Im) (J2 : Jm), Bd I2 → (I2 97 12 = I 97 12 ∧ I2 97 27 = I 97 27 ∧ I2 97 14 = I 97 14 ∧ I2 97 16 = I 97 16 ∧ Fr pT I I2 ∧ ((-1 ≤ x.toInt ∧ x.toInt ≤ 5) ∧ NmOk v1 x.toInt (I 102 0).toInt)) → Q x y I2 J2 R) : AM (d + 1) 226 112 [.ref 97, .int v1] I J R Q := by
  have i_v1 := i32 v1
  refine am_X12_named (fun P hc => ?_)
  have L : ∀ n : Nat, (∀ (v2 : Int32) (M : Im) (JM : Jm), Bd M → (M 97 12 = I 97 12) → (M 97 27 = I 97 27) → (M 97 14 = I 97 14) → (M 97 16 = I 97 16) → Fr pT I M → (0 ≤ v1.toInt ∧ v1.toInt ≤ 4 ∧ 0 ≤ v2.toInt ∧ v2.toInt ≤ 6) → 10 - v2.toInt < (n : Int) → P 2 112 [(0, .ref 97), (1, .int v1), (2, .int v2)] [] M JM R) := by
    intro n
    induction n with
    | zero =>
      exact fun v2 M J _ _ _ _ _ _ hi hm => absurd hm (by omega)
    | succ n ih =>
      intro v2 M JM hB hk_97_12 hk_97_27 hk_97_14 hk_97_16 hf hi hm
      have i_v1 := i32 v1
      have i_v2 := i32 v2
      refine sg_X12_named_2 hc _ _ _ _ _ ?_
      have e1 : ((324 * v1) : Int32).toInt = (324) * (v1.toInt) := ti_mul rfl rfl (by omega)
      refine ⟨vp_of (a := (324 * v1.toInt)) e1 (by omega) (by omega), ?_⟩
      refine ⟨fun c2 => ?_, fun c2 => ?_⟩
      · skip
        have b3 := Bd.c hB0 (tn_of (show ((324 * v1) : Int32).toInt = (324 * v1.toInt) from e1) (by omega))
        have e4 : ((M 102 (Int32.toNatClampNeg (324 * v1))) : Int32).toInt = (I 102 (Int32.toNatClampNeg (324 * v1))).toInt := Eq.trans (congrArg Int32.toInt (hf.1 (Int32.toNatClampNeg (324 * v1)) trivial)) rfl
        have d5 : (((I 102 (Int32.toNatClampNeg (324 * v1))).toInt) : Int) ≤ (v2.toInt) := ci_le e4 rfl c2
        exact hQ _ _ _ _ hB ⟨hk_97_12, hk_97_27, hk_97_14, hk_97_16, hf, ⟨by decide, fun _ => by have := Bd.men hB0; have z : (-1 : Int32).toInt = -1 := rfl; omega⟩⟩
      · skip
        have b6 := Bd.c hB0 (tn_of (show ((324 * v1) : Int32).toInt = (324 * v1.toInt) from e1) (by omega))
        have e7 : ((M 102 (Int32.toNatClampNeg (324 * v1))) : Int32).toInt = (I 102 (Int32.toNatClampNeg (324 * v1))).toInt := Eq.trans (congrArg Int32.toInt (hf.1 (Int32.toNatClampNeg (324 * v1)) trivial)) rfl
        have d8 : ((v2.toInt) : Int) < ((I 102 (Int32.toNatClampNeg (324 * v1))).toInt) := ci_nle e7 rfl c2
        have e9 : ((6 * v1) : Int32).toInt = (6) * (v1.toInt) := ti_mul rfl rfl (by omega)
        have e10 : (((6 * v1) + v2) : Int32).toInt = ((6 * v1.toInt)) + (v2.toInt) := ti_add e9 rfl (by omega)
        refine ⟨vp_of (a := ((6 * v1.toInt) + v2.toInt)) e10 (by omega) (by omega), ?_⟩
        refine ⟨fun c11 => ?_, fun c11 => ?_⟩
        · skip
          rw [lg_cmp_eq] at c11
          have d12 : ¬ ((((JM 104 (Int32.toNatClampNeg ((6 * v1) + v2))) : Int64).toInt) : Int) = (((JM 97 19) : Int64).toInt) := cl_ne rfl rfl c11
          have e13 : ((v2 + 1) : Int32).toInt = (v2.toInt) + (1) := ti_add rfl rfl (by first | (clear e1 b6 e7 e9; omega) | omega)
          exact ih _ _ _ hB hk_97_12 hk_97_27 hk_97_14 hk_97_16 hf (by have q0 : ((v2 + 1) : Int32).toInt = (v2.toInt + 1) := e13; omega) (by have q0 : ((v2 + 1) : Int32).toInt = (v2.toInt + 1) := e13; omega)
        · skip
          rw [lg_cmp_eq] at c11
          have d14 : ((((JM 104 (Int32.toNatClampNeg ((6 * v1) + v2))) : Int64).toInt) : Int) = (((JM 97 19) : Int64).toInt) := cl_eq rfl rfl c11
          exact hQ _ _ _ _ hB ⟨hk_97_12, hk_97_27, hk_97_14, hk_97_16, hf, ⟨(by have q0 : (v2 : Int32).toInt = v2.toInt := rfl; omega), fun z => by have h0 : (I 102 (Int32.toNatClampNeg (324 * v1))).toInt = (I 102 0).toInt := (by rw [show v1 = 0 from Int32.toInt_inj.mp z]; rfl); omega⟩⟩
  refine sg_X12_named_0 hc _ _ _ _ ?_
  exact (L 1000000) _ _ _ hB0 rfl rfl rfl rfl (Fr.refl _ _) (by have q0 : (0 : Int32).toInt = 0 := rfl; omega) (by have q0 : (0 : Int32).toInt = 0 := rfl; omega)
set_option maxHeartbeats 2000000 in
theorem sp_X12_readTold {d : Nat} {Q : Qt} {v1 : Int32} {I : Im} {J : Jm} {R : Rm} (hB0 : Bd I) (hR0 : RI R) (hv1 : 0 ≤ v1.toInt ∧ v1.toInt ≤ 4) (hQ : ∀ (x : Int32) (y : Int64) (I2 : Im) (J2 : Jm), Bd I2 → (I2 97 27 = I 97 27 ∧ Fr pT I I2 ∧ (((2 * (901 - (I2 97 16).toInt) + min (I2 97 14).toInt 1) ≤ (2 * (901 - (I 97 16).toInt) + min (I 97 14).toInt 1) ∧ ((I 97 12).toInt = 0 ∨ 1 ≤ (I2 97 12).toInt) ∧ 0 ≤ x.toInt ∧ x.toInt ≤ 5) ∧ TdOk (I2 97 12).toInt v1 x.toInt (I 102 0).toInt)) → Q x y I2 J2 R) : AM (d + 5) 227 112 [.ref 97, .int v1] I J R Q := by
  have i_v1 := i32 v1
  refine am_X12_readTold (fun P hc => ?_)
  have L : ∀ n : Nat, (∀ (M : Im) (JM : Jm), Bd M → (M 97 27 = I 97 27) → Fr pT I M → (0 ≤ v1.toInt ∧ v1.toInt ≤ 4 ∧ ((I 97 12).toInt = 0 ∨ 1 ≤ (M 97 12).toInt) ∧ (2 * (901 - (M 97 16).toInt) + min (M 97 14).toInt 1) ≤ (2 * (901 - (I 97 16).toInt) + min (I 97 14).toInt 1)) → 1 < (n : Int) → P 18 112 [(0, .ref 97), (1, .int v1)] [] M JM R) := by
    intro n
    induction n with
    | zero =>
      exact fun  M J _ _ _ hi hm => absurd hm (by omega)
    | succ n ih =>
      intro  M JM hB hk_97_27 hf hi hm
      have i_v1 := i32 v1
      refine sg_X12_readTold_18 hc _ _ _ _ ?_
      have b1 := Bd.o hB io9_112_97_12 bd9_12_12
      have b2 := Bd.o hB io9_112_97_12 bd9_12_14
      have b3 := Bd.o hB io9_112_97_12 bd9_12_16
      refine ⟨fun c4 => ?_, fun c4 => ?_⟩
      · skip
        have d5 : (((M 97 12).toInt) : Int) ≤ (0) := ci_le rfl rfl c4
        refine sp_X12_named hB hR0 (by have z : (v1 : Int32).toInt = v1.toInt := rfl; omega) (fun x6 y11 I7 J8 hB9 p10 => ?_)
        have f12 : Fr pT M I7 := p10.2.2.2.2.1
        have f13 : Fr pT I I7 := Fr.tr hf f12 (fun _ _ => trivial)
        have b14 := (Bd.c hB0 (j := 0) (z := 0) rfl).1 (by decide)
        have e15 : ((M 102 0) : Int32).toInt = (I 102 0).toInt := Eq.trans (congrArg Int32.toInt (hf.1 0 trivial)) rfl
        have i16 := i32 x6
        refine ⟨fun c17 => ?_, fun c17 => ?_⟩
        · skip
          have d18 : ((0) : Int) ≤ (x6.toInt) := ci_le rfl rfl c17
          refine sp_X12_must hB9 hR0 (fun x19 y24 I20 J21 hB22 p23 => ?_)
          have f25 : Fr pT I7 I20 := p23.2.1
          have f26 : Fr pT I I20 := Fr.tr f13 f25 (fun _ _ => trivial)
          have q27 : (1 : Int32).toInt = 1 := rfl
          have e28 : ((I7 97 12) : Int32).toInt = (M 97 12).toInt := Eq.trans (congrArg Int32.toInt p10.1) rfl
          have e29 : ((I7 97 14) : Int32).toInt = (M 97 14).toInt := Eq.trans (congrArg Int32.toInt p10.2.2.1) rfl
          have e30 : ((I7 97 16) : Int32).toInt = (M 97 16).toInt := Eq.trans (congrArg Int32.toInt p10.2.2.2.1) rfl
          have b31 := Bd.o hB22 io9_112_97_12 bd9_12_12
          have b32 := Bd.o hB22 io9_112_97_12 bd9_12_14
          have b33 := Bd.o hB22 io9_112_97_12 bd9_12_16
          have e34 : ((if (0 : Int32) < x6 then x6 else 0) : Int32).toInt = max (0) (x6.toInt) := ti_max rfl rfl
          have b35 := Bd.o hB0 io9_112_97_12 bd9_12_12
          have b36 := Bd.o hB0 io9_112_97_12 bd9_12_14
          have b37 := Bd.o hB0 io9_112_97_12 bd9_12_16
          exact hQ _ _ _ _ hB22 ⟨(Eq.trans (Eq.trans p23.1 p10.2.1) hk_97_27), f26, ⟨(by have q4 : ((I20 97 12) : Int32).toInt = (I20 97 12).toInt := rfl; have q5 : ((I20 97 14) : Int32).toInt = (I20 97 14).toInt := rfl; have q6 : ((I20 97 16) : Int32).toInt = (I20 97 16).toInt := rfl; have q0 : ((if (0 : Int32) < x6 then x6 else 0) : Int32).toInt = (max (0) (x6.toInt)) := e34; omega), fun hb hv => by have z0 : ((if (0 : Int32) < x6 then x6 else 0) : Int32).toInt = (max (0) (x6.toInt)) := e34; have z1 : ((I20 97 12) : Int32).toInt = (I20 97 12).toInt := rfl; have z2 := p10.2.2.2.2.2.2 hv; have z3 := Bd.men hB0; have z4 : (M 102 0).toInt = (I 102 0).toInt := congrArg Int32.toInt (hf.1 0 trivial); omega⟩⟩
        · skip
          have d38 : ((x6.toInt) : Int) < (0) := ci_nle rfl rfl c17
          refine sp_X12_fail hB9 hR0 (by have z : (3 : Int32).toInt = 3 := rfl; omega) (fun x39 y44 I40 J41 hB42 p43 => ?_)
          have f45 : Fr pT I7 I40 := p43.2.2.2.2.1
          have f46 : Fr pT I I40 := Fr.tr f13 f45 (fun _ _ => trivial)
          have q47 : (3 : Int32).toInt = 3 := rfl
          have b48 := Bd.o hB9 io9_112_97_12 bd9_12_15
          have q49 : ((I7 97 15) : Int32).toInt = (I7 97 15).toInt := rfl
          have b50 := Bd.o hB42 io9_112_97_12 bd9_12_12
          refine sp_X12_must hB42 hR0 (fun x51 y56 I52 J53 hB54 p55 => ?_)
          have f57 : Fr pT I40 I52 := p55.2.1
          have f58 : Fr pT I I52 := Fr.tr f46 f57 (fun _ _ => trivial)
          have q59 : (1 : Int32).toInt = 1 := rfl
          have e60 : ((I40 97 14) : Int32).toInt = (M 97 14).toInt := Eq.trans (congrArg Int32.toInt (Eq.trans p43.2.1 p10.2.2.1)) rfl
          have e61 : ((I40 97 16) : Int32).toInt = (M 97 16).toInt := Eq.trans (congrArg Int32.toInt (Eq.trans p43.2.2.1 p10.2.2.2.1)) rfl
          have b62 := Bd.o hB54 io9_112_97_12 bd9_12_12
          have b63 := Bd.o hB54 io9_112_97_12 bd9_12_14
          have b64 := Bd.o hB54 io9_112_97_12 bd9_12_16
          have e65 : ((if (0 : Int32) < x6 then x6 else 0) : Int32).toInt = max (0) (x6.toInt) := ti_max rfl rfl
          have b66 := Bd.o hB0 io9_112_97_12 bd9_12_12
          have b67 := Bd.o hB0 io9_112_97_12 bd9_12_14
          have b68 := Bd.o hB0 io9_112_97_12 bd9_12_16
          exact hQ _ _ _ _ hB54 ⟨(Eq.trans (Eq.trans (Eq.trans p55.1 p43.1) p10.2.1) hk_97_27), f58, ⟨(by have q4 : ((I52 97 12) : Int32).toInt = (I52 97 12).toInt := rfl; have q5 : ((I52 97 14) : Int32).toInt = (I52 97 14).toInt := rfl; have q6 : ((I52 97 16) : Int32).toInt = (I52 97 16).toInt := rfl; have q0 : ((if (0 : Int32) < x6 then x6 else 0) : Int32).toInt = (max (0) (x6.toInt)) := e65; omega), fun hb hv => by have z0 : ((if (0 : Int32) < x6 then x6 else 0) : Int32).toInt = (max (0) (x6.toInt)) := e65; have z1 : ((I52 97 12) : Int32).toInt = (I52 97 12).toInt := rfl; have z2 := p10.2.2.2.2.2.2 hv; have z3 := Bd.men hB0; have z4 : (M 102 0).toInt = (I 102 0).toInt := congrArg Int32.toInt (hf.1 0 trivial); omega⟩⟩
      · skip
        have d69 : ((0) : Int) < ((M 97 12).toInt) := ci_nle rfl rfl c4
        have b70 := Bd.o hB0 io9_112_97_12 bd9_12_12
        have b71 := Bd.o hB0 io9_112_97_12 bd9_12_14
        have b72 := Bd.o hB0 io9_112_97_12 bd9_12_16
        exact hQ _ _ _ _ hB ⟨hk_97_27, hf, ⟨(by have q4 : ((M 97 12) : Int32).toInt = (M 97 12).toInt := rfl; have q5 : ((M 97 14) : Int32).toInt = (M 97 14).toInt := rfl; have q6 : ((M 97 16) : Int32).toInt = (M 97 16).toInt := rfl; have q0 : (0 : Int32).toInt = 0 := rfl; omega), fun hb _ => by exfalso; have z1 : ((M 97 12) : Int32).toInt = (M 97 12).toInt := rfl; omega⟩⟩
  refine sg_X12_readTold_0 hc _ _ _ _ ?_
  refine ⟨fun c73 => ?_, fun c73 => ?_⟩
  · skip
    have b74 := Bd.o hB0 io9_112_97_12 bd9_12_12
    have d75 : ¬ (((I 97 12).toInt) : Int) = (0) := ci_ne rfl rfl c73
    have b76 := Bd.o hB0 io9_112_97_12 bd9_12_16
    have b77 := Bd.o hB0 io9_112_97_12 bd9_12_14
    exact (L 1000000) _ _ hB0 rfl (Fr.refl _ _) (by have q0 : ((I 97 12) : Int32).toInt = (I 97 12).toInt := rfl; have q1 : ((I 97 16) : Int32).toInt = (I 97 16).toInt := rfl; have q2 : ((I 97 14) : Int32).toInt = (I 97 14).toInt := rfl; omega) (by omega)
  · skip
    have b78 := Bd.o hB0 io9_112_97_12 bd9_12_12
    have d79 : (((I 97 12).toInt) : Int) = (0) := ci_eq rfl rfl c73
    refine sp_X12_isName hB0 hR0 (fun x80 y85 I81 J82 hB83 p84 => ?_)
    intro o86
    have f87 : Fr pT I I81 := p84.2.2.2.2
    have f88 : Fr pT I I81 := Fr.tr (Fr.refl _ _) f87 (fun _ _ => trivial)
    have i89 := i32 x80
    refine ⟨fun c90 => ?_, fun c90 => ?_⟩
    · skip
      have d91 : ¬ ((x80.toInt) : Int) = (0) := ci_ne rfl rfl c90
      have e92 : ((I81 97 12) : Int32).toInt = (I 97 12).toInt := Eq.trans (congrArg Int32.toInt p84.1) rfl
      have b93 := Bd.o hB0 io9_112_97_12 bd9_12_16
      have e94 : ((I81 97 16) : Int32).toInt = (I 97 16).toInt := Eq.trans (congrArg Int32.toInt p84.2.2.2.1) rfl
      have b95 := Bd.o hB0 io9_112_97_12 bd9_12_14
      have e96 : ((I81 97 14) : Int32).toInt = (I 97 14).toInt := Eq.trans (congrArg Int32.toInt p84.2.2.1) rfl
      exact (L 1000000) _ _ hB83 p84.2.1 f88 (by have q0 : ((I81 97 12) : Int32).toInt = (I 97 12).toInt := e92; have q1 : ((I81 97 16) : Int32).toInt = (I 97 16).toInt := e94; have q2 : ((I81 97 14) : Int32).toInt = (I 97 14).toInt := e96; omega) (by omega)
    · skip
      have d97 : ((x80.toInt) : Int) = (0) := ci_eq rfl rfl c90
      refine sp_X12_amiss hB83 hR0 (fun x98 y103 I99 J100 hB101 p102 => ?_)
      have f104 : Fr pT I81 I99 := p102.2.2.2.2.1
      have f105 : Fr pT I I99 := Fr.tr f88 f104 (fun _ _ => trivial)
      have b106 := Bd.o hB101 io9_112_97_12 bd9_12_12
      have b107 := Bd.o hB0 io9_112_97_12 bd9_12_16
      have e108 : ((I99 97 16) : Int32).toInt = (I 97 16).toInt := Eq.trans (congrArg Int32.toInt (Eq.trans p102.2.2.1 p84.2.2.2.1)) rfl
      have b109 := Bd.o hB0 io9_112_97_12 bd9_12_14
      have e110 : ((I99 97 14) : Int32).toInt = (I 97 14).toInt := Eq.trans (congrArg Int32.toInt (Eq.trans p102.2.1 p84.2.2.1)) rfl
      exact (L 1000000) _ _ hB101 (Eq.trans p102.1 p84.2.1) f105 (by have q0 : ((I99 97 12) : Int32).toInt = (I99 97 12).toInt := rfl; have q1 : ((I99 97 16) : Int32).toInt = (I 97 16).toInt := e108; have q2 : ((I99 97 14) : Int32).toInt = (I 97 14).toInt := e110; omega) (by omega)
set_option maxHeartbeats 2000000 in
theorem sp_X12_readSlices {d : Nat} {Q : Qt} {I : Im} {J : Jm} {R : Rm} (hB0 : Bd I) (hR0 : RI R) (hQ : ∀ (x : Int32) (y : Int64) (I2 : Im) (J2 : Jm), Bd I2 → (I2 97 27 = I 97 27 ∧ Fr pT I I2 ∧ ((2 * (901 - (I2 97 16).toInt) + min (I2 97 14).toInt 1) ≤ (2 * (901 - (I 97 16).toInt) + min (I 97 14).toInt 1) ∧ ((I 97 12).toInt = 0 ∨ 1 ≤ (I2 97 12).toInt) ∧ 0 ≤ x.toInt)) → Q x y I2 J2 R) : AM (d + 5) 219 112 [.ref 97] I J R Q := by
  refine am_X12_readSlices (fun P hc => ?_)
  have L : ∀ n : Nat, (∀ (v1 : Int32) (M : Im) (JM : Jm), Bd M → (M 97 27 = I 97 27) → Fr pT I M → (0 ≤ v1.toInt ∧ (M 97 16).toInt ≤ 900 ∧ 0 ≤ (M 97 14).toInt ∧ ((I 97 12).toInt = 0 ∨ 1 ≤ (M 97 12).toInt) ∧ (2 * (901 - (M 97 16).toInt) + min (M 97 14).toInt 1) ≤ (2 * (901 - (I 97 16).toInt) + min (I 97 14).toInt 1)) → 10 * (2 * (901 - (M 97 16).toInt) + min (M 97 14).toInt 1) + (5 - 5 * min (M 97 12).toInt 1) < (n : Int) → P 2 112 [(0, .ref 97), (1, .int v1)] [] M JM R) ∧ (∀ (v1 : Int32) (M : Im) (JM : Jm), Bd M → (M 97 27 = I 97 27) → Fr pT I M → (0 ≤ v1.toInt ∧ (M 97 16).toInt ≤ 900 ∧ 1 ≤ (M 97 14).toInt ∧ ((I 97 12).toInt = 0 ∨ 1 ≤ (M 97 12).toInt) ∧ (2 * (901 - (M 97 16).toInt) + min (M 97 14).toInt 1) ≤ (2 * (901 - (I 97 16).toInt) + min (I 97 14).toInt 1)) → 10 * (2 * (901 - (M 97 16).toInt) + min (M 97 14).toInt 1) + 3 < (n : Int) → P 53 112 [(0, .ref 97), (1, .int v1)] [] M JM R) := by
    intro n
    induction n with
    | zero =>
      exact ⟨fun v1 M J _ _ _ hi hm => absurd hm (by omega), fun v1 M J _ _ _ hi hm => absurd hm (by omega)⟩
    | succ n ih =>
      refine ⟨?_, ?_⟩
      · skip
        intro v1 M JM hB hk_97_27 hf hi hm
        have i_v1 := i32 v1
        refine sg_X12_readSlices_2 hc _ _ _ _ ?_
        have b1 := Bd.o hB io9_112_97_12 bd9_12_12
        have b2 := Bd.o hB io9_112_97_12 bd9_12_14
        have b3 := Bd.o hB io9_112_97_12 bd9_12_16
        refine ⟨fun c4 => ?_, fun c4 => ?_⟩
        · skip
          have d5 : ¬ (((M 97 12).toInt) : Int) = (0) := ci_ne rfl rfl c4
          have b6 := Bd.o hB0 io9_112_97_12 bd9_12_12
          have b7 := Bd.o hB0 io9_112_97_12 bd9_12_14
          have b8 := Bd.o hB0 io9_112_97_12 bd9_12_16
          exact hQ _ _ _ _ hB ⟨hk_97_27, hf, (by have q4 : ((M 97 12) : Int32).toInt = (M 97 12).toInt := rfl; have q5 : ((M 97 14) : Int32).toInt = (M 97 14).toInt := rfl; have q6 : ((M 97 16) : Int32).toInt = (M 97 16).toInt := rfl; have q0 : (v1 : Int32).toInt = v1.toInt := rfl; omega)⟩
        · skip
          have d9 : (((M 97 12).toInt) : Int) = (0) := ci_eq rfl rfl c4
          refine ⟨fun c10 => ?_, fun c10 => ?_⟩
          · skip
            have d11 : ¬ (((M 97 14).toInt) : Int) = (2) := ci_ne rfl rfl c10
            have b12 := Bd.o hB0 io9_112_97_12 bd9_12_12
            have b13 := Bd.o hB0 io9_112_97_12 bd9_12_14
            have b14 := Bd.o hB0 io9_112_97_12 bd9_12_16
            exact hQ _ _ _ _ hB ⟨hk_97_27, hf, (by have q4 : ((M 97 12) : Int32).toInt = (M 97 12).toInt := rfl; have q5 : ((M 97 14) : Int32).toInt = (M 97 14).toInt := rfl; have q6 : ((M 97 16) : Int32).toInt = (M 97 16).toInt := rfl; have q0 : (v1 : Int32).toInt = v1.toInt := rfl; omega)⟩
          · skip
            have d15 : (((M 97 14).toInt) : Int) = (2) := ci_eq rfl rfl c10
            refine sp_X12_mayBe hB hR0 (fun x16 y21 I17 J18 hB19 p20 => ?_)
            have f22 : Fr pT M I17 := p20.2.2.2.2.1
            have f23 : Fr pT I I17 := Fr.tr hf f22 (fun _ _ => trivial)
            have q24 : (1 : Int32).toInt = 1 := rfl
            have q25 : (30 : Int32).toInt = 30 := rfl
            have b26 := Bd.o hB19 io9_112_97_12 bd9_12_12
            have e27 : ((I17 97 17) : Int32).toInt = (M 97 17).toInt := Eq.trans (congrArg Int32.toInt p20.2.2.2.1) rfl
            refine ⟨fun c28 => ?_, fun c28 => ?_⟩
            · skip
              have d29 : ¬ (((I17 97 12).toInt) : Int) = (0) := ci_ne rfl rfl c28
              have e30 : ((I17 97 16) : Int32).toInt = (M 97 16).toInt := Eq.trans (congrArg Int32.toInt p20.2.2.1) rfl
              have e31 : ((I17 97 14) : Int32).toInt = (M 97 14).toInt := Eq.trans (congrArg Int32.toInt p20.2.1) rfl
              exact ih.2 _ _ _ hB19 (Eq.trans p20.1 hk_97_27) f23 (by have q0 : (v1 : Int32).toInt = v1.toInt := rfl; have q1 : ((I17 97 16) : Int32).toInt = (M 97 16).toInt := e30; have q2 : ((I17 97 14) : Int32).toInt = (M 97 14).toInt := e31; have q3 : ((I17 97 12) : Int32).toInt = (I17 97 12).toInt := rfl; have q4 : ((I17 97 16) : Int32).toInt = (M 97 16).toInt := e30; have q5 : ((I17 97 14) : Int32).toInt = (M 97 14).toInt := e31; omega) (by have q0 : ((I17 97 16) : Int32).toInt = (M 97 16).toInt := e30; have q1 : ((I17 97 14) : Int32).toInt = (M 97 14).toInt := e31; omega)
            · skip
              have d32 : (((I17 97 12).toInt) : Int) = (0) := ci_eq rfl rfl c28
              refine w_X12_isOf ?_
              refine ⟨fun c33 => ?_, fun c33 => ?_⟩
              · skip
                have d34 : ¬ (((((v1 >>> (((I17 97 17) - 1) &&& 31)) &&& 1) : Int32).toInt) : Int) = (1) := ci_ne rfl rfl c33
                refine ⟨Or.inl rfl, ?_⟩
                intro o35
                refine ⟨fun c36 => ?_, fun c36 => ?_⟩
                · skip
                  have e37 : ((I17 97 16) : Int32).toInt = (M 97 16).toInt := Eq.trans (congrArg Int32.toInt p20.2.2.1) rfl
                  have e38 : ((I17 97 14) : Int32).toInt = (M 97 14).toInt := Eq.trans (congrArg Int32.toInt p20.2.1) rfl
                  exact ih.2 _ _ _ hB19 (Eq.trans p20.1 hk_97_27) f23 (by have q0 : (v1 : Int32).toInt = v1.toInt := rfl; have q1 : ((I17 97 16) : Int32).toInt = (M 97 16).toInt := e37; have q2 : ((I17 97 14) : Int32).toInt = (M 97 14).toInt := e38; have q3 : ((I17 97 12) : Int32).toInt = (I17 97 12).toInt := rfl; have q4 : ((I17 97 16) : Int32).toInt = (M 97 16).toInt := e37; have q5 : ((I17 97 14) : Int32).toInt = (M 97 14).toInt := e38; omega) (by have q0 : ((I17 97 16) : Int32).toInt = (M 97 16).toInt := e37; have q1 : ((I17 97 14) : Int32).toInt = (M 97 14).toInt := e38; omega)
                · exact absurd c36 (by decide)
              · skip
                have d39 : (((((v1 >>> (((I17 97 17) - 1) &&& 31)) &&& 1) : Int32).toInt) : Int) = (1) := ci_eq rfl rfl c33
                refine ⟨Or.inr rfl, ?_⟩
                intro o40
                refine ⟨fun c41 => ?_, fun c41 => ?_⟩
                · exact absurd c41 (by decide)
                · skip
                  refine sp_X12_fail hB19 hR0 (by have z : (5 : Int32).toInt = 5 := rfl; omega) (fun x42 y47 I43 J44 hB45 p46 => ?_)
                  have f48 : Fr pT I17 I43 := p46.2.2.2.2.1
                  have f49 : Fr pT I I43 := Fr.tr f23 f48 (fun _ _ => trivial)
                  have q50 : (5 : Int32).toInt = 5 := rfl
                  have b51 := Bd.o hB19 io9_112_97_12 bd9_12_15
                  have q52 : ((I17 97 15) : Int32).toInt = (I17 97 15).toInt := rfl
                  have b53 := Bd.o hB45 io9_112_97_12 bd9_12_12
                  have e54 : ((I43 97 16) : Int32).toInt = (M 97 16).toInt := Eq.trans (congrArg Int32.toInt (Eq.trans p46.2.2.1 p20.2.2.1)) rfl
                  have e55 : ((I43 97 14) : Int32).toInt = (M 97 14).toInt := Eq.trans (congrArg Int32.toInt (Eq.trans p46.2.1 p20.2.1)) rfl
                  exact ih.2 _ _ _ hB45 (Eq.trans (Eq.trans p46.1 p20.1) hk_97_27) f49 (by have q0 : (v1 : Int32).toInt = v1.toInt := rfl; have q1 : ((I43 97 16) : Int32).toInt = (M 97 16).toInt := e54; have q2 : ((I43 97 14) : Int32).toInt = (M 97 14).toInt := e55; have q3 : ((I43 97 12) : Int32).toInt = (I43 97 12).toInt := rfl; have q4 : ((I43 97 16) : Int32).toInt = (M 97 16).toInt := e54; have q5 : ((I43 97 14) : Int32).toInt = (M 97 14).toInt := e55; omega) (by have q0 : ((I43 97 16) : Int32).toInt = (M 97 16).toInt := e54; have q1 : ((I43 97 14) : Int32).toInt = (M 97 14).toInt := e55; omega)
      · skip
        intro v1 M JM hB hk_97_27 hf hi hm
        have i_v1 := i32 v1
        refine sg_X12_readSlices_53 hc _ _ _ _ ?_
        have b56 := Bd.o hB io9_112_97_12 bd9_12_12
        have b57 := Bd.o hB io9_112_97_12 bd9_12_14
        have b58 := Bd.o hB io9_112_97_12 bd9_12_16
        refine sp_X12_count hB hR0 (fun x59 y64 I60 J61 hB62 p63 => ?_)
        have f65 : Fr pT M I60 := p63.2.1
        have f66 : Fr pT I I60 := Fr.tr hf f65 (fun _ _ => trivial)
        have q67 : (1 : Int32).toInt = 1 := rfl
        have q68 : (30 : Int32).toInt = 30 := rfl
        have b69 := Bd.o hB62 io9_112_97_12 bd9_12_12
        have b70 := Bd.o hB62 io9_112_97_12 bd9_12_14
        have b71 := Bd.o hB62 io9_112_97_12 bd9_12_16
        have i72 := i32 x59
        refine ⟨fun c73 => ?_, fun c73 => ?_⟩
        · skip
          have d74 : ¬ (((I60 97 12).toInt) : Int) = (0) := ci_ne rfl rfl c73
          have s75 := ori (show (v1 : Int32).toInt = v1.toInt from rfl) (show (0 : Int32).toInt = 0 from rfl) (by first | (clear b56 b57 b58 p63 b69 b70 b71 i72 d74; omega) | omega) (by first | (clear b56 b57 b58 p63 b69 b70 b71 i72 d74; omega) | omega)
          exact ih.1 _ _ _ hB62 (Eq.trans p63.1 hk_97_27) f66 (by have q0 : ((v1 ||| 0) : Int32).toInt = ((v1 ||| 0) : Int32).toInt := rfl; have q1 : ((I60 97 16) : Int32).toInt = (I60 97 16).toInt := rfl; have q2 : ((I60 97 14) : Int32).toInt = (I60 97 14).toInt := rfl; have q3 : ((I60 97 12) : Int32).toInt = (I60 97 12).toInt := rfl; have q4 : ((I60 97 16) : Int32).toInt = (I60 97 16).toInt := rfl; have q5 : ((I60 97 14) : Int32).toInt = (I60 97 14).toInt := rfl; omega) (by have q0 : ((I60 97 16) : Int32).toInt = (I60 97 16).toInt := rfl; have q1 : ((I60 97 14) : Int32).toInt = (I60 97 14).toInt := rfl; have q2 : ((I60 97 12) : Int32).toInt = (I60 97 12).toInt := rfl; omega)
        · skip
          have d76 : (((I60 97 12).toInt) : Int) = (0) := ci_eq rfl rfl c73
          have e77 : ((x59 - 1) : Int32).toInt = (x59.toInt) - (1) := ti_sub rfl rfl (by first | (clear b56 b57 b58 b69 b70 b71 d76; omega) | omega)
          have s78 := shlp (show ((x59 - 1) : Int32).toInt = (x59.toInt - 1) from e77) (by first | (clear b56 b57 b58 b69 b70 b71 d76; omega) | omega)
          have s79 := ori (show (v1 : Int32).toInt = v1.toInt from rfl) (show ((1 <<< ((x59 - 1) &&& 31)) : Int32).toInt = ((1 <<< ((x59 - 1) &&& 31)) : Int32).toInt from rfl) (by first | (clear b56 b57 b58 b69 b70 b71 d76; omega) | omega) (by first | (clear b56 b57 b58 b69 b70 b71 d76; omega) | omega)
          exact ih.1 _ _ _ hB62 (Eq.trans p63.1 hk_97_27) f66 (by have q0 : ((v1 ||| (1 <<< ((x59 - 1) &&& 31))) : Int32).toInt = ((v1 ||| (1 <<< ((x59 - 1) &&& 31))) : Int32).toInt := rfl; have q1 : ((I60 97 16) : Int32).toInt = (I60 97 16).toInt := rfl; have q2 : ((I60 97 14) : Int32).toInt = (I60 97 14).toInt := rfl; have q3 : ((I60 97 12) : Int32).toInt = (I60 97 12).toInt := rfl; have q4 : ((I60 97 16) : Int32).toInt = (I60 97 16).toInt := rfl; have q5 : ((I60 97 14) : Int32).toInt = (I60 97 14).toInt := rfl; omega) (by have q0 : ((I60 97 16) : Int32).toInt = (I60 97 16).toInt := rfl; have q1 : ((I60 97 14) : Int32).toInt = (I60 97 14).toInt := rfl; have q2 : ((I60 97 12) : Int32).toInt = (I60 97 12).toInt := rfl; omega)
  refine sg_X12_readSlices_0 hc _ _ _ ?_
  have b80 := Bd.o hB0 io9_112_97_12 bd9_12_16
  have b81 := Bd.o hB0 io9_112_97_12 bd9_12_14
  have b82 := Bd.o hB0 io9_112_97_12 bd9_12_12
  exact (L 1000000).1 _ _ _ hB0 rfl (Fr.refl _ _) (by have q0 : (0 : Int32).toInt = 0 := rfl; have q1 : ((I 97 16) : Int32).toInt = (I 97 16).toInt := rfl; have q2 : ((I 97 14) : Int32).toInt = (I 97 14).toInt := rfl; have q3 : ((I 97 12) : Int32).toInt = (I 97 12).toInt := rfl; have q4 : ((I 97 16) : Int32).toInt = (I 97 16).toInt := rfl; have q5 : ((I 97 14) : Int32).toInt = (I 97 14).toInt := rfl; omega) (by have q0 : ((I 97 16) : Int32).toInt = (I 97 16).toInt := rfl; have q1 : ((I 97 14) : Int32).toInt = (I 97 14).toInt := rfl; have q2 : ((I 97 12) : Int32).toInt = (I 97 12).toInt := rfl; omega)
set_option maxHeartbeats 2000000 in
theorem sp_X12_readOdds {d : Nat} {Q : Qt} {I : Im} {J : Jm} {R : Rm} (hB0 : Bd I) (hR0 : RI R) (hQ : ∀ (x : Int32) (y : Int64) (I2 : Im) (J2 : Jm), Bd I2 → (I2 97 27 = I 97 27 ∧ Fr pR I I2 ∧ ((2 * (901 - (I2 97 16).toInt) + min (I2 97 14).toInt 1) ≤ (2 * (901 - (I 97 16).toInt) + min (I 97 14).toInt 1) ∧ ((I 97 12).toInt = 0 ∨ 1 ≤ (I2 97 12).toInt))) → Q x y I2 J2 R) : AM (d + 5) 228 112 [.ref 97] I J R Q := by
  refine am_X12_readOdds (fun P hc => ?_)
  have L : ∀ n : Nat, (∀ (M : Im) (JM : Jm), Bd M → (M 97 27 = I 97 27) → Fr pR I M → (((I 97 12).toInt = 0 ∨ 1 ≤ (M 97 12).toInt) ∧ (2 * (901 - (M 97 16).toInt) + min (M 97 14).toInt 1) ≤ (2 * (901 - (I 97 16).toInt) + min (I 97 14).toInt 1)) → 1 < (n : Int) → P 16 112 [(0, .ref 97)] [] M JM R) := by
    intro n
    induction n with
    | zero =>
      exact fun  M J _ _ _ hi hm => absurd hm (by omega)
    | succ n ih =>
      intro  M JM hB hk_97_27 hf hi hm
      refine sg_X12_readOdds_16 hc _ _ _ ?_
      have b1 := Bd.o hB io9_112_97_12 bd9_12_12
      have b2 := Bd.o hB io9_112_97_12 bd9_12_14
      have b3 := Bd.o hB io9_112_97_12 bd9_12_16
      refine ⟨Or.inr rfl, ?_⟩
      have hB4 : Bd (uI M 97 24 1) := Bd.o1 hB io9_112_97_12 (by decide) bd9_12_24 rfl (bl_ti (Or.inr rfl))
      have f5 : Fr pR I (uI M 97 24 1) := Fr.o hf (by decide) (by decide)
      refine sp_X12_must hB4 hR0 (fun x6 y11 I7 J8 hB9 p10 => ?_)
      have f12 : Fr pT (uI M 97 24 1) I7 := p10.2.1
      have f13 : Fr pR I I7 := Fr.tr f5 f12 (fun _ _ => trivial)
      have q14 : (1 : Int32).toInt = 1 := rfl
      have e15 : (((uI M 97 24 1) 97 12) : Int32).toInt = (M 97 12).toInt := Eq.trans (congrArg Int32.toInt (rd_k (by decide))) rfl
      have e16 : (((uI M 97 24 1) 97 14) : Int32).toInt = (M 97 14).toInt := Eq.trans (congrArg Int32.toInt (rd_k (by decide))) rfl
      have e17 : (((uI M 97 24 1) 97 16) : Int32).toInt = (M 97 16).toInt := Eq.trans (congrArg Int32.toInt (rd_k (by decide))) rfl
      have b18 := Bd.o hB9 io9_112_97_12 bd9_12_12
      have b19 := Bd.o hB9 io9_112_97_12 bd9_12_14
      have b20 := Bd.o hB9 io9_112_97_12 bd9_12_16
      refine sp_X12_count hB9 hR0 (fun x21 y26 I22 J23 hB24 p25 => ?_)
      have f27 : Fr pT I7 I22 := p25.2.1
      have f28 : Fr pR I I22 := Fr.tr f13 f27 (fun _ _ => trivial)
      have q29 : (0 : Int32).toInt = 0 := rfl
      have q30 : (16 : Int32).toInt = 16 := rfl
      have b31 := Bd.o hB24 io9_112_97_12 bd9_12_12
      have b32 := Bd.o hB24 io9_112_97_12 bd9_12_14
      have b33 := Bd.o hB24 io9_112_97_12 bd9_12_16
      have i34 := i32 x21
      refine ⟨fun c35 => ?_, fun c35 => ?_⟩
      · skip
        have d36 : ¬ (((I22 97 12).toInt) : Int) = (0) := ci_ne rfl rfl c35
        have b37 := Bd.o hB0 io9_112_97_12 bd9_12_12
        have b38 := Bd.o hB0 io9_112_97_12 bd9_12_14
        have b39 := Bd.o hB0 io9_112_97_12 bd9_12_16
        exact hQ _ _ _ _ hB24 ⟨(Eq.trans (Eq.trans (Eq.trans p25.1 p10.1) (rd_k (by decide))) hk_97_27), f28, (by have q4 : ((I22 97 12) : Int32).toInt = (I22 97 12).toInt := rfl; have q5 : ((I22 97 14) : Int32).toInt = (I22 97 14).toInt := rfl; have q6 : ((I22 97 16) : Int32).toInt = (I22 97 16).toInt := rfl; omega)⟩
      · skip
        have d40 : (((I22 97 12).toInt) : Int) = (0) := ci_eq rfl rfl c35
        refine ⟨vp_of (a := 1297) rfl (by first | (clear b1 b2 b3 p10 e15 e16 e17 b18 b19 b20 p25 b31 b32 b33 i34 d40; omega) | omega) (by first | (clear b1 b2 b3 p10 e15 e16 e17 b18 b19 b20 p25 b31 b32 b33 i34 d40; omega) | omega), ?_⟩
        have hB41 : Bd (uI I22 102 (Int32.toNatClampNeg 1297) x21) := Bd.cfree hB24 (show (1297 : Int32).toInt = 1297 from rfl) (by first | (clear b1 b2 b3 p10 e15 e16 e17 b18 b19 b20; omega) | omega) (by first | (clear b1 b2 b3 p10 e15 e16 e17 b18 b19 b20; omega) | omega) (by first | (clear b1 b2 b3 p10 e15 e16 e17 b18 b19 b20; omega) | omega) (by first | (clear b1 b2 b3 p10 e15 e16 e17 b18 b19 b20; omega) | omega)
        have f42 : Fr pR I (uI I22 102 (Int32.toNatClampNeg 1297) x21) := Fr.w f28 (show (1297 : Int32).toInt = 1297 from rfl) (by first | (clear b1 b2 b3 p10 e15 e16 e17 b18 b19 b20; omega) | omega) (fun j hj hp => by unfold pR at hp; omega)
        have b43 := Bd.o hB0 io9_112_97_12 bd9_12_12
        have b44 := Bd.o hB0 io9_112_97_12 bd9_12_14
        have b45 := Bd.o hB0 io9_112_97_12 bd9_12_16
        have e46 : (((uI I22 102 (Int32.toNatClampNeg 1297) x21) 97 12) : Int32).toInt = (I22 97 12).toInt := Eq.trans (congrArg Int32.toInt (rd_ne (by first | decide | omega))) rfl
        have e47 : (((uI I22 102 (Int32.toNatClampNeg 1297) x21) 97 14) : Int32).toInt = (I22 97 14).toInt := Eq.trans (congrArg Int32.toInt (rd_ne (by first | decide | omega))) rfl
        have e48 : (((uI I22 102 (Int32.toNatClampNeg 1297) x21) 97 16) : Int32).toInt = (I22 97 16).toInt := Eq.trans (congrArg Int32.toInt (rd_ne (by first | decide | omega))) rfl
        exact hQ _ _ _ _ hB41 ⟨(Eq.trans (Eq.trans (Eq.trans (Eq.trans (rd_ne (by first | decide | omega)) p25.1) p10.1) (rd_k (by decide))) hk_97_27), f42, (by have q4 : (((uI I22 102 (Int32.toNatClampNeg 1297) x21) 97 12) : Int32).toInt = (I22 97 12).toInt := e46; have q5 : (((uI I22 102 (Int32.toNatClampNeg 1297) x21) 97 14) : Int32).toInt = (I22 97 14).toInt := e47; have q6 : (((uI I22 102 (Int32.toNatClampNeg 1297) x21) 97 16) : Int32).toInt = (I22 97 16).toInt := e48; omega)⟩
  refine sg_X12_readOdds_0 hc _ _ _ ?_
  refine ⟨fun c49 => ?_, fun c49 => ?_⟩
  · skip
    have b50 := Bd.o hB0 io9_112_97_12 bd9_12_24
    have d51 : (((I 97 24).toInt) : Int) = (0) := ci_eq rfl rfl c49
    have b52 := Bd.o hB0 io9_112_97_12 bd9_12_12
    have b53 := Bd.o hB0 io9_112_97_12 bd9_12_16
    have b54 := Bd.o hB0 io9_112_97_12 bd9_12_14
    exact (L 1000000) _ _ hB0 rfl (Fr.refl _ _) (by have q0 : ((I 97 12) : Int32).toInt = (I 97 12).toInt := rfl; have q1 : ((I 97 16) : Int32).toInt = (I 97 16).toInt := rfl; have q2 : ((I 97 14) : Int32).toInt = (I 97 14).toInt := rfl; omega) (by omega)
  · skip
    have b55 := Bd.o hB0 io9_112_97_12 bd9_12_24
    have d56 : ¬ (((I 97 24).toInt) : Int) = (0) := ci_ne rfl rfl c49
    refine sp_X12_fail hB0 hR0 (by have z : (5 : Int32).toInt = 5 := rfl; omega) (fun x57 y62 I58 J59 hB60 p61 => ?_)
    have f63 : Fr pT I I58 := p61.2.2.2.2.1
    have f64 : Fr pR I I58 := Fr.tr (Fr.refl _ _) f63 (fun _ _ => trivial)
    have q65 : (5 : Int32).toInt = 5 := rfl
    have b66 := Bd.o hB0 io9_112_97_12 bd9_12_15
    have q67 : ((I 97 15) : Int32).toInt = (I 97 15).toInt := rfl
    have b68 := Bd.o hB60 io9_112_97_12 bd9_12_12
    have b69 := Bd.o hB0 io9_112_97_12 bd9_12_16
    have e70 : ((I58 97 16) : Int32).toInt = (I 97 16).toInt := Eq.trans (congrArg Int32.toInt p61.2.2.1) rfl
    have b71 := Bd.o hB0 io9_112_97_12 bd9_12_14
    have e72 : ((I58 97 14) : Int32).toInt = (I 97 14).toInt := Eq.trans (congrArg Int32.toInt p61.2.1) rfl
    exact (L 1000000) _ _ hB60 p61.1 f64 (by have q0 : ((I58 97 12) : Int32).toInt = (I58 97 12).toInt := rfl; have q1 : ((I58 97 16) : Int32).toInt = (I 97 16).toInt := e70; have q2 : ((I58 97 14) : Int32).toInt = (I 97 14).toInt := e72; omega) (by omega)
set_option maxHeartbeats 2000000 in
theorem sp_X12_readKnown {d : Nat} {Q : Qt} {I : Im} {J : Jm} {R : Rm} (hB0 : Bd I) (hR0 : RI R) (hQ : ∀ (x : Int32) (y : Int64) (I2 : Im) (J2 : Jm), Bd I2 → (I2 97 27 = I 97 27 ∧ Fr pR I I2 ∧ ((2 * (901 - (I2 97 16).toInt) + min (I2 97 14).toInt 1) ≤ (2 * (901 - (I 97 16).toInt) + min (I 97 14).toInt 1) ∧ ((I 97 12).toInt = 0 ∨ 1 ≤ (I2 97 12).toInt))) → Q x y I2 J2 R) : AM (d + 6) 229 112 [.ref 97] I J R Q := by
  refine am_X12_readKnown (fun P hc => ?_)
  have L : ∀ n : Nat, (∀ (M : Im) (JM : Jm), Bd M → (M 97 27 = I 97 27) → Fr pR I M → (((I 97 12).toInt = 0 ∨ 1 ≤ (M 97 12).toInt) ∧ (2 * (901 - (M 97 16).toInt) + min (M 97 14).toInt 1) ≤ (2 * (901 - (I 97 16).toInt) + min (I 97 14).toInt 1)) → 1 < (n : Int) → P 16 112 [(0, .ref 97)] [] M JM R) := by
    intro n
    induction n with
    | zero =>
      exact fun  M J _ _ _ hi hm => absurd hm (by omega)
    | succ n ih =>
      intro  M JM hB hk_97_27 hf hi hm
      refine sg_X12_readKnown_16 hc _ _ _ ?_
      have b1 := Bd.o hB io9_112_97_12 bd9_12_12
      have b2 := Bd.o hB io9_112_97_12 bd9_12_14
      have b3 := Bd.o hB io9_112_97_12 bd9_12_16
      refine ⟨Or.inr rfl, ?_⟩
      have hB4 : Bd (uI M 97 25 1) := Bd.o1 hB io9_112_97_12 (by decide) bd9_12_25 rfl (bl_ti (Or.inr rfl))
      have f5 : Fr pR I (uI M 97 25 1) := Fr.o hf (by decide) (by decide)
      refine sp_X12_must hB4 hR0 (fun x6 y11 I7 J8 hB9 p10 => ?_)
      have f12 : Fr pT (uI M 97 25 1) I7 := p10.2.1
      have f13 : Fr pR I I7 := Fr.tr f5 f12 (fun _ _ => trivial)
      have q14 : (1 : Int32).toInt = 1 := rfl
      have e15 : (((uI M 97 25 1) 97 12) : Int32).toInt = (M 97 12).toInt := Eq.trans (congrArg Int32.toInt (rd_k (by decide))) rfl
      have e16 : (((uI M 97 25 1) 97 14) : Int32).toInt = (M 97 14).toInt := Eq.trans (congrArg Int32.toInt (rd_k (by decide))) rfl
      have e17 : (((uI M 97 25 1) 97 16) : Int32).toInt = (M 97 16).toInt := Eq.trans (congrArg Int32.toInt (rd_k (by decide))) rfl
      have b18 := Bd.o hB9 io9_112_97_12 bd9_12_12
      have b19 := Bd.o hB9 io9_112_97_12 bd9_12_14
      have b20 := Bd.o hB9 io9_112_97_12 bd9_12_16
      refine sp_X12_readSlices hB9 hR0 (fun x21 y26 I22 J23 hB24 p25 => ?_)
      have f27 : Fr pT I7 I22 := p25.2.1
      have f28 : Fr pR I I22 := Fr.tr f13 f27 (fun _ _ => trivial)
      have b29 := Bd.o hB24 io9_112_97_12 bd9_12_12
      have b30 := Bd.o hB24 io9_112_97_12 bd9_12_14
      have b31 := Bd.o hB24 io9_112_97_12 bd9_12_16
      have i32 := i32 x21
      refine ⟨fun c33 => ?_, fun c33 => ?_⟩
      · skip
        have d34 : ¬ (((I22 97 12).toInt) : Int) = (0) := ci_ne rfl rfl c33
        have b35 := Bd.o hB0 io9_112_97_12 bd9_12_12
        have b36 := Bd.o hB0 io9_112_97_12 bd9_12_14
        have b37 := Bd.o hB0 io9_112_97_12 bd9_12_16
        exact hQ _ _ _ _ hB24 ⟨(Eq.trans (Eq.trans (Eq.trans p25.1 p10.1) (rd_k (by decide))) hk_97_27), f28, (by have q4 : ((I22 97 12) : Int32).toInt = (I22 97 12).toInt := rfl; have q5 : ((I22 97 14) : Int32).toInt = (I22 97 14).toInt := rfl; have q6 : ((I22 97 16) : Int32).toInt = (I22 97 16).toInt := rfl; omega)⟩
      · skip
        have d38 : (((I22 97 12).toInt) : Int) = (0) := ci_eq rfl rfl c33
        refine ⟨vp_of (a := 1299) rfl (by first | (clear b1 b2 b3 p10 e15 e16 e17 b18 b19 b20 p25 b29 b30 b31 i32 d38; omega) | omega) (by first | (clear b1 b2 b3 p10 e15 e16 e17 b18 b19 b20 p25 b29 b30 b31 i32 d38; omega) | omega), ?_⟩
        have hB39 : Bd (uI I22 102 (Int32.toNatClampNeg 1299) x21) := Bd.cknown hB24 (show (1299 : Int32).toInt = 1299 from rfl) (show (x21 : Int32).toInt = x21.toInt from rfl) (by first | (clear b1 b2 b3 p10 e15 e16 e17 b18 b19 b20; omega) | omega) (by first | (clear b1 b2 b3 p10 e15 e16 e17 b18 b19 b20; omega) | omega) (by first | (clear b1 b2 b3 p10 e15 e16 e17 b18 b19 b20; omega) | omega) 
        have f40 : Fr pR I (uI I22 102 (Int32.toNatClampNeg 1299) x21) := Fr.w f28 (show (1299 : Int32).toInt = 1299 from rfl) (by first | (clear b1 b2 b3 p10 e15 e16 e17 b18 b19 b20; omega) | omega) (fun j hj hp => by unfold pR at hp; omega)
        have b41 := Bd.o hB0 io9_112_97_12 bd9_12_12
        have b42 := Bd.o hB0 io9_112_97_12 bd9_12_14
        have b43 := Bd.o hB0 io9_112_97_12 bd9_12_16
        have e44 : (((uI I22 102 (Int32.toNatClampNeg 1299) x21) 97 12) : Int32).toInt = (I22 97 12).toInt := Eq.trans (congrArg Int32.toInt (rd_ne (by first | decide | omega))) rfl
        have e45 : (((uI I22 102 (Int32.toNatClampNeg 1299) x21) 97 14) : Int32).toInt = (I22 97 14).toInt := Eq.trans (congrArg Int32.toInt (rd_ne (by first | decide | omega))) rfl
        have e46 : (((uI I22 102 (Int32.toNatClampNeg 1299) x21) 97 16) : Int32).toInt = (I22 97 16).toInt := Eq.trans (congrArg Int32.toInt (rd_ne (by first | decide | omega))) rfl
        exact hQ _ _ _ _ hB39 ⟨(Eq.trans (Eq.trans (Eq.trans (Eq.trans (rd_ne (by first | decide | omega)) p25.1) p10.1) (rd_k (by decide))) hk_97_27), f40, (by have q4 : (((uI I22 102 (Int32.toNatClampNeg 1299) x21) 97 12) : Int32).toInt = (I22 97 12).toInt := e44; have q5 : (((uI I22 102 (Int32.toNatClampNeg 1299) x21) 97 14) : Int32).toInt = (I22 97 14).toInt := e45; have q6 : (((uI I22 102 (Int32.toNatClampNeg 1299) x21) 97 16) : Int32).toInt = (I22 97 16).toInt := e46; omega)⟩
  refine sg_X12_readKnown_0 hc _ _ _ ?_
  refine ⟨fun c47 => ?_, fun c47 => ?_⟩
  · skip
    have b48 := Bd.o hB0 io9_112_97_12 bd9_12_25
    have d49 : (((I 97 25).toInt) : Int) = (0) := ci_eq rfl rfl c47
    have b50 := Bd.o hB0 io9_112_97_12 bd9_12_12
    have b51 := Bd.o hB0 io9_112_97_12 bd9_12_16
    have b52 := Bd.o hB0 io9_112_97_12 bd9_12_14
    exact (L 1000000) _ _ hB0 rfl (Fr.refl _ _) (by have q0 : ((I 97 12) : Int32).toInt = (I 97 12).toInt := rfl; have q1 : ((I 97 16) : Int32).toInt = (I 97 16).toInt := rfl; have q2 : ((I 97 14) : Int32).toInt = (I 97 14).toInt := rfl; omega) (by omega)
  · skip
    have b53 := Bd.o hB0 io9_112_97_12 bd9_12_25
    have d54 : ¬ (((I 97 25).toInt) : Int) = (0) := ci_ne rfl rfl c47
    refine sp_X12_fail hB0 hR0 (by have z : (5 : Int32).toInt = 5 := rfl; omega) (fun x55 y60 I56 J57 hB58 p59 => ?_)
    have f61 : Fr pT I I56 := p59.2.2.2.2.1
    have f62 : Fr pR I I56 := Fr.tr (Fr.refl _ _) f61 (fun _ _ => trivial)
    have q63 : (5 : Int32).toInt = 5 := rfl
    have b64 := Bd.o hB0 io9_112_97_12 bd9_12_15
    have q65 : ((I 97 15) : Int32).toInt = (I 97 15).toInt := rfl
    have b66 := Bd.o hB58 io9_112_97_12 bd9_12_12
    have b67 := Bd.o hB0 io9_112_97_12 bd9_12_16
    have e68 : ((I56 97 16) : Int32).toInt = (I 97 16).toInt := Eq.trans (congrArg Int32.toInt p59.2.2.1) rfl
    have b69 := Bd.o hB0 io9_112_97_12 bd9_12_14
    have e70 : ((I56 97 14) : Int32).toInt = (I 97 14).toInt := Eq.trans (congrArg Int32.toInt p59.2.1) rfl
    exact (L 1000000) _ _ hB58 p59.1 f62 (by have q0 : ((I56 97 12) : Int32).toInt = (I56 97 12).toInt := rfl; have q1 : ((I56 97 16) : Int32).toInt = (I 97 16).toInt := e68; have q2 : ((I56 97 14) : Int32).toInt = (I 97 14).toInt := e70; omega) (by omega)
set_option maxHeartbeats 2000000 in
theorem sp_X12_readStore {d : Nat} {Q : Qt} {I : Im} {J : Jm} {R : Rm} (hB0 : Bd I) (hR0 : RI R) (hQ : ∀ (x : Int32) (y : Int64) (I2 : Im) (J2 : Jm), Bd I2 → (I2 97 27 = I 97 27 ∧ Fr pR I I2 ∧ ((2 * (901 - (I2 97 16).toInt) + min (I2 97 14).toInt 1) ≤ (2 * (901 - (I 97 16).toInt) + min (I 97 14).toInt 1) ∧ ((I 97 12).toInt = 0 ∨ 1 ≤ (I2 97 12).toInt))) → Q x y I2 J2 R) : AM (d + 5) 230 112 [.ref 97] I J R Q := by
  refine am_X12_readStore (fun P hc => ?_)
  have L : ∀ n : Nat, (∀ (M : Im) (JM : Jm), Bd M → (M 97 27 = I 97 27) → Fr pR I M → (((I 97 12).toInt = 0 ∨ 1 ≤ (M 97 12).toInt) ∧ (2 * (901 - (M 97 16).toInt) + min (M 97 14).toInt 1) ≤ (2 * (901 - (I 97 16).toInt) + min (I 97 14).toInt 1)) → 1 < (n : Int) → P 44 112 [(0, .ref 97)] [] M JM R) := by
    intro n
    induction n with
    | zero =>
      exact fun  M J _ _ _ hi hm => absurd hm (by omega)
    | succ n ih =>
      intro  M JM hB hk_97_27 hf hi hm
      refine sg_X12_readStore_44 hc _ _ _ ?_
      have b1 := Bd.o hB io9_112_97_12 bd9_12_12
      have b2 := Bd.o hB io9_112_97_12 bd9_12_14
      have b3 := Bd.o hB io9_112_97_12 bd9_12_16
      refine sp_X12_count hB hR0 (fun x4 y9 I5 J6 hB7 p8 => ?_)
      have f10 : Fr pT M I5 := p8.2.1
      have f11 : Fr pR I I5 := Fr.tr hf f10 (fun _ _ => trivial)
      have q12 : (1 : Int32).toInt = 1 := rfl
      have q13 : (30 : Int32).toInt = 30 := rfl
      have b14 := Bd.o hB7 io9_112_97_12 bd9_12_12
      have b15 := Bd.o hB7 io9_112_97_12 bd9_12_14
      have b16 := Bd.o hB7 io9_112_97_12 bd9_12_16
      have i17 := i32 x4
      refine sp_X12_isTimes hB7 hR0 (fun x18 y23 I19 J20 hB21 p22 => ?_)
      intro o24
      have f25 : Fr pT I5 I19 := p22.2.2.2.2.1
      have f26 : Fr pR I I19 := Fr.tr f11 f25 (fun _ _ => trivial)
      have i27 := i32 x18
      refine sp_X12_perhaps hB21 hR0 (fun x28 y33 I29 J30 hB31 p32 => ?_)
      intro o34
      have f35 : Fr pT I19 I29 := p32.2.1
      have f36 : Fr pR I I29 := Fr.tr f26 f35 (fun _ _ => trivial)
      have e37 : ((I19 97 12) : Int32).toInt = (I5 97 12).toInt := Eq.trans (congrArg Int32.toInt p22.1) rfl
      have e38 : ((I19 97 14) : Int32).toInt = (I5 97 14).toInt := Eq.trans (congrArg Int32.toInt p22.2.2.1) rfl
      have e39 : ((I19 97 16) : Int32).toInt = (I5 97 16).toInt := Eq.trans (congrArg Int32.toInt p22.2.2.2.1) rfl
      have b40 := Bd.o hB31 io9_112_97_12 bd9_12_12
      have b41 := Bd.o hB31 io9_112_97_12 bd9_12_14
      have b42 := Bd.o hB31 io9_112_97_12 bd9_12_16
      have i43 := i32 x28
      refine ⟨fun c44 => ?_, fun c44 => ?_⟩
      · skip
        have d45 : ((x28.toInt) : Int) = (0) := ci_eq rfl rfl c44
        refine ⟨fun c46 => ?_, fun c46 => ?_⟩
        · skip
          have d47 : (((I29 97 12).toInt) : Int) ≤ (0) := ci_le rfl rfl c46
          have hB48 : Bd (uI I29 97 26 ((I29 97 26) ||| (1 <<< ((x4 - 1) &&& 31)))) := Bd.o0 hB31 io9_112_97_12 (by decide) bd9_12_26
          have f49 : Fr pR I (uI I29 97 26 ((I29 97 26) ||| (1 <<< ((x4 - 1) &&& 31)))) := Fr.o f36 (by decide) (by decide)
          have e50 : ((1300 + x4) : Int32).toInt = (1300) + (x4.toInt) := ti_add rfl rfl (by first | (clear b1 b2 b3 b14 b15 b16 p22 i27 p32 e37 e38 e39 b40 b41 b42 i43 d45 d47; omega) | omega)
          have e51 : (((1300 + x4) - 1) : Int32).toInt = ((1300 + x4.toInt)) - (1) := ti_sub e50 rfl (by first | (clear b1 b2 b3 b14 b15 b16 p22 i27 p32 e37 e38 e39 b40 b41 b42 i43 d45 d47; omega) | omega)
          refine ⟨vp_of (a := ((1300 + x4.toInt) - 1)) e51 (by first | (clear b1 b2 b3 b14 b15 b16 p22 i27 p32 e37 e38 e39 b40 b41 b42 i43 d45 d47; omega) | omega) (by first | (clear b1 b2 b3 b14 b15 b16 p22 i27 p32 e37 e38 e39 b40 b41 b42 i43 d45 d47; omega) | omega), ?_⟩
          have hB52 : Bd (uI (uI I29 97 26 ((I29 97 26) ||| (1 <<< ((x4 - 1) &&& 31)))) 102 (Int32.toNatClampNeg ((1300 + x4) - 1)) 1) := Bd.cfree hB48 (show (((1300 + x4) - 1) : Int32).toInt = ((1300 + x4.toInt) - 1) from e51) (by first | (clear b1 b2 b3 b14 b15 b16 p22 i27 e37 e38 e39 i43 d45; omega) | omega) (by first | (clear b1 b2 b3 b14 b15 b16 p22 i27 e37 e38 e39 i43 d45; omega) | omega) (by first | (clear b1 b2 b3 b14 b15 b16 p22 i27 e37 e38 e39 i43 d45; omega) | omega) (by first | (clear b1 b2 b3 b14 b15 b16 p22 i27 e37 e38 e39 i43 d45; omega) | omega)
          have f53 : Fr pR I (uI (uI I29 97 26 ((I29 97 26) ||| (1 <<< ((x4 - 1) &&& 31)))) 102 (Int32.toNatClampNeg ((1300 + x4) - 1)) 1) := Fr.w f49 (show (((1300 + x4) - 1) : Int32).toInt = ((1300 + x4.toInt) - 1) from e51) (by first | (clear b1 b2 b3 b14 b15 b16 p22 i27 e37 e38 e39 i43 d45; omega) | omega) (fun j hj hp => by unfold pR at hp; omega)
          have b54 := Bd.o hB0 io9_112_97_12 bd9_12_12
          have b55 := Bd.o hB0 io9_112_97_12 bd9_12_14
          have b56 := Bd.o hB0 io9_112_97_12 bd9_12_16
          have e57 : (((uI (uI I29 97 26 ((I29 97 26) ||| (1 <<< ((x4 - 1) &&& 31)))) 102 (Int32.toNatClampNeg ((1300 + x4) - 1)) 1) 97 12) : Int32).toInt = (I29 97 12).toInt := Eq.trans (congrArg Int32.toInt (Eq.trans (rd_ne (by first | decide | omega)) (rd_k (by decide)))) rfl
          have e58 : (((uI (uI I29 97 26 ((I29 97 26) ||| (1 <<< ((x4 - 1) &&& 31)))) 102 (Int32.toNatClampNeg ((1300 + x4) - 1)) 1) 97 14) : Int32).toInt = (I29 97 14).toInt := Eq.trans (congrArg Int32.toInt (Eq.trans (rd_ne (by first | decide | omega)) (rd_k (by decide)))) rfl
          have e59 : (((uI (uI I29 97 26 ((I29 97 26) ||| (1 <<< ((x4 - 1) &&& 31)))) 102 (Int32.toNatClampNeg ((1300 + x4) - 1)) 1) 97 16) : Int32).toInt = (I29 97 16).toInt := Eq.trans (congrArg Int32.toInt (Eq.trans (rd_ne (by first | decide | omega)) (rd_k (by decide)))) rfl
          exact hQ _ _ _ _ hB52 ⟨(Eq.trans (Eq.trans (Eq.trans (Eq.trans (Eq.trans (rd_ne (by first | decide | omega)) (rd_k (by decide))) p32.1) p22.2.1) p8.1) hk_97_27), f53, (by have q4 : (((uI (uI I29 97 26 ((I29 97 26) ||| (1 <<< ((x4 - 1) &&& 31)))) 102 (Int32.toNatClampNeg ((1300 + x4) - 1)) 1) 97 12) : Int32).toInt = (I29 97 12).toInt := e57; have q5 : (((uI (uI I29 97 26 ((I29 97 26) ||| (1 <<< ((x4 - 1) &&& 31)))) 102 (Int32.toNatClampNeg ((1300 + x4) - 1)) 1) 97 14) : Int32).toInt = (I29 97 14).toInt := e58; have q6 : (((uI (uI I29 97 26 ((I29 97 26) ||| (1 <<< ((x4 - 1) &&& 31)))) 102 (Int32.toNatClampNeg ((1300 + x4) - 1)) 1) 97 16) : Int32).toInt = (I29 97 16).toInt := e59; omega)⟩
        · skip
          have d60 : ((0) : Int) < ((I29 97 12).toInt) := ci_nle rfl rfl c46
          have b61 := Bd.o hB0 io9_112_97_12 bd9_12_12
          have b62 := Bd.o hB0 io9_112_97_12 bd9_12_14
          have b63 := Bd.o hB0 io9_112_97_12 bd9_12_16
          exact hQ _ _ _ _ hB31 ⟨(Eq.trans (Eq.trans (Eq.trans p32.1 p22.2.1) p8.1) hk_97_27), f36, (by have q4 : ((I29 97 12) : Int32).toInt = (I29 97 12).toInt := rfl; have q5 : ((I29 97 14) : Int32).toInt = (I29 97 14).toInt := rfl; have q6 : ((I29 97 16) : Int32).toInt = (I29 97 16).toInt := rfl; omega)⟩
      · skip
        have d64 : ¬ ((x28.toInt) : Int) = (0) := ci_ne rfl rfl c44
        refine sp_X12_count hB31 hR0 (fun x65 y70 I66 J67 hB68 p69 => ?_)
        have f71 : Fr pT I29 I66 := p69.2.1
        have f72 : Fr pR I I66 := Fr.tr f36 f71 (fun _ _ => trivial)
        have q73 : (0 : Int32).toInt = 0 := rfl
        have q74 : (99 : Int32).toInt = 99 := rfl
        have b75 := Bd.o hB68 io9_112_97_12 bd9_12_12
        have b76 := Bd.o hB68 io9_112_97_12 bd9_12_14
        have b77 := Bd.o hB68 io9_112_97_12 bd9_12_16
        have i78 := i32 x65
        refine ⟨fun c79 => ?_, fun c79 => ?_⟩
        · skip
          have d80 : (((I66 97 12).toInt) : Int) ≤ (0) := ci_le rfl rfl c79
          have hB81 : Bd (uI I66 97 26 ((I66 97 26) ||| (1 <<< ((x4 - 1) &&& 31)))) := Bd.o0 hB68 io9_112_97_12 (by decide) bd9_12_26
          have f82 : Fr pR I (uI I66 97 26 ((I66 97 26) ||| (1 <<< ((x4 - 1) &&& 31)))) := Fr.o f72 (by decide) (by decide)
          have e83 : ((1300 + x4) : Int32).toInt = (1300) + (x4.toInt) := ti_add rfl rfl (by first | (clear b1 b2 b3 b14 b15 b16 p22 i27 p32 e37 e38 e39 b40 b41 b42 i43 d64 p69 b75 b76 b77 i78 d80; omega) | omega)
          have e84 : (((1300 + x4) - 1) : Int32).toInt = ((1300 + x4.toInt)) - (1) := ti_sub e83 rfl (by first | (clear b1 b2 b3 b14 b15 b16 p22 i27 p32 e37 e38 e39 b40 b41 b42 i43 d64 p69 b75 b76 b77 i78 d80; omega) | omega)
          refine ⟨vp_of (a := ((1300 + x4.toInt) - 1)) e84 (by first | (clear b1 b2 b3 b14 b15 b16 p22 i27 p32 e37 e38 e39 b40 b41 b42 i43 d64 p69 b75 b76 b77 i78 d80; omega) | omega) (by first | (clear b1 b2 b3 b14 b15 b16 p22 i27 p32 e37 e38 e39 b40 b41 b42 i43 d64 p69 b75 b76 b77 i78 d80; omega) | omega), ?_⟩
          have hB85 : Bd (uI (uI I66 97 26 ((I66 97 26) ||| (1 <<< ((x4 - 1) &&& 31)))) 102 (Int32.toNatClampNeg ((1300 + x4) - 1)) x65) := Bd.cfree hB81 (show (((1300 + x4) - 1) : Int32).toInt = ((1300 + x4.toInt) - 1) from e84) (by first | (clear b1 b2 b3 b14 b15 b16 p22 i27 p32 e37 e38 e39 b40 b41 b42 i43 d64; omega) | omega) (by first | (clear b1 b2 b3 b14 b15 b16 p22 i27 p32 e37 e38 e39 b40 b41 b42 i43 d64; omega) | omega) (by first | (clear b1 b2 b3 b14 b15 b16 p22 i27 p32 e37 e38 e39 b40 b41 b42 i43 d64; omega) | omega) (by first | (clear b1 b2 b3 b14 b15 b16 p22 i27 p32 e37 e38 e39 b40 b41 b42 i43 d64; omega) | omega)
          have f86 : Fr pR I (uI (uI I66 97 26 ((I66 97 26) ||| (1 <<< ((x4 - 1) &&& 31)))) 102 (Int32.toNatClampNeg ((1300 + x4) - 1)) x65) := Fr.w f82 (show (((1300 + x4) - 1) : Int32).toInt = ((1300 + x4.toInt) - 1) from e84) (by first | (clear b1 b2 b3 b14 b15 b16 p22 i27 p32 e37 e38 e39 b40 b41 b42 i43 d64; omega) | omega) (fun j hj hp => by unfold pR at hp; omega)
          have b87 := Bd.o hB0 io9_112_97_12 bd9_12_12
          have b88 := Bd.o hB0 io9_112_97_12 bd9_12_14
          have b89 := Bd.o hB0 io9_112_97_12 bd9_12_16
          have e90 : (((uI (uI I66 97 26 ((I66 97 26) ||| (1 <<< ((x4 - 1) &&& 31)))) 102 (Int32.toNatClampNeg ((1300 + x4) - 1)) x65) 97 12) : Int32).toInt = (I66 97 12).toInt := Eq.trans (congrArg Int32.toInt (Eq.trans (rd_ne (by first | decide | omega)) (rd_k (by decide)))) rfl
          have e91 : (((uI (uI I66 97 26 ((I66 97 26) ||| (1 <<< ((x4 - 1) &&& 31)))) 102 (Int32.toNatClampNeg ((1300 + x4) - 1)) x65) 97 14) : Int32).toInt = (I66 97 14).toInt := Eq.trans (congrArg Int32.toInt (Eq.trans (rd_ne (by first | decide | omega)) (rd_k (by decide)))) rfl
          have e92 : (((uI (uI I66 97 26 ((I66 97 26) ||| (1 <<< ((x4 - 1) &&& 31)))) 102 (Int32.toNatClampNeg ((1300 + x4) - 1)) x65) 97 16) : Int32).toInt = (I66 97 16).toInt := Eq.trans (congrArg Int32.toInt (Eq.trans (rd_ne (by first | decide | omega)) (rd_k (by decide)))) rfl
          exact hQ _ _ _ _ hB85 ⟨(Eq.trans (Eq.trans (Eq.trans (Eq.trans (Eq.trans (Eq.trans (rd_ne (by first | decide | omega)) (rd_k (by decide))) p69.1) p32.1) p22.2.1) p8.1) hk_97_27), f86, (by have q4 : (((uI (uI I66 97 26 ((I66 97 26) ||| (1 <<< ((x4 - 1) &&& 31)))) 102 (Int32.toNatClampNeg ((1300 + x4) - 1)) x65) 97 12) : Int32).toInt = (I66 97 12).toInt := e90; have q5 : (((uI (uI I66 97 26 ((I66 97 26) ||| (1 <<< ((x4 - 1) &&& 31)))) 102 (Int32.toNatClampNeg ((1300 + x4) - 1)) x65) 97 14) : Int32).toInt = (I66 97 14).toInt := e91; have q6 : (((uI (uI I66 97 26 ((I66 97 26) ||| (1 <<< ((x4 - 1) &&& 31)))) 102 (Int32.toNatClampNeg ((1300 + x4) - 1)) x65) 97 16) : Int32).toInt = (I66 97 16).toInt := e92; omega)⟩
        · skip
          have d93 : ((0) : Int) < ((I66 97 12).toInt) := ci_nle rfl rfl c79
          have b94 := Bd.o hB0 io9_112_97_12 bd9_12_12
          have b95 := Bd.o hB0 io9_112_97_12 bd9_12_14
          have b96 := Bd.o hB0 io9_112_97_12 bd9_12_16
          exact hQ _ _ _ _ hB68 ⟨(Eq.trans (Eq.trans (Eq.trans (Eq.trans p69.1 p32.1) p22.2.1) p8.1) hk_97_27), f72, (by have q4 : ((I66 97 12) : Int32).toInt = (I66 97 12).toInt := rfl; have q5 : ((I66 97 14) : Int32).toInt = (I66 97 14).toInt := rfl; have q6 : ((I66 97 16) : Int32).toInt = (I66 97 16).toInt := rfl; omega)⟩
  refine sg_X12_readStore_0 hc _ _ _ ?_
  refine sp_X12_must hB0 hR0 (fun x97 y102 I98 J99 hB100 p101 => ?_)
  have f103 : Fr pT I I98 := p101.2.1
  have f104 : Fr pR I I98 := Fr.tr (Fr.refl _ _) f103 (fun _ _ => trivial)
  have q105 : (1 : Int32).toInt = 1 := rfl
  have b106 := Bd.o hB0 io9_112_97_12 bd9_12_12
  have b107 := Bd.o hB0 io9_112_97_12 bd9_12_14
  have b108 := Bd.o hB0 io9_112_97_12 bd9_12_16
  have b109 := Bd.o hB100 io9_112_97_12 bd9_12_12
  have b110 := Bd.o hB100 io9_112_97_12 bd9_12_14
  have b111 := Bd.o hB100 io9_112_97_12 bd9_12_16
  refine sp_X12_mayBe hB100 hR0 (fun x112 y117 I113 J114 hB115 p116 => ?_)
  have f118 : Fr pT I98 I113 := p116.2.2.2.2.1
  have f119 : Fr pR I I113 := Fr.tr f104 f118 (fun _ _ => trivial)
  have q120 : (1 : Int32).toInt = 1 := rfl
  have q121 : (30 : Int32).toInt = 30 := rfl
  have b122 := Bd.o hB115 io9_112_97_12 bd9_12_12
  have e123 : ((I113 97 17) : Int32).toInt = (I98 97 17).toInt := Eq.trans (congrArg Int32.toInt p116.2.2.2.1) rfl
  refine ⟨fun c124 => ?_, fun c124 => ?_⟩
  · skip
    have d125 : ¬ (((I113 97 12).toInt) : Int) = (0) := ci_ne rfl rfl c124
    have e126 : ((I113 97 16) : Int32).toInt = (I98 97 16).toInt := Eq.trans (congrArg Int32.toInt p116.2.2.1) rfl
    have e127 : ((I113 97 14) : Int32).toInt = (I98 97 14).toInt := Eq.trans (congrArg Int32.toInt p116.2.1) rfl
    exact (L 1000000) _ _ hB115 (Eq.trans p116.1 p101.1) f119 (by have q0 : ((I113 97 12) : Int32).toInt = (I113 97 12).toInt := rfl; have q1 : ((I113 97 16) : Int32).toInt = (I98 97 16).toInt := e126; have q2 : ((I113 97 14) : Int32).toInt = (I98 97 14).toInt := e127; omega) (by omega)
  · skip
    have d128 : (((I113 97 12).toInt) : Int) = (0) := ci_eq rfl rfl c124
    refine w_X12_isOf ?_
    refine ⟨fun c129 => ?_, fun c129 => ?_⟩
    · skip
      have d130 : ¬ ((((((I113 97 26) >>> (((I113 97 17) - 1) &&& 31)) &&& 1) : Int32).toInt) : Int) = (1) := ci_ne rfl rfl c129
      refine ⟨Or.inl rfl, ?_⟩
      intro o131
      refine ⟨fun c132 => ?_, fun c132 => ?_⟩
      · skip
        have e133 : ((I113 97 16) : Int32).toInt = (I98 97 16).toInt := Eq.trans (congrArg Int32.toInt p116.2.2.1) rfl
        have e134 : ((I113 97 14) : Int32).toInt = (I98 97 14).toInt := Eq.trans (congrArg Int32.toInt p116.2.1) rfl
        exact (L 1000000) _ _ hB115 (Eq.trans p116.1 p101.1) f119 (by have q0 : ((I113 97 12) : Int32).toInt = (I113 97 12).toInt := rfl; have q1 : ((I113 97 16) : Int32).toInt = (I98 97 16).toInt := e133; have q2 : ((I113 97 14) : Int32).toInt = (I98 97 14).toInt := e134; omega) (by omega)
      · exact absurd c132 (by decide)
    · skip
      have d135 : ((((((I113 97 26) >>> (((I113 97 17) - 1) &&& 31)) &&& 1) : Int32).toInt) : Int) = (1) := ci_eq rfl rfl c129
      refine ⟨Or.inr rfl, ?_⟩
      intro o136
      refine ⟨fun c137 => ?_, fun c137 => ?_⟩
      · exact absurd c137 (by decide)
      · skip
        refine sp_X12_fail hB115 hR0 (by have z : (5 : Int32).toInt = 5 := rfl; omega) (fun x138 y143 I139 J140 hB141 p142 => ?_)
        have f144 : Fr pT I113 I139 := p142.2.2.2.2.1
        have f145 : Fr pR I I139 := Fr.tr f119 f144 (fun _ _ => trivial)
        have q146 : (5 : Int32).toInt = 5 := rfl
        have b147 := Bd.o hB115 io9_112_97_12 bd9_12_15
        have q148 : ((I113 97 15) : Int32).toInt = (I113 97 15).toInt := rfl
        have b149 := Bd.o hB141 io9_112_97_12 bd9_12_12
        have e150 : ((I139 97 16) : Int32).toInt = (I98 97 16).toInt := Eq.trans (congrArg Int32.toInt (Eq.trans p142.2.2.1 p116.2.2.1)) rfl
        have e151 : ((I139 97 14) : Int32).toInt = (I98 97 14).toInt := Eq.trans (congrArg Int32.toInt (Eq.trans p142.2.1 p116.2.1)) rfl
        exact (L 1000000) _ _ hB141 (Eq.trans (Eq.trans p142.1 p116.1) p101.1) f145 (by have q0 : ((I139 97 12) : Int32).toInt = (I139 97 12).toInt := rfl; have q1 : ((I139 97 16) : Int32).toInt = (I98 97 16).toInt := e150; have q2 : ((I139 97 14) : Int32).toInt = (I98 97 14).toInt := e151; omega) (by first | (clear b106 b107 b108 p116 b122 d128 d135 b147 q148; omega) | omega)
