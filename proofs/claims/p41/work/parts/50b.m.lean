set_option maxHeartbeats 2000000 in
theorem sp_X12_fail {d : Nat} {Q : Qt} {v1 : Int32} {v2 : Int32} {I : Im} {J : Jm} {R : Rm} (hB0 : Bd I) (hR0 : RI R) (hv1 : 1 ≤ v1.toInt ∧ v1.toInt ≤ 7) (hQ : ∀ (x : Int32) (y : Int64) (I2 : Im) (J2 : Jm), Bd I2 → (I2 97 27 = I 97 27 ∧ I2 97 14 = I 97 14 ∧ I2 97 16 = I 97 16 ∧ I2 97 17 = I 97 17 ∧ Fr pT I I2 ∧ (1 ≤ (I2 97 12).toInt)) → Q x y I2 J2 R) : AM (d + 1) 212 112 [.ref 97, .int v1, .int v2] I J R Q := by
  have i_v1 := i32 v1
  have i_v2 := i32 v2
  refine w_X12_fail ?_
  refine ⟨fun c1 => ?_, fun c1 => ?_⟩
  · skip
    have b2 := Bd.o hB0 io9_112_97_12 bd9_12_12
    have d3 : (((I 97 12).toInt) : Int) ≤ (0) := ci_le rfl rfl c1
    have hB4 : Bd (uI I 97 12 v1) := Bd.o1 hB0 io9_112_97_12 (by decide) bd9_12_12 (show (v1 : Int32).toInt = v1.toInt from rfl) (by omega)
    have f5 : Fr pT I (uI I 97 12 v1) := Fr.o (Fr.refl _ _) (by decide) (by decide)
    have hB6 : Bd (uI (uI I 97 12 v1) 97 13 v2) := Bd.o0 hB4 io9_112_97_12 (by decide) bd9_12_13
    have f7 : Fr pT I (uI (uI I 97 12 v1) 97 13 v2) := Fr.o f5 (by decide) (by decide)
    have e8 : (((uI (uI I 97 12 v1) 97 13 v2) 97 12) : Int32).toInt = v1.toInt := Eq.trans (congrArg Int32.toInt (Eq.trans (rd_k (by decide)) rd_eq)) rfl
    exact hQ _ _ _ _ hB6 ⟨(Eq.trans (rd_k (by decide)) (rd_k (by decide))), (Eq.trans (rd_k (by decide)) (rd_k (by decide))), (Eq.trans (rd_k (by decide)) (rd_k (by decide))), (Eq.trans (rd_k (by decide)) (rd_k (by decide))), f7, (by have q1 : (((uI (uI I 97 12 v1) 97 13 v2) 97 12) : Int32).toInt = v1.toInt := e8; omega)⟩
  · skip
    have b9 := Bd.o hB0 io9_112_97_12 bd9_12_12
    have d10 : ((0) : Int) < ((I 97 12).toInt) := ci_nle rfl rfl c1
    exact hQ _ _ _ _ hB0 ⟨rfl, rfl, rfl, rfl, (Fr.refl _ _), (by have q1 : ((I 97 12) : Int32).toInt = (I 97 12).toInt := rfl; omega)⟩
set_option maxHeartbeats 2000000 in
theorem sp_X12_amiss {d : Nat} {Q : Qt} {I : Im} {J : Jm} {R : Rm} (hB0 : Bd I) (hR0 : RI R) (hQ : ∀ (x : Int32) (y : Int64) (I2 : Im) (J2 : Jm), Bd I2 → (I2 97 27 = I 97 27 ∧ I2 97 14 = I 97 14 ∧ I2 97 16 = I 97 16 ∧ I2 97 17 = I 97 17 ∧ Fr pT I I2 ∧ (1 ≤ (I2 97 12).toInt)) → Q x y I2 J2 R) : AM (d + 2) 213 112 [.ref 97] I J R Q := by
  refine w_X12_amiss ?_
  refine ⟨fun c1 => ?_, fun c1 => ?_⟩
  · skip
    have b2 := Bd.o hB0 io9_112_97_12 bd9_12_14
    have d3 : ¬ (((I 97 14).toInt) : Int) = (4) := ci_ne rfl rfl c1
    refine sp_X12_fail hB0 hR0 (by have z : (2 : Int32).toInt = 2 := rfl; omega) (fun x4 y9 I5 J6 hB7 p8 => ?_)
    have f10 : Fr pT I I5 := p8.2.2.2.2.1
    have f11 : Fr pT I I5 := Fr.tr (Fr.refl _ _) f10 (fun _ _ => trivial)
    have q12 : (2 : Int32).toInt = 2 := rfl
    have b13 := Bd.o hB0 io9_112_97_12 bd9_12_15
    have q14 : ((I 97 15) : Int32).toInt = (I 97 15).toInt := rfl
    have b15 := Bd.o hB7 io9_112_97_12 bd9_12_12
    exact hQ _ _ _ _ hB7 ⟨p8.1, p8.2.1, p8.2.2.1, p8.2.2.2.1, f11, (by have q1 : ((I5 97 12) : Int32).toInt = (I5 97 12).toInt := rfl; omega)⟩
  · skip
    have b16 := Bd.o hB0 io9_112_97_12 bd9_12_14
    have d17 : (((I 97 14).toInt) : Int) = (4) := ci_eq rfl rfl c1
    refine sp_X12_fail hB0 hR0 (by have z : (1 : Int32).toInt = 1 := rfl; omega) (fun x18 y23 I19 J20 hB21 p22 => ?_)
    have f24 : Fr pT I I19 := p22.2.2.2.2.1
    have f25 : Fr pT I I19 := Fr.tr (Fr.refl _ _) f24 (fun _ _ => trivial)
    have q26 : (1 : Int32).toInt = 1 := rfl
    have b27 := Bd.o hB0 io9_112_97_12 bd9_12_15
    have q28 : ((I 97 15) : Int32).toInt = (I 97 15).toInt := rfl
    have b29 := Bd.o hB21 io9_112_97_12 bd9_12_12
    exact hQ _ _ _ _ hB21 ⟨p22.1, p22.2.1, p22.2.2.1, p22.2.2.2.1, f25, (by have q1 : ((I19 97 12) : Int32).toInt = (I19 97 12).toInt := rfl; omega)⟩
set_option maxHeartbeats 2000000 in
theorem sp_X12_must {d : Nat} {Q : Qt} {v1 : Int32} {I : Im} {J : Jm} {R : Rm} (hB0 : Bd I) (hR0 : RI R) (hQ : ∀ (x : Int32) (y : Int64) (I2 : Im) (J2 : Jm), Bd I2 → (I2 97 27 = I 97 27 ∧ Fr pT I I2 ∧ ((2 * (901 - (I2 97 16).toInt) + min (I2 97 14).toInt 1) ≤ (2 * (901 - (I 97 16).toInt) + min (I 97 14).toInt 1) ∧ ((I 97 12).toInt = 0 ∨ 1 ≤ (I2 97 12).toInt) ∧ (1 ≤ (I2 97 12).toInt ∨ (¬ v1.toInt = 0 ∧ ((I 97 14).toInt = 0 ∨ (2 * (901 - (I2 97 16).toInt) + min (I2 97 14).toInt 1) < (2 * (901 - (I 97 16).toInt) + min (I 97 14).toInt 1)))))) → Q x y I2 J2 R) : AM (d + 3) 214 112 [.ref 97, .int v1] I J R Q := by
  have i_v1 := i32 v1
  refine w_X12_must ?_
  refine ⟨fun c1 => ?_, fun c1 => ?_⟩
  · skip
    have b2 := Bd.o hB0 io9_112_97_12 bd9_12_12
    have d3 : (((I 97 12).toInt) : Int) ≤ (0) := ci_le rfl rfl c1
    refine ⟨fun c4 => ?_, fun c4 => ?_⟩
    · skip
      have d5 : ((v1.toInt) : Int) = (0) := ci_eq rfl rfl c4
      refine sp_X12_amiss hB0 hR0 (fun x6 y11 I7 J8 hB9 p10 => ?_)
      have f12 : Fr pT I I7 := p10.2.2.2.2.1
      have f13 : Fr pT I I7 := Fr.tr (Fr.refl _ _) f12 (fun _ _ => trivial)
      have b14 := Bd.o hB9 io9_112_97_12 bd9_12_12
      have b15 := Bd.o hB0 io9_112_97_12 bd9_12_14
      have b16 := Bd.o hB0 io9_112_97_12 bd9_12_16
      have e17 : ((I7 97 14) : Int32).toInt = (I 97 14).toInt := Eq.trans (congrArg Int32.toInt p10.2.1) rfl
      have e18 : ((I7 97 16) : Int32).toInt = (I 97 16).toInt := Eq.trans (congrArg Int32.toInt p10.2.2.1) rfl
      exact hQ _ _ _ _ hB9 ⟨p10.1, f13, (by have q4 : ((I7 97 12) : Int32).toInt = (I7 97 12).toInt := rfl; have q5 : ((I7 97 14) : Int32).toInt = (I 97 14).toInt := e17; have q6 : ((I7 97 16) : Int32).toInt = (I 97 16).toInt := e18; omega)⟩
    · skip
      have d19 : ¬ ((v1.toInt) : Int) = (0) := ci_ne rfl rfl c4
      refine sp_X12_advance hB0 hR0 (fun x20 y25 I21 J22 hB23 p24 => ?_)
      have f26 : Fr pT I I21 := p24.2.2.1
      have f27 : Fr pT I I21 := Fr.tr (Fr.refl _ _) f26 (fun _ _ => trivial)
      have b28 := Bd.o hB0 io9_112_97_12 bd9_12_14
      have b29 := Bd.o hB0 io9_112_97_12 bd9_12_16
      have b30 := Bd.o hB23 io9_112_97_12 bd9_12_14
      have b31 := Bd.o hB23 io9_112_97_12 bd9_12_16
      have e32 : ((I21 97 12) : Int32).toInt = (I 97 12).toInt := Eq.trans (congrArg Int32.toInt p24.1) rfl
      exact hQ _ _ _ _ hB23 ⟨p24.2.1, f27, (by have q4 : ((I21 97 12) : Int32).toInt = (I 97 12).toInt := e32; have q5 : ((I21 97 14) : Int32).toInt = (I21 97 14).toInt := rfl; have q6 : ((I21 97 16) : Int32).toInt = (I21 97 16).toInt := rfl; omega)⟩
  · skip
    have b33 := Bd.o hB0 io9_112_97_12 bd9_12_12
    have d34 : ((0) : Int) < ((I 97 12).toInt) := ci_nle rfl rfl c1
    have b35 := Bd.o hB0 io9_112_97_12 bd9_12_14
    have b36 := Bd.o hB0 io9_112_97_12 bd9_12_16
    exact hQ _ _ _ _ hB0 ⟨rfl, (Fr.refl _ _), (by have q4 : ((I 97 12) : Int32).toInt = (I 97 12).toInt := rfl; have q5 : ((I 97 14) : Int32).toInt = (I 97 14).toInt := rfl; have q6 : ((I 97 16) : Int32).toInt = (I 97 16).toInt := rfl; omega)⟩
set_option maxHeartbeats 2000000 in
theorem sp_X12_mayBe {d : Nat} {Q : Qt} {v1 : Int32} {v2 : Int32} {I : Im} {J : Jm} {R : Rm} (hB0 : Bd I) (hR0 : RI R) (hQ : ∀ (x : Int32) (y : Int64) (I2 : Im) (J2 : Jm), Bd I2 → (I2 97 27 = I 97 27 ∧ I2 97 14 = I 97 14 ∧ I2 97 16 = I 97 16 ∧ I2 97 17 = I 97 17 ∧ Fr pT I I2 ∧ (((I 97 12).toInt = 0 ∨ 1 ≤ (I2 97 12).toInt) ∧ (1 ≤ (I2 97 12).toInt ∨ ((I 97 14).toInt = 2 ∧ v1.toInt ≤ (I2 97 17).toInt ∧ (I2 97 17).toInt ≤ v2.toInt)))) → Q x y I2 J2 R) : AM (d + 3) 215 112 [.ref 97, .int v1, .int v2] I J R Q := by
  have i_v1 := i32 v1
  have i_v2 := i32 v2
  refine am_X12_mayBe (fun P hc => ?_)
  have L : ∀ n : Nat, (∀ (M : Im) (JM : Jm), Bd M → (M 97 27 = I 97 27) → (M 97 14 = I 97 14) → (M 97 16 = I 97 16) → (M 97 17 = I 97 17) → Fr pT I M → (((I 97 12).toInt = 0 ∨ 1 ≤ (M 97 12).toInt) ∧ (1 ≤ (M 97 12).toInt ∨ (I 97 14).toInt = 2)) → 1 < (n : Int) → P 19 112 [(0, .ref 97), (1, .int v1), (2, .int v2)] [] M JM R) := by
    intro n
    induction n with
    | zero =>
      exact fun  M J _ _ _ _ _ _ hi hm => absurd hm (by omega)
    | succ n ih =>
      intro  M JM hB hk_97_27 hk_97_14 hk_97_16 hk_97_17 hf hi hm
      have i_v1 := i32 v1
      have i_v2 := i32 v2
      refine sg_X12_mayBe_19 hc _ _ _ _ _ ?_
      have b1 := Bd.o hB io9_112_97_12 bd9_12_12
      refine ⟨fun c2 => ?_, fun c2 => ?_⟩
      · skip
        have d3 : ¬ (((M 97 12).toInt) : Int) = (0) := ci_ne rfl rfl c2
        have b4 := Bd.o hB0 io9_112_97_12 bd9_12_12
        have b5 := Bd.o hB0 io9_112_97_12 bd9_12_14
        have e6 : ((M 97 17) : Int32).toInt = (I 97 17).toInt := Eq.trans (congrArg Int32.toInt hk_97_17) rfl
        exact hQ _ _ _ _ hB ⟨hk_97_27, hk_97_14, hk_97_16, hk_97_17, hf, (by have q3 : ((M 97 12) : Int32).toInt = (M 97 12).toInt := rfl; have q4 : ((M 97 17) : Int32).toInt = (I 97 17).toInt := e6; omega)⟩
      · skip
        have d7 : (((M 97 12).toInt) : Int) = (0) := ci_eq rfl rfl c2
        refine w_X12_isIn ?_
        refine ⟨fun c8 => ?_, fun c8 => ?_⟩
        · skip
          rw [lg_cmp_lt] at c8
          have e9 : ((M 97 17) : Int32).toInt = (I 97 17).toInt := Eq.trans (congrArg Int32.toInt hk_97_17) rfl
          have i10 := i32 ((M 97 17))
          have d11 : (((I 97 17).toInt) : Int) < (v1.toInt) := cl_lt (tl_i2l e9) (tl_i2l rfl) c8
          refine ⟨Or.inl rfl, ?_⟩
          intro o12
          refine ⟨fun c13 => ?_, fun c13 => ?_⟩
          · exact absurd c13 (by decide)
          · skip
            refine sp_X12_fail hB hR0 (by have z : (4 : Int32).toInt = 4 := rfl; omega) (fun x14 y19 I15 J16 hB17 p18 => ?_)
            have f20 : Fr pT M I15 := p18.2.2.2.2.1
            have f21 : Fr pT I I15 := Fr.tr hf f20 (fun _ _ => trivial)
            have q22 : (4 : Int32).toInt = 4 := rfl
            have b23 := Bd.o hB io9_112_97_12 bd9_12_15
            have q24 : ((M 97 15) : Int32).toInt = (M 97 15).toInt := rfl
            have b25 := Bd.o hB17 io9_112_97_12 bd9_12_12
            have b26 := Bd.o hB0 io9_112_97_12 bd9_12_12
            have b27 := Bd.o hB0 io9_112_97_12 bd9_12_14
            have e28 : ((I15 97 17) : Int32).toInt = (I 97 17).toInt := Eq.trans (congrArg Int32.toInt (Eq.trans p18.2.2.2.1 hk_97_17)) rfl
            exact hQ _ _ _ _ hB17 ⟨(Eq.trans p18.1 hk_97_27), (Eq.trans p18.2.1 hk_97_14), (Eq.trans p18.2.2.1 hk_97_16), (Eq.trans p18.2.2.2.1 hk_97_17), f21, (by have q3 : ((I15 97 12) : Int32).toInt = (I15 97 12).toInt := rfl; have q4 : ((I15 97 17) : Int32).toInt = (I 97 17).toInt := e28; omega)⟩
        · skip
          rw [lg_cmp_lt] at c8
          have e29 : ((M 97 17) : Int32).toInt = (I 97 17).toInt := Eq.trans (congrArg Int32.toInt hk_97_17) rfl
          have i30 := i32 ((M 97 17))
          have d31 : ((v1.toInt) : Int) ≤ ((I 97 17).toInt) := cl_nlt (tl_i2l e29) (tl_i2l rfl) c8
          refine ⟨fun c32 => ?_, fun c32 => ?_⟩
          · skip
            rw [lg_cmp_gt] at c32
            have d33 : ((v2.toInt) : Int) < ((I 97 17).toInt) := cl_lt (tl_i2l rfl) (tl_i2l e29) c32
            refine ⟨Or.inl rfl, ?_⟩
            intro o34
            refine ⟨fun c35 => ?_, fun c35 => ?_⟩
            · exact absurd c35 (by decide)
            · skip
              refine sp_X12_fail hB hR0 (by have z : (4 : Int32).toInt = 4 := rfl; omega) (fun x36 y41 I37 J38 hB39 p40 => ?_)
              have f42 : Fr pT M I37 := p40.2.2.2.2.1
              have f43 : Fr pT I I37 := Fr.tr hf f42 (fun _ _ => trivial)
              have q44 : (4 : Int32).toInt = 4 := rfl
              have b45 := Bd.o hB io9_112_97_12 bd9_12_15
              have q46 : ((M 97 15) : Int32).toInt = (M 97 15).toInt := rfl
              have b47 := Bd.o hB39 io9_112_97_12 bd9_12_12
              have b48 := Bd.o hB0 io9_112_97_12 bd9_12_12
              have b49 := Bd.o hB0 io9_112_97_12 bd9_12_14
              have e50 : ((I37 97 17) : Int32).toInt = (I 97 17).toInt := Eq.trans (congrArg Int32.toInt (Eq.trans p40.2.2.2.1 hk_97_17)) rfl
              exact hQ _ _ _ _ hB39 ⟨(Eq.trans p40.1 hk_97_27), (Eq.trans p40.2.1 hk_97_14), (Eq.trans p40.2.2.1 hk_97_16), (Eq.trans p40.2.2.2.1 hk_97_17), f43, (by have q3 : ((I37 97 12) : Int32).toInt = (I37 97 12).toInt := rfl; have q4 : ((I37 97 17) : Int32).toInt = (I 97 17).toInt := e50; omega)⟩
          · skip
            rw [lg_cmp_gt] at c32
            have d51 : (((I 97 17).toInt) : Int) ≤ (v2.toInt) := cl_nlt (tl_i2l rfl) (tl_i2l e29) c32
            refine ⟨Or.inr rfl, ?_⟩
            intro o52
            refine ⟨fun c53 => ?_, fun c53 => ?_⟩
            · skip
              have b54 := Bd.o hB0 io9_112_97_12 bd9_12_12
              have b55 := Bd.o hB0 io9_112_97_12 bd9_12_14
              exact hQ _ _ _ _ hB ⟨hk_97_27, hk_97_14, hk_97_16, hk_97_17, hf, (by have q3 : ((M 97 12) : Int32).toInt = (M 97 12).toInt := rfl; have q4 : ((M 97 17) : Int32).toInt = (I 97 17).toInt := e29; omega)⟩
            · exact absurd c53 (by decide)
  refine sg_X12_mayBe_0 hc _ _ _ _ _ ?_
  refine ⟨fun c56 => ?_, fun c56 => ?_⟩
  · skip
    have b57 := Bd.o hB0 io9_112_97_12 bd9_12_12
    have d58 : ¬ (((I 97 12).toInt) : Int) = (0) := ci_ne rfl rfl c56
    exact (L 1000000) _ _ hB0 rfl rfl rfl rfl (Fr.refl _ _) (by have q0 : ((I 97 12) : Int32).toInt = (I 97 12).toInt := rfl; have q1 : ((I 97 12) : Int32).toInt = (I 97 12).toInt := rfl; omega) (by omega)
  · skip
    have b59 := Bd.o hB0 io9_112_97_12 bd9_12_12
    have d60 : (((I 97 12).toInt) : Int) = (0) := ci_eq rfl rfl c56
    refine ⟨fun c61 => ?_, fun c61 => ?_⟩
    · skip
      have b62 := Bd.o hB0 io9_112_97_12 bd9_12_14
      have d63 : (((I 97 14).toInt) : Int) = (2) := ci_eq rfl rfl c61
      exact (L 1000000) _ _ hB0 rfl rfl rfl rfl (Fr.refl _ _) (by have q0 : ((I 97 12) : Int32).toInt = (I 97 12).toInt := rfl; have q1 : ((I 97 12) : Int32).toInt = (I 97 12).toInt := rfl; omega) (by omega)
    · skip
      have b64 := Bd.o hB0 io9_112_97_12 bd9_12_14
      have d65 : ¬ (((I 97 14).toInt) : Int) = (2) := ci_ne rfl rfl c61
      refine sp_X12_amiss hB0 hR0 (fun x66 y71 I67 J68 hB69 p70 => ?_)
      have f72 : Fr pT I I67 := p70.2.2.2.2.1
      have f73 : Fr pT I I67 := Fr.tr (Fr.refl _ _) f72 (fun _ _ => trivial)
      have b74 := Bd.o hB69 io9_112_97_12 bd9_12_12
      exact (L 1000000) _ _ hB69 p70.1 p70.2.1 p70.2.2.1 p70.2.2.2.1 f73 (by have q0 : ((I67 97 12) : Int32).toInt = (I67 97 12).toInt := rfl; have q1 : ((I67 97 12) : Int32).toInt = (I67 97 12).toInt := rfl; omega) (by first | (clear b59 d60 b64 d65; omega) | omega)
set_option maxHeartbeats 2000000 in
theorem sp_X12_count {d : Nat} {Q : Qt} {v1 : Int32} {v2 : Int32} {I : Im} {J : Jm} {R : Rm} (hB0 : Bd I) (hR0 : RI R) (hQ : ∀ (x : Int32) (y : Int64) (I2 : Im) (J2 : Jm), Bd I2 → (I2 97 27 = I 97 27 ∧ Fr pT I I2 ∧ ((2 * (901 - (I2 97 16).toInt) + min (I2 97 14).toInt 1) ≤ (2 * (901 - (I 97 16).toInt) + min (I 97 14).toInt 1) ∧ ((I 97 12).toInt = 0 ∨ 1 ≤ (I2 97 12).toInt) ∧ (1 ≤ (I2 97 12).toInt ∧ x.toInt = 0 ∨ (v1.toInt ≤ x.toInt ∧ x.toInt ≤ v2.toInt ∧ (2 * (901 - (I2 97 16).toInt) + min (I2 97 14).toInt 1) < (2 * (901 - (I 97 16).toInt) + min (I 97 14).toInt 1))))) → Q x y I2 J2 R) : AM (d + 4) 216 112 [.ref 97, .int v1, .int v2] I J R Q := by
  have i_v1 := i32 v1
  have i_v2 := i32 v2
  refine w_X12_count ?_
  refine sp_X12_mayBe hB0 hR0 (fun x1 y6 I2 J3 hB4 p5 => ?_)
  have f7 : Fr pT I I2 := p5.2.2.2.2.1
  have f8 : Fr pT I I2 := Fr.tr (Fr.refl _ _) f7 (fun _ _ => trivial)
  have b9 := Bd.o hB0 io9_112_97_12 bd9_12_12
  have b10 := Bd.o hB0 io9_112_97_12 bd9_12_14
  have b11 := Bd.o hB4 io9_112_97_12 bd9_12_12
  have e12 : ((I2 97 17) : Int32).toInt = (I 97 17).toInt := Eq.trans (congrArg Int32.toInt p5.2.2.2.1) rfl
  refine ⟨fun c13 => ?_, fun c13 => ?_⟩
  · skip
    have d14 : (((I2 97 12).toInt) : Int) ≤ (0) := ci_le rfl rfl c13
    refine sp_X12_advance hB4 hR0 (fun x15 y20 I16 J17 hB18 p19 => ?_)
    have f21 : Fr pT I2 I16 := p19.2.2.1
    have f22 : Fr pT I I16 := Fr.tr f8 f21 (fun _ _ => trivial)
    have e23 : ((I2 97 14) : Int32).toInt = (I 97 14).toInt := Eq.trans (congrArg Int32.toInt p5.2.1) rfl
    have b24 := Bd.o hB0 io9_112_97_12 bd9_12_16
    have e25 : ((I2 97 16) : Int32).toInt = (I 97 16).toInt := Eq.trans (congrArg Int32.toInt p5.2.2.1) rfl
    have b26 := Bd.o hB18 io9_112_97_12 bd9_12_14
    have b27 := Bd.o hB18 io9_112_97_12 bd9_12_16
    have e28 : ((I16 97 12) : Int32).toInt = (I2 97 12).toInt := Eq.trans (congrArg Int32.toInt p19.1) rfl
    exact hQ _ _ _ _ hB18 ⟨(Eq.trans p19.2.1 p5.1), f22, (by have q4 : ((I16 97 12) : Int32).toInt = (I2 97 12).toInt := e28; have q5 : ((I16 97 14) : Int32).toInt = (I16 97 14).toInt := rfl; have q6 : ((I16 97 16) : Int32).toInt = (I16 97 16).toInt := rfl; have q0 : ((I2 97 17) : Int32).toInt = (I 97 17).toInt := e12; omega)⟩
  · skip
    have d29 : ((0) : Int) < ((I2 97 12).toInt) := ci_nle rfl rfl c13
    have b30 := Bd.o hB0 io9_112_97_12 bd9_12_16
    have e31 : ((I2 97 14) : Int32).toInt = (I 97 14).toInt := Eq.trans (congrArg Int32.toInt p5.2.1) rfl
    have e32 : ((I2 97 16) : Int32).toInt = (I 97 16).toInt := Eq.trans (congrArg Int32.toInt p5.2.2.1) rfl
    exact hQ _ _ _ _ hB4 ⟨p5.1, f8, (by have q4 : ((I2 97 12) : Int32).toInt = (I2 97 12).toInt := rfl; have q5 : ((I2 97 14) : Int32).toInt = (I 97 14).toInt := e31; have q6 : ((I2 97 16) : Int32).toInt = (I 97 16).toInt := e32; have q0 : (0 : Int32).toInt = 0 := rfl; omega)⟩
set_option maxHeartbeats 2000000 in
theorem sp_X12_behindWord {d : Nat} {Q : Qt} {v1 : Int32} {v2 : Int32} {v3 : Int32} {I : Im} {J : Jm} {R : Rm} (hB0 : Bd I) (hR0 : RI R) (hQ : ∀ (x : Int32) (y : Int64) (I2 : Im) (J2 : Jm), Bd I2 → (I2 97 27 = I 97 27 ∧ Fr pT I I2 ∧ ((2 * (901 - (I2 97 16).toInt) + min (I2 97 14).toInt 1) ≤ (2 * (901 - (I 97 16).toInt) + min (I 97 14).toInt 1) ∧ ((I 97 12).toInt = 0 ∨ 1 ≤ (I2 97 12).toInt) ∧ (1 ≤ (I2 97 12).toInt ∧ x.toInt = 0 ∨ (v2.toInt ≤ x.toInt ∧ x.toInt ≤ v3.toInt)))) → Q x y I2 J2 R) : AM (d + 5) 217 112 [.ref 97, .int v1, .int v2, .int v3] I J R Q := by
  have i_v1 := i32 v1
  have i_v2 := i32 v2
  have i_v3 := i32 v3
  refine w_X12_behindWord ?_
  refine sp_X12_must hB0 hR0 (fun x1 y6 I2 J3 hB4 p5 => ?_)
  have f7 : Fr pT I I2 := p5.2.1
  have f8 : Fr pT I I2 := Fr.tr (Fr.refl _ _) f7 (fun _ _ => trivial)
  have b9 := Bd.o hB0 io9_112_97_12 bd9_12_12
  have b10 := Bd.o hB0 io9_112_97_12 bd9_12_14
  have b11 := Bd.o hB0 io9_112_97_12 bd9_12_16
  have b12 := Bd.o hB4 io9_112_97_12 bd9_12_12
  have b13 := Bd.o hB4 io9_112_97_12 bd9_12_14
  have b14 := Bd.o hB4 io9_112_97_12 bd9_12_16
  refine sp_X12_count hB4 hR0 (fun x15 y20 I16 J17 hB18 p19 => ?_)
  have f21 : Fr pT I2 I16 := p19.2.1
  have f22 : Fr pT I I16 := Fr.tr f8 f21 (fun _ _ => trivial)
  have b23 := Bd.o hB18 io9_112_97_12 bd9_12_12
  have b24 := Bd.o hB18 io9_112_97_12 bd9_12_14
  have b25 := Bd.o hB18 io9_112_97_12 bd9_12_16
  have i26 := i32 x15
  exact hQ _ _ _ _ hB18 ⟨(Eq.trans p19.1 p5.1), f22, (by have q4 : ((I16 97 12) : Int32).toInt = (I16 97 12).toInt := rfl; have q5 : ((I16 97 14) : Int32).toInt = (I16 97 14).toInt := rfl; have q6 : ((I16 97 16) : Int32).toInt = (I16 97 16).toInt := rfl; have q0 : (x15 : Int32).toInt = x15.toInt := rfl; omega)⟩
set_option maxHeartbeats 2000000 in
theorem sp_X12_perhaps {d : Nat} {Q : Qt} {v1 : Int32} {I : Im} {J : Jm} {R : Rm} (hB0 : Bd I) (hR0 : RI R) (hQ : ∀ (x : Int32) (y : Int64) (I2 : Im) (J2 : Jm), Bd I2 → (I2 97 27 = I 97 27 ∧ Fr pT I I2 ∧ ((2 * (901 - (I2 97 16).toInt) + min (I2 97 14).toInt 1) ≤ (2 * (901 - (I 97 16).toInt) + min (I 97 14).toInt 1) ∧ ((I 97 12).toInt = 0 ∨ 1 ≤ (I2 97 12).toInt))) → Q x y I2 J2 R) : AM (d + 3) 218 112 [.ref 97, .int v1] I J R Q := by
  have i_v1 := i32 v1
  refine w_X12_perhaps ?_
  refine ⟨fun c1 => ?_, fun c1 => ?_⟩
  · skip
    have b2 := Bd.o hB0 io9_112_97_12 bd9_12_12
    have d3 : ((0) : Int) < ((I 97 12).toInt) := ci_lt rfl rfl c1
    refine ⟨Or.inl rfl, ?_⟩
    have b4 := Bd.o hB0 io9_112_97_12 bd9_12_14
    have b5 := Bd.o hB0 io9_112_97_12 bd9_12_16
    exact hQ _ _ _ _ hB0 ⟨rfl, (Fr.refl _ _), (by have q4 : ((I 97 12) : Int32).toInt = (I 97 12).toInt := rfl; have q5 : ((I 97 14) : Int32).toInt = (I 97 14).toInt := rfl; have q6 : ((I 97 16) : Int32).toInt = (I 97 16).toInt := rfl; have q0 : (0 : Int32).toInt = 0 := rfl; omega)⟩
  · skip
    have b6 := Bd.o hB0 io9_112_97_12 bd9_12_12
    have d7 : (((I 97 12).toInt) : Int) ≤ (0) := ci_nlt rfl rfl c1
    refine ⟨fun c8 => ?_, fun c8 => ?_⟩
    · skip
      have d9 : ¬ ((v1.toInt) : Int) = (0) := ci_ne rfl rfl c8
      refine sp_X12_advance hB0 hR0 (fun x10 y15 I11 J12 hB13 p14 => ?_)
      have f16 : Fr pT I I11 := p14.2.2.1
      have f17 : Fr pT I I11 := Fr.tr (Fr.refl _ _) f16 (fun _ _ => trivial)
      have b18 := Bd.o hB0 io9_112_97_12 bd9_12_14
      have b19 := Bd.o hB0 io9_112_97_12 bd9_12_16
      have b20 := Bd.o hB13 io9_112_97_12 bd9_12_14
      have b21 := Bd.o hB13 io9_112_97_12 bd9_12_16
      refine ⟨Or.inr rfl, ?_⟩
      have e22 : ((I11 97 12) : Int32).toInt = (I 97 12).toInt := Eq.trans (congrArg Int32.toInt p14.1) rfl
      exact hQ _ _ _ _ hB13 ⟨p14.2.1, f17, (by have q4 : ((I11 97 12) : Int32).toInt = (I 97 12).toInt := e22; have q5 : ((I11 97 14) : Int32).toInt = (I11 97 14).toInt := rfl; have q6 : ((I11 97 16) : Int32).toInt = (I11 97 16).toInt := rfl; have q0 : (1 : Int32).toInt = 1 := rfl; omega)⟩
    · skip
      have d23 : ((v1.toInt) : Int) = (0) := ci_eq rfl rfl c8
      refine ⟨Or.inl rfl, ?_⟩
      have b24 := Bd.o hB0 io9_112_97_12 bd9_12_14
      have b25 := Bd.o hB0 io9_112_97_12 bd9_12_16
      exact hQ _ _ _ _ hB0 ⟨rfl, (Fr.refl _ _), (by have q4 : ((I 97 12) : Int32).toInt = (I 97 12).toInt := rfl; have q5 : ((I 97 14) : Int32).toInt = (I 97 14).toInt := rfl; have q6 : ((I 97 16) : Int32).toInt = (I 97 16).toInt := rfl; have q0 : (0 : Int32).toInt = 0 := rfl; omega)⟩
set_option maxHeartbeats 2000000 in
theorem sp_X12_starts {d : Nat} {Q : Qt} {v1 : Int32} {v2 : Int32} {I : Im} {J : Jm} {R : Rm} (hB0 : Bd I) (hR0 : RI R) (hQ : ∀ (x : Int32) (y : Int64) (I2 : Im) (J2 : Jm), Bd I2 → (Fr pT I I2 ∧ ((x.toInt = 0 ∨ (I2 97 12).toInt = 0) ∧ ((x.toInt = 0 ∧ (v1.toInt < 0 ∨ (I 97 8).toInt < v1.toInt ∨ v2.toInt < v1.toInt) ∧ (I2 97 8).toInt = (I 97 8).toInt) ∨ (x.toInt = 1 ∧ 0 ≤ v1.toInt ∧ v1.toInt ≤ (I 97 8).toInt ∧ v1.toInt ≤ v2.toInt ∧ (I2 97 8).toInt = 0)))) → Q x y I2 J2 R) : AM (d + 3) 222 112 [.ref 97, .int v1, .int v2] I J R Q := by
  have i_v1 := i32 v1
  have i_v2 := i32 v2
  refine w_X12_starts ?_
  refine ⟨fun c1 => ?_, fun c1 => ?_⟩
  · skip
    have d2 : ((v1.toInt) : Int) < (0) := ci_lt rfl rfl c1
    refine w_X12_no ?_
    have hB3 : Bd (uI I 97 0 5) := Bd.o0 hB0 io9_112_97_12 (by decide) bd9_12_0
    have f4 : Fr pT I (uI I 97 0 5) := Fr.o (Fr.refl _ _) (by decide) (by decide)
    refine ⟨Or.inl rfl, ?_⟩
    intro o5
    refine ⟨Or.inl rfl, ?_⟩
    have b6 := Bd.o hB0 io9_112_97_12 bd9_12_8
    have b7 := Bd.o hB0 io9_112_97_12 bd9_12_12
    have e8 : (((uI I 97 0 5) 97 12) : Int32).toInt = (I 97 12).toInt := Eq.trans (congrArg Int32.toInt (rd_k (by decide))) rfl
    have e9 : (((uI I 97 0 5) 97 8) : Int32).toInt = (I 97 8).toInt := Eq.trans (congrArg Int32.toInt (rd_k (by decide))) rfl
    exact hQ _ _ _ _ hB3 ⟨f4, (by have q2 : (((uI I 97 0 5) 97 12) : Int32).toInt = (I 97 12).toInt := e8; have q3 : (((uI I 97 0 5) 97 8) : Int32).toInt = (I 97 8).toInt := e9; have q0 : (0 : Int32).toInt = 0 := rfl; omega)⟩
  · skip
    have d10 : ((0) : Int) ≤ (v1.toInt) := ci_nlt rfl rfl c1
    refine ⟨fun c11 => ?_, fun c11 => ?_⟩
    · skip
      have b12 := Bd.o hB0 io9_112_97_12 bd9_12_8
      have d13 : (((I 97 8).toInt) : Int) < (v1.toInt) := ci_lt rfl rfl c11
      refine w_X12_no ?_
      have hB14 : Bd (uI I 97 0 5) := Bd.o0 hB0 io9_112_97_12 (by decide) bd9_12_0
      have f15 : Fr pT I (uI I 97 0 5) := Fr.o (Fr.refl _ _) (by decide) (by decide)
      refine ⟨Or.inl rfl, ?_⟩
      intro o16
      refine ⟨Or.inl rfl, ?_⟩
      have b17 := Bd.o hB0 io9_112_97_12 bd9_12_12
      have e18 : (((uI I 97 0 5) 97 12) : Int32).toInt = (I 97 12).toInt := Eq.trans (congrArg Int32.toInt (rd_k (by decide))) rfl
      have e19 : (((uI I 97 0 5) 97 8) : Int32).toInt = (I 97 8).toInt := Eq.trans (congrArg Int32.toInt (rd_k (by decide))) rfl
      exact hQ _ _ _ _ hB14 ⟨f15, (by have q2 : (((uI I 97 0 5) 97 12) : Int32).toInt = (I 97 12).toInt := e18; have q3 : (((uI I 97 0 5) 97 8) : Int32).toInt = (I 97 8).toInt := e19; have q0 : (0 : Int32).toInt = 0 := rfl; omega)⟩
    · skip
      have b20 := Bd.o hB0 io9_112_97_12 bd9_12_8
      have d21 : ((v1.toInt) : Int) ≤ ((I 97 8).toInt) := ci_nlt rfl rfl c11
      refine ⟨fun c22 => ?_, fun c22 => ?_⟩
      · skip
        have d23 : ((v1.toInt) : Int) ≤ (v2.toInt) := ci_le rfl rfl c22
        have hB24 : Bd (uI I 97 9 v1) := Bd.o1 hB0 io9_112_97_12 (by decide) bd9_12_9 (show (v1 : Int32).toInt = v1.toInt from rfl) (by omega)
        have f25 : Fr pT I (uI I 97 9 v1) := Fr.o (Fr.refl _ _) (by decide) (by decide)
        have hB26 : Bd (uI (uI I 97 9 v1) 97 8 0) := Bd.o1 hB24 io9_112_97_12 (by decide) bd9_12_8 (show (0 : Int32).toInt = 0 from rfl) (by omega)
        have f27 : Fr pT I (uI (uI I 97 9 v1) 97 8 0) := Fr.o f25 (by decide) (by decide)
        have hB28 : Bd (uI (uI (uI I 97 9 v1) 97 8 0) 97 16 0) := Bd.o1 hB26 io9_112_97_12 (by decide) bd9_12_16 (show (0 : Int32).toInt = 0 from rfl) (by omega)
        have f29 : Fr pT I (uI (uI (uI I 97 9 v1) 97 8 0) 97 16 0) := Fr.o f27 (by decide) (by decide)
        have hB30 : Bd (uI (uI (uI (uI I 97 9 v1) 97 8 0) 97 16 0) 97 12 0) := Bd.o1 hB28 io9_112_97_12 (by decide) bd9_12_12 (show (0 : Int32).toInt = 0 from rfl) (by omega)
        have f31 : Fr pT I (uI (uI (uI (uI I 97 9 v1) 97 8 0) 97 16 0) 97 12 0) := Fr.o f29 (by decide) (by decide)
        refine kp1 rfl (sp_X12_advance hB30 hR0 (fun x32 y37 I33 J34 hB35 p36 kq38 => ?_))
        have f39 : Fr pT (uI (uI (uI (uI I 97 9 v1) 97 8 0) 97 16 0) 97 12 0) I33 := p36.2.2.1
        have f40 : Fr pT I I33 := Fr.tr f31 f39 (fun _ _ => trivial)
        have b41 := Bd.o hB0 io9_112_97_12 bd9_12_14
        have e42 : (((uI (uI (uI (uI I 97 9 v1) 97 8 0) 97 16 0) 97 12 0) 97 14) : Int32).toInt = (I 97 14).toInt := Eq.trans (congrArg Int32.toInt (Eq.trans (Eq.trans (Eq.trans (rd_k (by decide)) (rd_k (by decide))) (rd_k (by decide))) (rd_k (by decide)))) rfl
        have e43 : (((uI (uI (uI (uI I 97 9 v1) 97 8 0) 97 16 0) 97 12 0) 97 16) : Int32).toInt = 0 := Eq.trans (congrArg Int32.toInt (Eq.trans (rd_k (by decide)) rd_eq)) rfl
        have b44 := Bd.o hB35 io9_112_97_12 bd9_12_14
        have b45 := Bd.o hB35 io9_112_97_12 bd9_12_16
        refine ⟨Or.inr rfl, ?_⟩
        have e46 : ((I33 97 12) : Int32).toInt = 0 := Eq.trans (congrArg Int32.toInt (Eq.trans p36.1 rd_eq)) rfl
        have e47 : ((I33 97 8) : Int32).toInt = 0 := Eq.trans (congrArg Int32.toInt (Eq.trans (Eq.trans (Eq.trans kq38 (rd_k (by decide))) (rd_k (by decide))) rd_eq)) rfl
        exact hQ _ _ _ _ hB35 ⟨f40, (by have q2 : ((I33 97 12) : Int32).toInt = 0 := e46; have q3 : ((I33 97 8) : Int32).toInt = 0 := e47; have q0 : (1 : Int32).toInt = 1 := rfl; omega)⟩
      · skip
        have d48 : ((v2.toInt) : Int) < (v1.toInt) := ci_nle rfl rfl c22
        refine w_X12_no ?_
        have hB49 : Bd (uI I 97 0 5) := Bd.o0 hB0 io9_112_97_12 (by decide) bd9_12_0
        have f50 : Fr pT I (uI I 97 0 5) := Fr.o (Fr.refl _ _) (by decide) (by decide)
        refine ⟨Or.inl rfl, ?_⟩
        intro o51
        refine ⟨Or.inl rfl, ?_⟩
        have b52 := Bd.o hB0 io9_112_97_12 bd9_12_12
        have e53 : (((uI I 97 0 5) 97 12) : Int32).toInt = (I 97 12).toInt := Eq.trans (congrArg Int32.toInt (rd_k (by decide))) rfl
        have e54 : (((uI I 97 0 5) 97 8) : Int32).toInt = (I 97 8).toInt := Eq.trans (congrArg Int32.toInt (rd_k (by decide))) rfl
        exact hQ _ _ _ _ hB49 ⟨f50, (by have q2 : (((uI I 97 0 5) 97 12) : Int32).toInt = (I 97 12).toInt := e53; have q3 : (((uI I 97 0 5) 97 8) : Int32).toInt = (I 97 8).toInt := e54; have q0 : (0 : Int32).toInt = 0 := rfl; omega)⟩
set_option maxHeartbeats 2000000 in
theorem sp_X12_isWell {d : Nat} {Q : Qt} {I : Im} {J : Jm} {R : Rm} (hB0 : Bd I) (hR0 : RI R) (hQ : ∀ (x : Int32) (y : Int64) (I2 : Im) (J2 : Jm), Bd I2 → (I2 97 27 = I 97 27 ∧ Fr pT I I2 ∧ ((x.toInt = 0 ∨ (I 97 12).toInt = 0) ∧ (¬ x.toInt = 0 ∨ ¬ (I 97 12).toInt = 0))) → Q x y I2 J2 R) : AM (d + 2) 223 112 [.ref 97] I J R Q := by
  refine w_X12_isWell ?_
  have hB1 : Bd (uI I 97 10 (I 97 12)) := Bd.o0 hB0 io9_112_97_12 (by decide) bd9_12_10
  have f2 : Fr pT I (uI I 97 10 (I 97 12)) := Fr.o (Fr.refl _ _) (by decide) (by decide)
  refine ⟨fun c3 => ?_, fun c3 => ?_⟩
  · skip
    have b4 := Bd.o hB0 io9_112_97_12 bd9_12_12
    have e5 : (((uI I 97 10 (I 97 12)) 97 12) : Int32).toInt = (I 97 12).toInt := Eq.trans (congrArg Int32.toInt (rd_k (by decide))) rfl
    have d6 : ¬ (((I 97 12).toInt) : Int) = (0) := ci_ne e5 rfl c3
    have hB7 : Bd (uI (uI I 97 10 (I 97 12)) 97 11 ((uI I 97 10 (I 97 12)) 97 13)) := Bd.o0 hB1 io9_112_97_12 (by decide) bd9_12_11
    have f8 : Fr pT I (uI (uI I 97 10 (I 97 12)) 97 11 ((uI I 97 10 (I 97 12)) 97 13)) := Fr.o f2 (by decide) (by decide)
    refine ⟨fun c9 => ?_, fun c9 => ?_⟩
    · skip
      have e10 : (((uI (uI I 97 10 (I 97 12)) 97 11 ((uI I 97 10 (I 97 12)) 97 13)) 97 12) : Int32).toInt = (I 97 12).toInt := Eq.trans (congrArg Int32.toInt (Eq.trans (rd_k (by decide)) (rd_k (by decide)))) rfl
      have d11 : (((I 97 12).toInt) : Int) = (0) := ci_eq e10 rfl c9
      refine ⟨Or.inr rfl, ?_⟩
      exact hQ _ _ _ _ hB7 ⟨(Eq.trans (rd_k (by decide)) (rd_k (by decide))), f8, (by have q0 : (1 : Int32).toInt = 1 := rfl; omega)⟩
    · skip
      have e12 : (((uI (uI I 97 10 (I 97 12)) 97 11 ((uI I 97 10 (I 97 12)) 97 13)) 97 12) : Int32).toInt = (I 97 12).toInt := Eq.trans (congrArg Int32.toInt (Eq.trans (rd_k (by decide)) (rd_k (by decide)))) rfl
      have d13 : ¬ (((I 97 12).toInt) : Int) = (0) := ci_ne e12 rfl c9
      refine w_X12_no ?_
      have hB14 : Bd (uI (uI (uI I 97 10 (I 97 12)) 97 11 ((uI I 97 10 (I 97 12)) 97 13)) 97 0 10) := Bd.o0 hB7 io9_112_97_12 (by decide) bd9_12_0
      have f15 : Fr pT I (uI (uI (uI I 97 10 (I 97 12)) 97 11 ((uI I 97 10 (I 97 12)) 97 13)) 97 0 10) := Fr.o f8 (by decide) (by decide)
      refine ⟨Or.inl rfl, ?_⟩
      intro o16
      refine ⟨fun c17 => ?_, fun c17 => ?_⟩
      · skip
        refine ⟨Or.inl rfl, ?_⟩
        exact hQ _ _ _ _ hB14 ⟨(Eq.trans (Eq.trans (rd_k (by decide)) (rd_k (by decide))) (rd_k (by decide))), f15, (by have q0 : (0 : Int32).toInt = 0 := rfl; omega)⟩
      · exact absurd c17 (by decide)
  · skip
    have b18 := Bd.o hB0 io9_112_97_12 bd9_12_12
    have e19 : (((uI I 97 10 (I 97 12)) 97 12) : Int32).toInt = (I 97 12).toInt := Eq.trans (congrArg Int32.toInt (rd_k (by decide))) rfl
    have d20 : (((I 97 12).toInt) : Int) = (0) := ci_eq e19 rfl c3
    have hB21 : Bd (uI (uI I 97 10 (I 97 12)) 97 11 (-1)) := Bd.o0 hB1 io9_112_97_12 (by decide) bd9_12_11
    have f22 : Fr pT I (uI (uI I 97 10 (I 97 12)) 97 11 (-1)) := Fr.o f2 (by decide) (by decide)
    refine ⟨fun c23 => ?_, fun c23 => ?_⟩
    · skip
      have e24 : (((uI (uI I 97 10 (I 97 12)) 97 11 (-1)) 97 12) : Int32).toInt = (I 97 12).toInt := Eq.trans (congrArg Int32.toInt (Eq.trans (rd_k (by decide)) (rd_k (by decide)))) rfl
      have d25 : (((I 97 12).toInt) : Int) = (0) := ci_eq e24 rfl c23
      refine ⟨Or.inr rfl, ?_⟩
      exact hQ _ _ _ _ hB21 ⟨(Eq.trans (rd_k (by decide)) (rd_k (by decide))), f22, (by have q0 : (1 : Int32).toInt = 1 := rfl; omega)⟩
    · skip
      have e26 : (((uI (uI I 97 10 (I 97 12)) 97 11 (-1)) 97 12) : Int32).toInt = (I 97 12).toInt := Eq.trans (congrArg Int32.toInt (Eq.trans (rd_k (by decide)) (rd_k (by decide)))) rfl
      have d27 : ¬ (((I 97 12).toInt) : Int) = (0) := ci_ne e26 rfl c23
      refine w_X12_no ?_
      have hB28 : Bd (uI (uI (uI I 97 10 (I 97 12)) 97 11 (-1)) 97 0 10) := Bd.o0 hB21 io9_112_97_12 (by decide) bd9_12_0
      have f29 : Fr pT I (uI (uI (uI I 97 10 (I 97 12)) 97 11 (-1)) 97 0 10) := Fr.o f22 (by decide) (by decide)
      refine ⟨Or.inl rfl, ?_⟩
      intro o30
      refine ⟨fun c31 => ?_, fun c31 => ?_⟩
      · skip
        refine ⟨Or.inl rfl, ?_⟩
        exact hQ _ _ _ _ hB28 ⟨(Eq.trans (Eq.trans (rd_k (by decide)) (rd_k (by decide))) (rd_k (by decide))), f29, (by have q0 : (0 : Int32).toInt = 0 := rfl; omega)⟩
      · exact absurd c31 (by decide)
set_option maxHeartbeats 2000000 in
theorem sp_X12_lay {d : Nat} {Q : Qt} {v1 : Int32} {I : Im} {J : Jm} {R : Rm} (hB0 : Bd I) (hR0 : RI R) (ht : (I 97 8).toInt ≤ 896) (hQ : ∀ (x : Int32) (y : Int64) (I2 : Im) (J2 : Jm), Bd I2 → (((I2 97 8).toInt = (I 97 8).toInt + 4)) → Q x y I2 J2 R) : AM (d + 1) 221 112 [.ref 97, .int v1] I J R Q := by
  have i_v1 := i32 v1
  refine am_X12_lay (fun P hc => ?_)
  have L : ∀ n : Nat, (∀ (v2 : Int32) (M : Im) (JM : Jm), Bd M → (-1 ≤ v2.toInt ∧ v2.toInt ≤ 3 ∧ (I 97 8).toInt ≤ 896 ∧ (M 97 8).toInt = (I 97 8).toInt + 3 - v2.toInt) → v2.toInt + 5 < (n : Int) → P 2 112 [(0, .ref 97), (1, .int v1), (2, .int v2)] [] M JM R) := by
    intro n
    induction n with
    | zero =>
      exact fun v2 M J _ hi hm => absurd hm (by omega)
    | succ n ih =>
      intro v2 M JM hB hi hm
      have i_v1 := i32 v1
      have i_v2 := i32 v2
      refine sg_X12_lay_2 hc _ _ _ _ _ ?_
      have b1 := Bd.o hB io9_112_97_12 bd9_12_8
      refine ⟨fun c2 => ?_, fun c2 => ?_⟩
      · skip
        have d3 : ((v2.toInt) : Int) < (0) := ci_lt rfl rfl c2
        have b4 := Bd.o hB0 io9_112_97_12 bd9_12_8
        exact hQ _ _ _ _ hB (by have q2 : ((M 97 8) : Int32).toInt = (M 97 8).toInt := rfl; omega)
      · skip
        have d5 : ((0) : Int) ≤ (v2.toInt) := ci_nlt rfl rfl c2
        refine ⟨vp_of (a := (M 97 8).toInt) rfl (by omega) (by omega), ?_⟩
        have hB6 : Bd (uI M 101 (Int32.toNatClampNeg (M 97 8)) (Int32.toInt8 (Int32.toInt8 (v1 >>> ((8 * v2) &&& 31))).toInt32).toInt32) := Bd.a0 hB (show isA 112 101 2 = true from rfl) (show bna 101 = none from rfl)
        have e8 : (((uI M 101 (Int32.toNatClampNeg (M 97 8)) (Int32.toInt8 (Int32.toInt8 (v1 >>> ((8 * v2) &&& 31))).toInt32).toInt32) 97 8) : Int32).toInt = (M 97 8).toInt := Eq.trans (congrArg Int32.toInt (rd_ne (by first | decide | omega))) rfl
        have e9 : ((((uI M 101 (Int32.toNatClampNeg (M 97 8)) (Int32.toInt8 (Int32.toInt8 (v1 >>> ((8 * v2) &&& 31))).toInt32).toInt32) 97 8) + 1) : Int32).toInt = ((M 97 8).toInt) + (1) := ti_add e8 rfl (by omega)
        have hB7 : Bd (uI (uI M 101 (Int32.toNatClampNeg (M 97 8)) (Int32.toInt8 (Int32.toInt8 (v1 >>> ((8 * v2) &&& 31))).toInt32).toInt32) 97 8 (((uI M 101 (Int32.toNatClampNeg (M 97 8)) (Int32.toInt8 (Int32.toInt8 (v1 >>> ((8 * v2) &&& 31))).toInt32).toInt32) 97 8) + 1)) := Bd.o1 hB6 io9_112_97_12 (by decide) bd9_12_8 (show ((((uI M 101 (Int32.toNatClampNeg (M 97 8)) (Int32.toInt8 (Int32.toInt8 (v1 >>> ((8 * v2) &&& 31))).toInt32).toInt32) 97 8) + 1) : Int32).toInt = ((M 97 8).toInt + 1) from e9) (by omega)
        have e10 : ((v2 + (-1)) : Int32).toInt = (v2.toInt) + ((-1)) := ti_add rfl rfl (by omega)
        have e11 : (((uI (uI M 101 (Int32.toNatClampNeg (M 97 8)) (Int32.toInt8 (Int32.toInt8 (v1 >>> ((8 * v2) &&& 31))).toInt32).toInt32) 97 8 (((uI M 101 (Int32.toNatClampNeg (M 97 8)) (Int32.toInt8 (Int32.toInt8 (v1 >>> ((8 * v2) &&& 31))).toInt32).toInt32) 97 8) + 1)) 97 8) : Int32).toInt = ((M 97 8).toInt + 1) := Eq.trans (congrArg Int32.toInt rd_eq) e9
        exact ih _ _ _ hB7 (by have q0 : ((v2 + (-1)) : Int32).toInt = (v2.toInt + (-1)) := e10; have q1 : (((uI (uI M 101 (Int32.toNatClampNeg (M 97 8)) (Int32.toInt8 (Int32.toInt8 (v1 >>> ((8 * v2) &&& 31))).toInt32).toInt32) 97 8 (((uI M 101 (Int32.toNatClampNeg (M 97 8)) (Int32.toInt8 (Int32.toInt8 (v1 >>> ((8 * v2) &&& 31))).toInt32).toInt32) 97 8) + 1)) 97 8) : Int32).toInt = ((M 97 8).toInt + 1) := e11; omega) (by have q0 : ((v2 + (-1)) : Int32).toInt = (v2.toInt + (-1)) := e10; omega)
  refine sg_X12_lay_0 hc _ _ _ _ ?_
  have b12 := Bd.o hB0 io9_112_97_12 bd9_12_8
  exact (L 1000000) _ _ _ hB0 (by have q0 : (3 : Int32).toInt = 3 := rfl; have q1 : ((I 97 8) : Int32).toInt = (I 97 8).toInt := rfl; omega) (by have q0 : (3 : Int32).toInt = 3 := rfl; omega)
set_option maxHeartbeats 2000000 in
theorem sp_X12_feed {d : Nat} {Q : Qt} {v1 : Int32} {v2 : Int32} {v3 : Int32} {v4 : Int32} {v5 : Int32} {I : Im} {J : Jm} {R : Rm} (hB0 : Bd I) (hR0 : RI R) (hQ : ∀ (x : Int32) (y : Int64) (I2 : Im) (J2 : Jm), Bd I2 → ((((I 97 8).toInt ≤ 880 ∧ x.toInt = (I 97 8).toInt + 20 ∧ (I2 97 8).toInt = (I 97 8).toInt + 20) ∨ (880 < (I 97 8).toInt ∧ x.toInt = -1 ∧ (I2 97 8).toInt = (I 97 8).toInt))) → Q x y I2 J2 R) : AM (d + 2) 220 112 [.ref 97, .int v1, .int v2, .int v3, .int v4, .int v5] I J R Q := by
  have i_v1 := i32 v1
  have i_v2 := i32 v2
  have i_v3 := i32 v3
  have i_v4 := i32 v4
  have i_v5 := i32 v5
  refine w_X12_feed ?_
  have hB1 : Bd (uI I 97 1 0) := Bd.o0 hB0 io9_112_97_12 (by decide) bd9_12_1
  refine ⟨fun c2 => ?_, fun c2 => ?_⟩
  · skip
    have b3 := Bd.o hB0 io9_112_97_12 bd9_12_8
    have e4 : (((uI I 97 1 0) 97 8) : Int32).toInt = (I 97 8).toInt := Eq.trans (congrArg Int32.toInt (rd_k (by decide))) rfl
    have e5 : ((((uI I 97 1 0) 97 8) + 20) : Int32).toInt = ((I 97 8).toInt) + (20) := ti_add e4 rfl (by omega)
    have d6 : ((((I 97 8).toInt + 20)) : Int) ≤ (900) := ci_le e5 rfl c2
    refine sp_X12_lay hB1 hR0 (by have z : (((uI I 97 1 0) 97 8) : Int32).toInt = (I 97 8).toInt := e4; omega) (fun x7 y12 I8 J9 hB10 p11 => ?_)
    have b13 := Bd.o hB10 io9_112_97_12 bd9_12_8
    refine sp_X12_lay hB10 hR0 (by have z : ((I8 97 8) : Int32).toInt = (I8 97 8).toInt := rfl; omega) (fun x14 y19 I15 J16 hB17 p18 => ?_)
    have b20 := Bd.o hB17 io9_112_97_12 bd9_12_8
    refine sp_X12_lay hB17 hR0 (by have z : ((I15 97 8) : Int32).toInt = (I15 97 8).toInt := rfl; omega) (fun x21 y26 I22 J23 hB24 p25 => ?_)
    have b27 := Bd.o hB24 io9_112_97_12 bd9_12_8
    refine sp_X12_lay hB24 hR0 (by have z : ((I22 97 8) : Int32).toInt = (I22 97 8).toInt := rfl; omega) (fun x28 y33 I29 J30 hB31 p32 => ?_)
    have b34 := Bd.o hB31 io9_112_97_12 bd9_12_8
    refine sp_X12_lay hB31 hR0 (by have z : ((I29 97 8) : Int32).toInt = (I29 97 8).toInt := rfl; omega) (fun x35 y40 I36 J37 hB38 p39 => ?_)
    have b41 := Bd.o hB38 io9_112_97_12 bd9_12_8
    exact hQ _ _ _ _ hB38 (by have q2 : ((I36 97 8) : Int32).toInt = (I36 97 8).toInt := rfl; have q0 : ((I36 97 8) : Int32).toInt = (I36 97 8).toInt := rfl; omega)
  · skip
    have b42 := Bd.o hB0 io9_112_97_12 bd9_12_8
    have e43 : (((uI I 97 1 0) 97 8) : Int32).toInt = (I 97 8).toInt := Eq.trans (congrArg Int32.toInt (rd_k (by decide))) rfl
    have e44 : ((((uI I 97 1 0) 97 8) + 20) : Int32).toInt = ((I 97 8).toInt) + (20) := ti_add e43 rfl (by omega)
    have d45 : ((900) : Int) < (((I 97 8).toInt + 20)) := ci_nle e44 rfl c2
    exact hQ _ _ _ _ hB1 (by have q2 : (((uI I 97 1 0) 97 8) : Int32).toInt = (I 97 8).toInt := e43; have q0 : ((-1) : Int32).toInt = (-1) := rfl; omega)
