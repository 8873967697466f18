theorem Bd.mu {I : Im} (h : Bd I) : 0 ≤ MUf I ∧ MUf I ≤ 2000 := by
  have b2 := h.o io9_112_97_12 bd9_12_14
  have b3 := h.o io9_112_97_12 bd9_12_16
  unfold MUf
  omega
set_option maxHeartbeats 2000000 in
theorem sp_X12_readStep_r (m : Nat) : ∀ {d : Nat} {Q : Qt} {v1 : Int32} {I : Im} {J : Jm} {R : Rm} (hB0 : Bd I) (hR0 : RI R) (hv1 : 0 ≤ v1.toInt ∧ v1.toInt ≤ 3) (hm0 : 4 - v1.toInt ≤ (m : Int)) (hQ : ∀ (x : Int32) (y : Int64) (I2 : Im) (J2 : Jm), Bd I2 → (Fr (pB (1350 + 9 * (I 97 27).toInt)) I I2 ∧ PMp I I2 ∧ (Prog I I2 ∧ (I 97 27).toInt ≤ (I2 97 27).toInt ∧ ((I2 97 12).toInt = 0 → NR (I2 102) (I 97 27).toInt (I2 97 27).toInt (I 102 0).toInt))) → Q x y I2 J2 R), AM (d + m + 10) 236 112 [.ref 97, .int v1] I J R Q := by
  induction m with
  | zero => intro d Q v1 I J R hB0 hR0 hv1 hm0 hQ; exact absurd hm0 (by omega)
  | succ m ihm =>
  intro d Q v1 I J R hB0 hR0 hv1 hm0 hQ
  have i_v1 := i32 v1
  refine am_X12_readStep (fun P hc => ?_)
  have L : ∀ n : Nat, (∀ (v2 : Int32) (M : Im) (JM : Jm), Bd M → Fr (pB (1350 + 9 * (I 97 27).toInt)) I M → PMp I M → ((v2.toInt = 6 ∨ v2.toInt = 7) ∧ (M 97 14).toInt = 1 ∧ (M 97 27).toInt = (I 97 27).toInt) → 9000 < (n : Int) → P 17 112 [(0, .ref 97), (1, .int v1), (2, .int v2)] [] M JM R) ∧ (∀ (v2 : Int32) (v3 : Int32) (M : Im) (JM : Jm), Bd M → Fr (pB (1350 + 9 * (I 97 27).toInt)) I M → PMp I M → (v3 = 0 ∨ v3 = 1) → (-1 ≤ v2.toInt ∧ v2.toInt ≤ 8 ∧ (v2.toInt = -1 → 1 ≤ (M 97 12).toInt) ∧ (v2.toInt = -1 ∨ (M 97 14).toInt = 1) ∧ (¬ v3.toInt = 0 → v2.toInt = 6 ∨ v2.toInt = 7) ∧ (v2.toInt = 6 ∨ v2.toInt = 7 → ¬ v3.toInt = 0) ∧ (M 97 27).toInt = (I 97 27).toInt) → 8999 < (n : Int) → P 31 112 [(0, .ref 97), (1, .int v1), (2, .int v2), (3, .int v3)] [] M JM R) ∧ (∀ (v2 : Int32) (v3 : Int32) (M : Im) (JM : Jm), Bd M → Fr (pB (1350 + 9 * (I 97 27).toInt)) I M → PMp I M → (v3 = 0 ∨ v3 = 1) → (-1 ≤ v2.toInt ∧ v2.toInt ≤ 8 ∧ (v2.toInt = -1 → 1 ≤ (M 97 12).toInt) ∧ (v2.toInt = -1 ∨ (M 97 14).toInt = 1) ∧ (¬ v3.toInt = 0 → v2.toInt = 6 ∨ v2.toInt = 7) ∧ (v2.toInt = 6 ∨ v2.toInt = 7 → ¬ v3.toInt = 0) ∧ ((M 97 27).toInt = 30 → 1 ≤ (M 97 12).toInt) ∧ (M 97 27).toInt = (I 97 27).toInt) → 8998 < (n : Int) → P 57 112 [(0, .ref 97), (1, .int v1), (2, .int v2), (3, .int v3)] [] M JM R) ∧ (∀ (v2 : Int32) (v3 : Int32) (M : Im) (JM : Jm), Bd M → Fr (pB (1350 + 9 * (I 97 27).toInt)) I M → PMp I M → (v3 = 0 ∨ v3 = 1) → (-1 ≤ v2.toInt ∧ v2.toInt ≤ 8 ∧ (v2.toInt = -1 → 1 ≤ (M 97 12).toInt) ∧ (v2.toInt = -1 ∨ (M 97 14).toInt = 1) ∧ (¬ v3.toInt = 0 → v2.toInt = 6 ∨ v2.toInt = 7) ∧ (v2.toInt = 6 ∨ v2.toInt = 7 → ¬ v3.toInt = 0) ∧ ((M 97 27).toInt = 30 → 1 ≤ (M 97 12).toInt) ∧ (¬ v3.toInt = 0 → v1.toInt = 3 → 1 ≤ (M 97 12).toInt) ∧ (M 97 27).toInt = (I 97 27).toInt) → 8997 < (n : Int) → P 83 112 [(0, .ref 97), (1, .int v1), (2, .int v2), (3, .int v3)] [] M JM R) ∧ (∀ (v3 : Int32) (v4 : Int32) (M : Im) (JM : Jm), Bd M → Fr (pB (1350 + 9 * (I 97 27).toInt)) I M → PMp I M → (v3 = 0 ∨ v3 = 1) → ((M 97 12).toInt = 0 → NR (M 102) ((I 97 27).toInt + 1) (M 97 27).toInt (I 102 0).toInt) → ((M 97 12).toInt = 0 → RF (M 102) v4 (I 102 0).toInt) → ((¬ v3.toInt = 0 → v1.toInt ≤ 2) ∧ v4.toInt = 1350 + 9 * (I 97 27).toInt ∧ 0 ≤ (I 97 27).toInt ∧ (I 97 27).toInt + 1 ≤ (M 97 27).toInt ∧ (M 97 27).toInt ≤ 30 ∧ 0 ≤ (M 97 12).toInt ∧ 0 ≤ MUf M ∧ MUf M ≤ 2000 ∧ MUf M < MUf I) → 2 * MUf M + 3 - min (M 97 12).toInt 1 < (n : Int) → P 142 112 [(0, .ref 97), (1, .int v1), (3, .int v3), (4, .int v4)] [] M JM R) ∧ (∀ (v3 : Int32) (v4 : Int32) (M : Im) (JM : Jm), Bd M → Fr (pB (1350 + 9 * (I 97 27).toInt)) I M → PMp I M → (v3 = 0 ∨ v3 = 1) → ((M 97 12).toInt = 0 → NR (M 102) ((I 97 27).toInt + 1) (M 97 27).toInt (I 102 0).toInt) → ((M 97 12).toInt = 0 → RF (M 102) v4 (I 102 0).toInt) → (v4.toInt = 1350 + 9 * (I 97 27).toInt ∧ 0 ≤ (I 97 27).toInt ∧ (I 97 27).toInt + 1 ≤ (M 97 27).toInt ∧ (M 97 27).toInt ≤ 30 ∧ 0 ≤ (M 97 12).toInt ∧ 0 ≤ MUf M ∧ MUf M ≤ 2000 ∧ MUf M < MUf I) → 1 < (n : Int) → P 170 112 [(0, .ref 97), (3, .int v3), (4, .int v4)] [] M JM R) := by
    intro n
    induction n with
    | zero =>
      exact ⟨fun v2 M J _ _ _ hi hm => absurd hm (by omega), fun v2 v3 M J _ _ _ _ hi hm => absurd hm (by omega), fun v2 v3 M J _ _ _ _ hi hm => absurd hm (by omega), fun v2 v3 M J _ _ _ _ hi hm => absurd hm (by omega), fun v3 v4 M J _ _ _ _ _ _ hi hm => absurd hm (by omega), fun v3 v4 M J _ _ _ _ _ _ hi hm => absurd hm (by omega)⟩
    | succ n ih =>
      refine ⟨?_, ?_, ?_, ?_, ?_, ?_⟩
      · skip
        intro v2 M JM hB hf hpm hi hm
        have i_v1 := i32 v1
        have i_v2 := i32 v2
        refine sg_X12_readStep_17 hc _ _ _ _ _ ?_
        have b1 := Bd.o hB io9_112_97_12 bd9_12_14
        have b2 := Bd.o hB io9_112_97_12 bd9_12_27
        refine ⟨fun c3 => ?_, fun c3 => ?_⟩
        · skip
          have d4 : ((0) : Int) ≤ (v2.toInt) := ci_le rfl rfl c3
          have cb5 : (M 97 12).toInt = 0 → (M 97 12).toInt = 0 := ((PMp.refl M)).2
          have b6 := Bd.o hB io9_112_97_12 bd9_12_12
          exact ih.2.1 _ _ _ _ hB hf hpm (Or.inr rfl) (by have q0 : (v2 : Int32).toInt = v2.toInt := rfl; have q1 : (1 : Int32).toInt = 1 := rfl; have q2 : ((M 97 12) : Int32).toInt = (M 97 12).toInt := rfl; have q3 : ((M 97 14) : Int32).toInt = (M 97 14).toInt := rfl; have q4 : ((M 97 27) : Int32).toInt = (M 97 27).toInt := rfl; omega) (by omega)
        · skip
          have d7 : ((v2.toInt) : Int) < (0) := ci_nle rfl rfl c3
          refine sp_X12_amiss hB hR0 (fun x8 y13 I9 J10 hB11 p12 => ?_)
          have hh14 := Hid.i p12
          clear p12
          have f15 : Fr pT M I9 := (Hid.o hh14).2.2.2.2.1
          have f16 : Fr (pB (1350 + 9 * (I 97 27).toInt)) I I9 := Fr.tr hf f15 (fun _ _ => trivial)
          have m17 : PMp M I9 := (PMp.fail (Hid.o hh14).2.1 (Hid.o hh14).2.2.1 (Hid.o hh14).2.2.2.2.2)
          have wr18 := (Hid.o hh14).2.2.2.2.2
          have b19 := Bd.o hB11 io9_112_97_12 bd9_12_12
          have cb20 : (I9 97 12).toInt = 0 → (M 97 12).toInt = 0 := ((PMp.tr (PMp.refl M) m17)).2
          have cb21 : (I9 97 12).toInt = 0 → (I9 97 12).toInt = 0 := ((PMp.refl I9)).2
          have e22 : ((I9 97 14) : Int32).toInt = (M 97 14).toInt := Eq.trans (congrArg Int32.toInt (Hid.o hh14).2.1) rfl
          have e23 : ((I9 97 27) : Int32).toInt = (M 97 27).toInt := Eq.trans (congrArg Int32.toInt (Hid.o hh14).1) rfl
          exact ih.2.1 _ _ _ _ hB11 f16 (PMp.tr hpm m17) (Or.inr rfl) (by have q0 : (v2 : Int32).toInt = v2.toInt := rfl; have q1 : (1 : Int32).toInt = 1 := rfl; have q2 : ((I9 97 12) : Int32).toInt = (I9 97 12).toInt := rfl; have q3 : ((I9 97 14) : Int32).toInt = (M 97 14).toInt := e22; have q4 : ((I9 97 27) : Int32).toInt = (M 97 27).toInt := e23; omega) (by omega)
      · skip
        intro v2 v3 M JM hB hf hpm hb_v3 hi hm
        have i_v1 := i32 v1
        have i_v2 := i32 v2
        have i_v3 := i32 v3
        refine sg_X12_readStep_31 hc _ _ _ _ _ _ ?_
        have b24 := Bd.o hB io9_112_97_12 bd9_12_12
        have b25 := Bd.o hB io9_112_97_12 bd9_12_14
        have b26 := Bd.o hB io9_112_97_12 bd9_12_27
        refine ⟨fun c27 => ?_, fun c27 => ?_⟩
        · skip
          have d28 : ¬ (((M 97 12).toInt) : Int) = (0) := ci_ne rfl rfl c27
          have cb29 : (M 97 12).toInt = 0 → (M 97 12).toInt = 0 := ((PMp.refl M)).2
          exact ih.2.2.1 _ _ _ _ hB hf hpm (hb_v3) (by have q0 : (v2 : Int32).toInt = v2.toInt := rfl; have q1 : (v3 : Int32).toInt = v3.toInt := rfl; have q2 : ((M 97 12) : Int32).toInt = (M 97 12).toInt := rfl; have q3 : ((M 97 14) : Int32).toInt = (M 97 14).toInt := rfl; have q4 : ((M 97 27) : Int32).toInt = (M 97 27).toInt := rfl; have q5 : ((M 97 12) : Int32).toInt = (M 97 12).toInt := rfl; have q6 : ((M 97 27) : Int32).toInt = (M 97 27).toInt := rfl; omega) (by omega)
        · skip
          have d30 : (((M 97 12).toInt) : Int) = (0) := ci_eq rfl rfl c27
          refine ⟨fun c31 => ?_, fun c31 => ?_⟩
          · skip
            have d32 : ¬ (((M 97 27).toInt) : Int) = (30) := ci_ne rfl rfl c31
            have cb33 : (M 97 12).toInt = 0 → (M 97 12).toInt = 0 := ((PMp.refl M)).2
            exact ih.2.2.1 _ _ _ _ hB hf hpm (hb_v3) (by have q0 : (v2 : Int32).toInt = v2.toInt := rfl; have q1 : (v3 : Int32).toInt = v3.toInt := rfl; have q2 : ((M 97 12) : Int32).toInt = (M 97 12).toInt := rfl; have q3 : ((M 97 14) : Int32).toInt = (M 97 14).toInt := rfl; have q4 : ((M 97 27) : Int32).toInt = (M 97 27).toInt := rfl; have q5 : ((M 97 12) : Int32).toInt = (M 97 12).toInt := rfl; have q6 : ((M 97 27) : Int32).toInt = (M 97 27).toInt := rfl; omega) (by omega)
          · skip
            have d34 : (((M 97 27).toInt) : Int) = (30) := ci_eq rfl rfl c31
            refine sp_X12_fail hB hR0 (by have z : (6 : Int32).toInt = 6 := rfl; omega) (fun x35 y40 I36 J37 hB38 p39 => ?_)
            have hh41 := Hid.i p39
            clear p39
            have f42 : Fr pT M I36 := (Hid.o hh41).2.2.2.2.1
            have f43 : Fr (pB (1350 + 9 * (I 97 27).toInt)) I I36 := Fr.tr hf f42 (fun _ _ => trivial)
            have m44 : PMp M I36 := (PMp.fail (Hid.o hh41).2.1 (Hid.o hh41).2.2.1 (Hid.o hh41).2.2.2.2.2)
            have wr45 := (Hid.o hh41).2.2.2.2.2
            have q46 : (6 : Int32).toInt = 6 := rfl
            have b47 := Bd.o hB io9_112_97_12 bd9_12_15
            have q48 : ((M 97 15) : Int32).toInt = (M 97 15).toInt := rfl
            have b49 := Bd.o hB38 io9_112_97_12 bd9_12_12
            have cb50 : (I36 97 12).toInt = 0 → (M 97 12).toInt = 0 := ((PMp.tr (PMp.refl M) m44)).2
            have cb51 : (I36 97 12).toInt = 0 → (I36 97 12).toInt = 0 := ((PMp.refl I36)).2
            have e52 : ((I36 97 14) : Int32).toInt = (M 97 14).toInt := Eq.trans (congrArg Int32.toInt (Hid.o hh41).2.1) rfl
            have e53 : ((I36 97 27) : Int32).toInt = (M 97 27).toInt := Eq.trans (congrArg Int32.toInt (Hid.o hh41).1) rfl
            exact ih.2.2.1 _ _ _ _ hB38 f43 (PMp.tr hpm m44) (hb_v3) (by have q0 : (v2 : Int32).toInt = v2.toInt := rfl; have q1 : (v3 : Int32).toInt = v3.toInt := rfl; have q2 : ((I36 97 12) : Int32).toInt = (I36 97 12).toInt := rfl; have q3 : ((I36 97 14) : Int32).toInt = (M 97 14).toInt := e52; have q4 : ((I36 97 27) : Int32).toInt = (M 97 27).toInt := e53; have q5 : ((I36 97 12) : Int32).toInt = (I36 97 12).toInt := rfl; have q6 : ((I36 97 27) : Int32).toInt = (M 97 27).toInt := e53; omega) (by omega)
      · skip
        intro v2 v3 M JM hB hf hpm hb_v3 hi hm
        have i_v1 := i32 v1
        have i_v2 := i32 v2
        have i_v3 := i32 v3
        refine sg_X12_readStep_57 hc _ _ _ _ _ _ ?_
        have b54 := Bd.o hB io9_112_97_12 bd9_12_12
        have b55 := Bd.o hB io9_112_97_12 bd9_12_14
        have b56 := Bd.o hB io9_112_97_12 bd9_12_27
        refine ⟨fun c57 => ?_, fun c57 => ?_⟩
        · skip
          have d58 : ¬ (((M 97 12).toInt) : Int) = (0) := ci_ne rfl rfl c57
          have cb59 : (M 97 12).toInt = 0 → (M 97 12).toInt = 0 := ((PMp.refl M)).2
          exact ih.2.2.2.1 _ _ _ _ hB hf hpm (hb_v3) (by have q0 : (v2 : Int32).toInt = v2.toInt := rfl; have q1 : (v3 : Int32).toInt = v3.toInt := rfl; have q2 : ((M 97 12) : Int32).toInt = (M 97 12).toInt := rfl; have q3 : ((M 97 14) : Int32).toInt = (M 97 14).toInt := rfl; have q4 : ((M 97 27) : Int32).toInt = (M 97 27).toInt := rfl; have q5 : ((M 97 12) : Int32).toInt = (M 97 12).toInt := rfl; have q6 : ((M 97 12) : Int32).toInt = (M 97 12).toInt := rfl; have q7 : ((M 97 27) : Int32).toInt = (M 97 27).toInt := rfl; omega) (by omega)
        · skip
          have d60 : (((M 97 12).toInt) : Int) = (0) := ci_eq rfl rfl c57
          refine ⟨fun c61 => ?_, fun c61 => ?_⟩
          · skip
            have d62 : ((v3.toInt) : Int) = (0) := ci_eq rfl rfl c61
            have cb63 : (M 97 12).toInt = 0 → (M 97 12).toInt = 0 := ((PMp.refl M)).2
            exact ih.2.2.2.1 _ _ _ _ hB hf hpm (hb_v3) (by have q0 : (v2 : Int32).toInt = v2.toInt := rfl; have q1 : (v3 : Int32).toInt = v3.toInt := rfl; have q2 : ((M 97 12) : Int32).toInt = (M 97 12).toInt := rfl; have q3 : ((M 97 14) : Int32).toInt = (M 97 14).toInt := rfl; have q4 : ((M 97 27) : Int32).toInt = (M 97 27).toInt := rfl; have q5 : ((M 97 12) : Int32).toInt = (M 97 12).toInt := rfl; have q6 : ((M 97 12) : Int32).toInt = (M 97 12).toInt := rfl; have q7 : ((M 97 27) : Int32).toInt = (M 97 27).toInt := rfl; omega) (by omega)
          · skip
            have d64 : ¬ ((v3.toInt) : Int) = (0) := ci_ne rfl rfl c61
            refine ⟨fun c65 => ?_, fun c65 => ?_⟩
            · skip
              have d66 : ¬ ((v1.toInt) : Int) = (3) := ci_ne rfl rfl c65
              have cb67 : (M 97 12).toInt = 0 → (M 97 12).toInt = 0 := ((PMp.refl M)).2
              exact ih.2.2.2.1 _ _ _ _ hB hf hpm (hb_v3) (by have q0 : (v2 : Int32).toInt = v2.toInt := rfl; have q1 : (v3 : Int32).toInt = v3.toInt := rfl; have q2 : ((M 97 12) : Int32).toInt = (M 97 12).toInt := rfl; have q3 : ((M 97 14) : Int32).toInt = (M 97 14).toInt := rfl; have q4 : ((M 97 27) : Int32).toInt = (M 97 27).toInt := rfl; have q5 : ((M 97 12) : Int32).toInt = (M 97 12).toInt := rfl; have q6 : ((M 97 12) : Int32).toInt = (M 97 12).toInt := rfl; have q7 : ((M 97 27) : Int32).toInt = (M 97 27).toInt := rfl; omega) (by omega)
            · skip
              have d68 : ((v1.toInt) : Int) = (3) := ci_eq rfl rfl c65
              refine sp_X12_fail hB hR0 (by have z : (7 : Int32).toInt = 7 := rfl; omega) (fun x69 y74 I70 J71 hB72 p73 => ?_)
              have hh75 := Hid.i p73
              clear p73
              have f76 : Fr pT M I70 := (Hid.o hh75).2.2.2.2.1
              have f77 : Fr (pB (1350 + 9 * (I 97 27).toInt)) I I70 := Fr.tr hf f76 (fun _ _ => trivial)
              have m78 : PMp M I70 := (PMp.fail (Hid.o hh75).2.1 (Hid.o hh75).2.2.1 (Hid.o hh75).2.2.2.2.2)
              have wr79 := (Hid.o hh75).2.2.2.2.2
              have q80 : (7 : Int32).toInt = 7 := rfl
              have b81 := Bd.o hB io9_112_97_12 bd9_12_15
              have q82 : ((M 97 15) : Int32).toInt = (M 97 15).toInt := rfl
              have b83 := Bd.o hB72 io9_112_97_12 bd9_12_12
              have cb84 : (I70 97 12).toInt = 0 → (M 97 12).toInt = 0 := ((PMp.tr (PMp.refl M) m78)).2
              have cb85 : (I70 97 12).toInt = 0 → (I70 97 12).toInt = 0 := ((PMp.refl I70)).2
              have e86 : ((I70 97 14) : Int32).toInt = (M 97 14).toInt := Eq.trans (congrArg Int32.toInt (Hid.o hh75).2.1) rfl
              have e87 : ((I70 97 27) : Int32).toInt = (M 97 27).toInt := Eq.trans (congrArg Int32.toInt (Hid.o hh75).1) rfl
              exact ih.2.2.2.1 _ _ _ _ hB72 f77 (PMp.tr hpm m78) (hb_v3) (by have q0 : (v2 : Int32).toInt = v2.toInt := rfl; have q1 : (v3 : Int32).toInt = v3.toInt := rfl; have q2 : ((I70 97 12) : Int32).toInt = (I70 97 12).toInt := rfl; have q3 : ((I70 97 14) : Int32).toInt = (M 97 14).toInt := e86; have q4 : ((I70 97 27) : Int32).toInt = (M 97 27).toInt := e87; have q5 : ((I70 97 12) : Int32).toInt = (I70 97 12).toInt := rfl; have q6 : ((I70 97 12) : Int32).toInt = (I70 97 12).toInt := rfl; have q7 : ((I70 97 27) : Int32).toInt = (M 97 27).toInt := e87; omega) (by omega)
      · skip
        intro v2 v3 M JM hB hf hpm hb_v3 hi hm
        have i_v1 := i32 v1
        have i_v2 := i32 v2
        have i_v3 := i32 v3
        refine sg_X12_readStep_83 hc _ _ _ _ _ _ ?_
        have b88 := Bd.o hB io9_112_97_12 bd9_12_12
        have b89 := Bd.o hB io9_112_97_12 bd9_12_14
        have b90 := Bd.o hB io9_112_97_12 bd9_12_27
        refine ⟨fun c91 => ?_, fun c91 => ?_⟩
        · skip
          have d92 : (((M 97 12).toInt) : Int) ≤ (0) := ci_le rfl rfl c91
          have e94 : (((M 97 27) + 1) : Int32).toInt = ((M 97 27).toInt) + (1) := ti_add rfl rfl (by omega)
          have hB93 : Bd (uI M 97 27 ((M 97 27) + 1)) := Bd.o1 hB io9_112_97_12 (by decide) bd9_12_27 (show (((M 97 27) + 1) : Int32).toInt = ((M 97 27).toInt + 1) from e94) (by omega)
          have f95 : Fr (pB (1350 + 9 * (I 97 27).toInt)) I (uI M 97 27 ((M 97 27) + 1)) := Fr.o hf (by decide) (by decide)
          refine sp_X12_advance hB93 hR0 (fun x96 y101 I97 J98 hB99 p100 => ?_)
          have hh102 := Hid.i p100
          clear p100
          have f103 : Fr pT (uI M 97 27 ((M 97 27) + 1)) I97 := (Hid.o hh102).2.2.1
          have f104 : Fr (pB (1350 + 9 * (I 97 27).toInt)) I I97 := Fr.tr f95 f103 (fun _ _ => trivial)
          have m105 : PMp (uI M 97 27 ((M 97 27) + 1)) I97 := (PMp.adv (Hid.o hh102).1 (Hid.o hh102).2.2.2.1)
          have e106 : (((uI M 97 27 ((M 97 27) + 1)) 97 14) : Int32).toInt = (M 97 14).toInt := Eq.trans (congrArg Int32.toInt (rd_k (by decide))) rfl
          have b107 := Bd.o hB io9_112_97_12 bd9_12_16
          have e108 : (((uI M 97 27 ((M 97 27) + 1)) 97 16) : Int32).toInt = (M 97 16).toInt := Eq.trans (congrArg Int32.toInt (rd_k (by decide))) rfl
          have b109 := Bd.o hB99 io9_112_97_12 bd9_12_14
          have b110 := Bd.o hB99 io9_112_97_12 bd9_12_16
          have w112 : (((uI M 97 27 ((M 97 27) + 1)) 97 14) : Int32).toInt = (M 97 14).toInt := e106
          have adv111 : MUf I97 < MUf (uI M 97 27 ((M 97 27) + 1)) := by have z := ((Hid.o hh102).2.2.2).2; unfold MUf; omega
          have e113 : ((9 * (M 97 27)) : Int32).toInt = (9) * ((M 97 27).toInt) := ti_mul rfl rfl (by omega)
          have e114 : ((1350 + (9 * (M 97 27))) : Int32).toInt = (1350) + ((9 * (M 97 27).toInt)) := ti_add rfl e113 (by omega)
          refine ⟨vp_of (a := (1350 + (9 * (M 97 27).toInt))) e114 (by omega) (by omega), ?_⟩
          have hB115 : Bd (uI I97 102 (Int32.toNatClampNeg (1350 + (9 * (M 97 27)))) v2) := Bd.cnew hB99 (show ((1350 + (9 * (M 97 27))) : Int32).toInt = (1350 + (9 * (M 97 27).toInt)) from e114) (show (v2 : Int32).toInt = v2.toInt from rfl) (by omega) (by omega) (by omega) 
          have f116 : Fr (pB (1350 + 9 * (I 97 27).toInt)) I (uI I97 102 (Int32.toNatClampNeg (1350 + (9 * (M 97 27)))) v2) := Fr.w f104 (show ((1350 + (9 * (M 97 27))) : Int32).toInt = (1350 + (9 * (M 97 27).toInt)) from e114) (by omega) (fun j hj hp => by unfold pB at hp; omega)
          refine sp_X12_readRest hB115 hR0 (by have z1 : ((1350 + (9 * (M 97 27))) : Int32).toInt = (1350 + (9 * (M 97 27).toInt)) := e114; omega) (fun x117 y122 I118 J119 hB120 p121 => ?_)
          have hh123 := Hid.i p121
          clear p121
          have f124 : Fr (pW (1350 + (9 * (M 97 27))).toInt) (uI I97 102 (Int32.toNatClampNeg (1350 + (9 * (M 97 27)))) v2) I118 := (Hid.o hh123).2.1
          have f125 : Fr (pB (1350 + 9 * (I 97 27).toInt)) I I118 := Fr.tr f116 f124 (fun j hj => by unfold pB at hj; unfold pW; omega)
          have m126 : PMp (uI I97 102 (Int32.toNatClampNeg (1350 + (9 * (M 97 27)))) v2) I118 := (Hid.o hh123).2.2.1
          have q127 : ((1350 + (9 * (M 97 27))) : Int32).toInt = (1350 + (9 * (M 97 27).toInt)) := e114
          have b128 := (Bd.c hB0 (j := 0) (z := 0) rfl).1 (by decide)
          have e129 : (((uI I97 102 (Int32.toNatClampNeg (1350 + (9 * (M 97 27)))) v2) 102 0) : Int32).toInt = (I 102 0).toInt := Eq.trans (congrArg Int32.toInt (Eq.trans (Eq.trans (Eq.trans (rd_k (fun z => by have z1 := tn_of (show (0 : Int32).toInt = 0 from rfl) (by omega); have z2 := tn_of (show ((1350 + (9 * (M 97 27))) : Int32).toInt = (1350 + (9 * (M 97 27).toInt)) from e114) (by omega); have z0 : (0 : Nat) = (Int32.toNatClampNeg (1350 + (9 * (M 97 27)))) := z; have z4 : Int32.toNatClampNeg 0 = 0 := rfl; omega)) (f103.1 0 trivial)) (rd_ne (by first | decide | omega))) (hf.1 0 (by unfold pB; have z := (Bd.n27 hB0); omega)))) rfl
          have b130 := Bd.o hB120 io9_112_97_12 bd9_12_12
          refine sp_X12_isSign hB120 hR0 (fun x131 y136 I132 J133 hB134 p135 => ?_)
          intro o137
          have hh138 := Hid.i p135
          clear p135
          have f139 : Fr pT I118 I132 := (Hid.o hh138).2.2.2.2.1
          have f140 : Fr (pB (1350 + 9 * (I 97 27).toInt)) I I132 := Fr.tr f125 f139 (fun _ _ => trivial)
          have m141 : PMp I118 I132 := (PMp.keep (Hid.o hh138).1 (Hid.o hh138).2.2.1 (Hid.o hh138).2.2.2.1)
          have q142 : (59 : Int32).toInt = 59 := rfl
          have b143 := Bd.o hB120 io9_112_97_12 bd9_12_14
          have i144 := i32 x131
          refine sp_X12_must hB134 hR0 (fun x145 y150 I146 J147 hB148 p149 => ?_)
          have hh151 := Hid.i p149
          clear p149
          have f152 : Fr pT I132 I146 := (Hid.o hh151).2.1
          have f153 : Fr (pB (1350 + 9 * (I 97 27).toInt)) I I146 := Fr.tr f140 f152 (fun _ _ => trivial)
          have m154 : PMp I132 I146 := (PMp.mk (Hid.o hh151).2.2.1 (Hid.o hh151).2.2.2.1)
          have e155 : ((I132 97 12) : Int32).toInt = (I118 97 12).toInt := Eq.trans (congrArg Int32.toInt (Hid.o hh138).1) rfl
          have e156 : ((I132 97 14) : Int32).toInt = (I118 97 14).toInt := Eq.trans (congrArg Int32.toInt (Hid.o hh138).2.2.1) rfl
          have b157 := Bd.o hB120 io9_112_97_12 bd9_12_16
          have e158 : ((I132 97 16) : Int32).toInt = (I118 97 16).toInt := Eq.trans (congrArg Int32.toInt (Hid.o hh138).2.2.2.1) rfl
          have b159 := Bd.o hB148 io9_112_97_12 bd9_12_12
          have b160 := Bd.o hB148 io9_112_97_12 bd9_12_14
          have b161 := Bd.o hB148 io9_112_97_12 bd9_12_16
          have cb162 : (I146 97 12).toInt = 0 → (M 97 12).toInt = 0 := ((PMp.tr (PMp.tr (PMp.tr (PMp.o (PMp.tr (PMp.k (PMp.refl M) rfl) m105) (show ¬ (97 : Nat) = 102 by decide)) m126) m141) m154)).2
          have mu163 := Bd.mu hB148
          have mu164 := (show PMp I97 I146 from (PMp.tr (PMp.tr (PMp.tr (PMp.o (PMp.refl I97) (show ¬ (97 : Nat) = 102 by decide)) m126) m141) m154)).1
          have mu165 := (show PMp I (uI M 97 27 ((M 97 27) + 1)) from PMp.k hpm rfl).1
          have mu166 := (show PMp M I146 from (PMp.tr (PMp.tr (PMp.tr (PMp.o (PMp.tr (PMp.k (PMp.refl M) rfl) m105) (show ¬ (97 : Nat) = 102 by decide)) m126) m141) m154)).1
          have e167 : ((I146 97 27) : Int32).toInt = ((M 97 27).toInt + 1) := Eq.trans (congrArg Int32.toInt (Eq.trans (Eq.trans (Eq.trans (Eq.trans (Eq.trans (Hid.o hh151).1 (Hid.o hh138).2.1) (Hid.o hh123).1) (rd_ne (by first | decide | omega))) (Hid.o hh102).2.1) rd_eq)) e94
          have w169 : ((I146 97 27) : Int32).toInt = ((M 97 27).toInt + 1) := e167
          have hv168 : (I146 97 12).toInt = 0 → NR (I146 102) ((I 97 27).toInt + 1) (I146 97 27).toInt (I 102 0).toInt := (fun _ => NR.nil (by first | (clear b88 b89 b90 d92 e94 p100 e106 b107 e108 b109 b110 e113 e114 p121 q127 b130 p135 b143 i144 e155 e156 b157 e158; omega) | omega))
          have hv170 : (I146 97 12).toInt = 0 → RF (I146 102) (1350 + (9 * (M 97 27))) (I 102 0).toInt := (fun hz => by have z := ((Hid.o hh123).2.2.2) (PMp.bad (PMp.tr (PMp.tr (PMp.refl I118) m141) m154) hz); rw [show (I146 102) = I118 102 from (Eq.trans (Fr.eq f152) (Fr.eq f139))]; rw [show ((uI I97 102 (Int32.toNatClampNeg (1350 + (9 * (M 97 27)))) v2) 102 0) = (I 102 0) from (Eq.trans (Eq.trans (Eq.trans (rd_k (fun z => by have z1 := tn_of (show (0 : Int32).toInt = 0 from rfl) (by omega); have z2 := tn_of (show ((1350 + (9 * (M 97 27))) : Int32).toInt = (1350 + (9 * (M 97 27).toInt)) from e114) (by omega); have z0 : (0 : Nat) = (Int32.toNatClampNeg (1350 + (9 * (M 97 27)))) := z; have z4 : Int32.toNatClampNeg 0 = 0 := rfl; omega)) (f103.1 0 trivial)) (rd_ne (by first | decide | omega))) (hf.1 0 (by unfold pB; have z := (Bd.n27 hB0); omega)))] at z; exact z)
          exact ih.2.2.2.2.1 _ _ _ _ hB148 f153 (PMp.tr (PMp.tr (PMp.tr (PMp.o (PMp.tr (PMp.k hpm rfl) m105) (show ¬ (97 : Nat) = 102 by decide)) m126) m141) m154) (hb_v3) hv168 hv170 (by have q0 : (v3 : Int32).toInt = v3.toInt := rfl; have q1 : ((1350 + (9 * (M 97 27))) : Int32).toInt = (1350 + (9 * (M 97 27).toInt)) := e114; have q2 : ((I146 97 27) : Int32).toInt = ((M 97 27).toInt + 1) := e167; have q3 : ((I146 97 27) : Int32).toInt = ((M 97 27).toInt + 1) := e167; have q4 : ((I146 97 12) : Int32).toInt = (I146 97 12).toInt := rfl; omega) (by have q0 : ((I146 97 12) : Int32).toInt = (I146 97 12).toInt := rfl; omega)
        · skip
          have d171 : ((0) : Int) < ((M 97 12).toInt) := ci_nle rfl rfl c91
          have w172 : ((M 97 12) : Int32).toInt = (M 97 12).toInt := rfl
          have w173 : ((M 97 27) : Int32).toInt = (M 97 27).toInt := rfl
          exact hQ _ _ _ _ hB ⟨hf, hpm, ⟨Or.inl (by first | (clear b88 b89 b90 d171; omega) | omega), by omega, fun hz => by exfalso; omega⟩⟩
      · skip
        intro v3 v4 M JM hB hf hpm hb_v3 hq_0 hq_1 hi hm
        have i_v1 := i32 v1
        have i_v3 := i32 v3
        have i_v4 := i32 v4
        refine sg_X12_readStep_142 hc _ _ _ _ _ _ ?_
        have b174 := Bd.o hB io9_112_97_12 bd9_12_12
        have b175 := Bd.o hB io9_112_97_12 bd9_12_27
        refine ⟨fun c176 => ?_, fun c176 => ?_⟩
        · skip
          have d177 : ((v3.toInt) : Int) = (0) := ci_eq rfl rfl c176
          have cb178 : (M 97 12).toInt = 0 → (M 97 12).toInt = 0 := ((PMp.refl M)).2
          have mu179 := Bd.mu hB
          have mu180 := (show PMp M M from (PMp.refl M)).1
          have w182 : ((M 97 27) : Int32).toInt = (M 97 27).toInt := rfl
          have hv181 : (M 97 12).toInt = 0 → NR (M 102) ((I 97 27).toInt + 1) (M 97 27).toInt (I 102 0).toInt := hq_0
          have hv183 : (M 97 12).toInt = 0 → RF (M 102) v4 (I 102 0).toInt := hq_1
          exact ih.2.2.2.2.2 _ _ _ _ hB hf hpm (hb_v3) hv181 hv183 (by have q0 : (v4 : Int32).toInt = v4.toInt := rfl; have q1 : ((M 97 27) : Int32).toInt = (M 97 27).toInt := rfl; have q2 : ((M 97 27) : Int32).toInt = (M 97 27).toInt := rfl; have q3 : ((M 97 12) : Int32).toInt = (M 97 12).toInt := rfl; omega) (by omega)
        · skip
          have d184 : ¬ ((v3.toInt) : Int) = (0) := ci_ne rfl rfl c176
          refine ⟨fun c185 => ?_, fun c185 => ?_⟩
          · skip
            have d186 : ¬ (((M 97 12).toInt) : Int) = (0) := ci_ne rfl rfl c185
            have cb187 : (M 97 12).toInt = 0 → (M 97 12).toInt = 0 := ((PMp.refl M)).2
            have mu188 := Bd.mu hB
            have mu189 := (show PMp M M from (PMp.refl M)).1
            have w191 : ((M 97 27) : Int32).toInt = (M 97 27).toInt := rfl
            have hv190 : (M 97 12).toInt = 0 → NR (M 102) ((I 97 27).toInt + 1) (M 97 27).toInt (I 102 0).toInt := hq_0
            have hv192 : (M 97 12).toInt = 0 → RF (M 102) v4 (I 102 0).toInt := hq_1
            exact ih.2.2.2.2.2 _ _ _ _ hB hf hpm (hb_v3) hv190 hv192 (by have q0 : (v4 : Int32).toInt = v4.toInt := rfl; have q1 : ((M 97 27) : Int32).toInt = (M 97 27).toInt := rfl; have q2 : ((M 97 27) : Int32).toInt = (M 97 27).toInt := rfl; have q3 : ((M 97 12) : Int32).toInt = (M 97 12).toInt := rfl; omega) (by omega)
          · skip
            have d193 : (((M 97 12).toInt) : Int) = (0) := ci_eq rfl rfl c185
            refine sp_X12_isEnd hB hR0 (fun x194 y199 I195 J196 hB197 p198 => ?_)
            intro o200
            have hh201 := Hid.i p198
            clear p198
            have f202 : Fr pT M I195 := (Hid.o hh201).2.2.2.2.1
            have f203 : Fr (pB (1350 + 9 * (I 97 27).toInt)) I I195 := Fr.tr hf f202 (fun _ _ => trivial)
            have m204 : PMp M I195 := (PMp.keep (Hid.o hh201).1 (Hid.o hh201).2.2.1 (Hid.o hh201).2.2.2.1)
            have wr205 := (Hid.o hh201).2.2.2.2.2
            have b206 := Bd.o hB io9_112_97_12 bd9_12_14
            have i207 := i32 x194
            refine ⟨fun c208 => ?_, fun c208 => ?_⟩
            · skip
              have d209 : ¬ ((x194.toInt) : Int) = (0) := ci_ne rfl rfl c208
              have cb210 : (I195 97 12).toInt = 0 → (M 97 12).toInt = 0 := ((PMp.tr (PMp.refl M) m204)).2
              have mu211 := Bd.mu hB197
              have mu212 := (show PMp M I195 from (PMp.tr (PMp.refl M) m204)).1
              have e213 : ((I195 97 27) : Int32).toInt = (M 97 27).toInt := Eq.trans (congrArg Int32.toInt (Hid.o hh201).2.1) rfl
              have e214 : ((I195 97 12) : Int32).toInt = (M 97 12).toInt := Eq.trans (congrArg Int32.toInt (Hid.o hh201).1) rfl
              have w216 : ((I195 97 27) : Int32).toInt = (M 97 27).toInt := e213
              have hv215 : (I195 97 12).toInt = 0 → NR (I195 102) ((I 97 27).toInt + 1) (I195 97 27).toInt (I 102 0).toInt := (fun hz => by have z := hq_0 (PMp.bad (PMp.tr (PMp.refl M) m204) hz); rw [show (I195 102) = M 102 from (Fr.eq f202)]; have z27 : (I195 97 27).toInt = (M 97 27).toInt := (by omega); rw [z27]; exact z)
              have hv217 : (I195 97 12).toInt = 0 → RF (I195 102) v4 (I 102 0).toInt := (fun hz => by have z := hq_1 (PMp.bad (PMp.tr (PMp.refl M) m204) hz); rw [show (I195 102) = M 102 from (Fr.eq f202)]; exact z)
              exact ih.2.2.2.2.2 _ _ _ _ hB197 f203 (PMp.tr hpm m204) (hb_v3) hv215 hv217 (by have q0 : (v4 : Int32).toInt = v4.toInt := rfl; have q1 : ((I195 97 27) : Int32).toInt = (M 97 27).toInt := e213; have q2 : ((I195 97 27) : Int32).toInt = (M 97 27).toInt := e213; have q3 : ((I195 97 12) : Int32).toInt = (M 97 12).toInt := e214; omega) (by omega)
            · skip
              have d218 : ((x194.toInt) : Int) = (0) := ci_eq rfl rfl c208
              have e219 : ((v1 + 1) : Int32).toInt = (v1.toInt) + (1) := ti_add rfl rfl (by first | (clear b174 b175 d184 d193 p198 b206 i207 d218; omega) | omega)
              refine ihm (d := d) hB197 hR0 (by have z1 : ((v1 + 1) : Int32).toInt = (v1.toInt + 1) := e219; omega) (by have z : ((v1 + 1) : Int32).toInt = (v1.toInt + 1) := e219; omega) (fun x220 y225 I221 J222 hB223 p224 => ?_)
              have hh226 := Hid.i p224
              clear p224
              have f227 : Fr (pB (1350 + 9 * (I195 97 27).toInt)) I195 I221 := (Hid.o hh226).1
              have e229 : ((I195 97 27) : Int32).toInt = (M 97 27).toInt := Eq.trans (congrArg Int32.toInt (Hid.o hh201).2.1) rfl
              have w230 : ((I195 97 27) : Int32).toInt = (M 97 27).toInt := e229
              have f228 : Fr (pB (1350 + 9 * (I 97 27).toInt)) I I221 := Fr.tr f203 f227 (fun j hj => by unfold pB at hj ⊢; omega)
              have m231 : PMp I195 I221 := (Hid.o hh226).2.1
              have q232 : ((v1 + 1) : Int32).toInt = (v1.toInt + 1) := e219
              have b233 := (Bd.c hB0 (j := 0) (z := 0) rfl).1 (by decide)
              have e234 : ((I195 102 0) : Int32).toInt = (I 102 0).toInt := Eq.trans (congrArg Int32.toInt (Eq.trans (f202.1 0 trivial) (hf.1 0 (by unfold pB; have z := (Bd.n27 hB0); omega)))) rfl
              have b235 := Bd.o hB223 io9_112_97_12 bd9_12_12
              have b236 := Bd.o hB223 io9_112_97_12 bd9_12_27
              have cb237 : (I221 97 12).toInt = 0 → (M 97 12).toInt = 0 := ((PMp.tr (PMp.tr (PMp.refl M) m204) m231)).2
              have mu238 := Bd.mu hB223
              have mu239 := (show PMp M I221 from (PMp.tr (PMp.tr (PMp.refl M) m204) m231)).1
              have mu240 : 1 ≤ (I221 97 12).toInt ∨ MUf I221 < MUf I195 := ((Hid.o hh226).2.2).1
              have mu241 := (show PMp M I195 from (PMp.tr (PMp.refl M) m204)).1
              have mu242 := ((Hid.o hh226).2.2).2.1
              have w244 : ((I221 97 27) : Int32).toInt = (I221 97 27).toInt := rfl
              have w245 : ((I195 97 27) : Int32).toInt = (M 97 27).toInt := e229
              have hv243 : (I221 97 12).toInt = 0 → NR (I221 102) ((I 97 27).toInt + 1) (I221 97 27).toInt (I 102 0).toInt := (fun hz => NR.app (by have z := hq_0 (PMp.bad (PMp.tr (PMp.tr (PMp.refl M) m204) m231) hz); rw [show (I195 102) = M 102 from (Fr.eq f202)]; have z27 : (I195 97 27).toInt = (M 97 27).toInt := (by first | (clear d184 i207 d218 e219 q232; omega) | omega); rw [z27]; exact z) f227.1 rfl (by have z := ((Hid.o hh226).2.2).2.2 hz; rw [show (I195 102 0) = (I 102 0) from (Eq.trans (f202.1 0 trivial) (hf.1 0 (by unfold pB; have z := (Bd.n27 hB0); omega)))] at z; exact z) (by first | (clear d184 i207 d218 e219 q232; omega) | omega))
              have hv246 : (I221 97 12).toInt = 0 → RF (I221 102) v4 (I 102 0).toInt := (fun hz => RF.fr (by have z := hq_1 (PMp.bad (PMp.tr (PMp.tr (PMp.refl M) m204) m231) hz); rw [show (I195 102) = M 102 from (Fr.eq f202)]; exact z) f227.1 (show v4.toInt = 1350 + 9 * (I 97 27).toInt by omega) (by first | (clear d184 i207 d218 e219 q232; omega) | omega) (by first | (clear d184 i207 d218 e219 q232; omega) | omega))
              exact ih.2.2.2.2.1 _ _ _ _ hB223 f228 (PMp.tr (PMp.tr hpm m204) m231) (hb_v3) hv243 hv246 (by have q0 : (v3 : Int32).toInt = v3.toInt := rfl; have q1 : (v4 : Int32).toInt = v4.toInt := rfl; have q2 : ((I221 97 27) : Int32).toInt = (I221 97 27).toInt := rfl; have q3 : ((I221 97 27) : Int32).toInt = (I221 97 27).toInt := rfl; have q4 : ((I221 97 12) : Int32).toInt = (I221 97 12).toInt := rfl; omega) (by have q0 : ((I221 97 12) : Int32).toInt = (I221 97 12).toInt := rfl; omega)
      · skip
        intro v3 v4 M JM hB hf hpm hb_v3 hq_0 hq_1 hi hm
        have i_v3 := i32 v3
        have i_v4 := i32 v4
        refine sg_X12_readStep_170 hc _ _ _ _ _ ?_
        have b247 := Bd.o hB io9_112_97_12 bd9_12_12
        have b248 := Bd.o hB io9_112_97_12 bd9_12_27
        refine ⟨fun c249 => ?_, fun c249 => ?_⟩
        · skip
          have d250 : ((v3.toInt) : Int) = (0) := ci_eq rfl rfl c249
          have e251 : ((v4 + 8) : Int32).toInt = (v4.toInt) + (8) := ti_add rfl rfl (by omega)
          refine ⟨vp_of (a := (v4.toInt + 8)) e251 (by omega) (by omega), ?_⟩
          have hB252 : Bd (uI M 102 (Int32.toNatClampNeg (v4 + 8)) (M 97 27)) := Bd.cnew hB (show ((v4 + 8) : Int32).toInt = (v4.toInt + 8) from e251) (show ((M 97 27) : Int32).toInt = (M 97 27).toInt from rfl) (by omega) (by omega) (by omega) 
          have f253 : Fr (pB (1350 + 9 * (I 97 27).toInt)) I (uI M 102 (Int32.toNatClampNeg (v4 + 8)) (M 97 27)) := Fr.w hf (show ((v4 + 8) : Int32).toInt = (v4.toInt + 8) from e251) (by omega) (fun j hj hp => by unfold pB at hp; omega)
          have mu254 := Bd.mu hB252
          have mu255 := (show PMp M (uI M 102 (Int32.toNatClampNeg (v4 + 8)) (M 97 27)) from (PMp.o (PMp.refl M) (show ¬ (97 : Nat) = 102 by decide))).1
          have e256 : (((uI M 102 (Int32.toNatClampNeg (v4 + 8)) (M 97 27)) 97 27) : Int32).toInt = (M 97 27).toInt := Eq.trans (congrArg Int32.toInt (rd_ne (by first | decide | omega))) rfl
          have w257 : (((uI M 102 (Int32.toNatClampNeg (v4 + 8)) (M 97 27)) 97 27) : Int32).toInt = (M 97 27).toInt := e256
          have w258 : ((M 97 27) : Int32).toInt = (M 97 27).toInt := rfl
          have w259 : ((M 97 27) : Int32).toInt = (M 97 27).toInt := rfl
          exact hQ _ _ _ _ hB252 ⟨f253, (PMp.o hpm (show ¬ (97 : Nat) = 102 by decide)), ⟨Or.inr (by omega), by omega, fun hz => by rw [uI_eq]; exact NR.close (by have z := hq_0 (PMp.bad (PMp.o (PMp.refl M) (show ¬ (97 : Nat) = 102 by decide)) hz); have z27 : ((uI M 102 (Int32.toNatClampNeg (v4 + 8)) (M 97 27)) 97 27).toInt = (M 97 27).toInt := (by omega); rw [z27]; exact z) (show v4.toInt = 1350 + 9 * (I 97 27).toInt by omega) (by omega) (by omega) (hq_1 (PMp.bad (PMp.o (PMp.refl M) (show ¬ (97 : Nat) = 102 by decide)) hz)) (by omega)⟩⟩
        · skip
          have d260 : ¬ ((v3.toInt) : Int) = (0) := ci_ne rfl rfl c249
          refine sp_X12_isEnd hB hR0 (fun x261 y266 I262 J263 hB264 p265 => ?_)
          intro o267
          have hh268 := Hid.i p265
          clear p265
          have f269 : Fr pT M I262 := (Hid.o hh268).2.2.2.2.1
          have f270 : Fr (pB (1350 + 9 * (I 97 27).toInt)) I I262 := Fr.tr hf f269 (fun _ _ => trivial)
          have m271 : PMp M I262 := (PMp.keep (Hid.o hh268).1 (Hid.o hh268).2.2.1 (Hid.o hh268).2.2.2.1)
          have wr272 := (Hid.o hh268).2.2.2.2.2
          have b273 := Bd.o hB io9_112_97_12 bd9_12_14
          have i274 := i32 x261
          refine sp_X12_must hB264 hR0 (fun x275 y280 I276 J277 hB278 p279 => ?_)
          have hh281 := Hid.i p279
          clear p279
          have f282 : Fr pT I262 I276 := (Hid.o hh281).2.1
          have f283 : Fr (pB (1350 + 9 * (I 97 27).toInt)) I I276 := Fr.tr f270 f282 (fun _ _ => trivial)
          have m284 : PMp I262 I276 := (PMp.mk (Hid.o hh281).2.2.1 (Hid.o hh281).2.2.2.1)
          have e285 : ((I262 97 12) : Int32).toInt = (M 97 12).toInt := Eq.trans (congrArg Int32.toInt (Hid.o hh268).1) rfl
          have e286 : ((I262 97 14) : Int32).toInt = (M 97 14).toInt := Eq.trans (congrArg Int32.toInt (Hid.o hh268).2.2.1) rfl
          have b287 := Bd.o hB io9_112_97_12 bd9_12_16
          have e288 : ((I262 97 16) : Int32).toInt = (M 97 16).toInt := Eq.trans (congrArg Int32.toInt (Hid.o hh268).2.2.2.1) rfl
          have b289 := Bd.o hB278 io9_112_97_12 bd9_12_12
          have b290 := Bd.o hB278 io9_112_97_12 bd9_12_14
          have b291 := Bd.o hB278 io9_112_97_12 bd9_12_16
          refine sp_X12_isSign hB278 hR0 (fun x292 y297 I293 J294 hB295 p296 => ?_)
          intro o298
          have hh299 := Hid.i p296
          clear p296
          have f300 : Fr pT I276 I293 := (Hid.o hh299).2.2.2.2.1
          have f301 : Fr (pB (1350 + 9 * (I 97 27).toInt)) I I293 := Fr.tr f283 f300 (fun _ _ => trivial)
          have m302 : PMp I276 I293 := (PMp.keep (Hid.o hh299).1 (Hid.o hh299).2.2.1 (Hid.o hh299).2.2.2.1)
          have q303 : (59 : Int32).toInt = 59 := rfl
          have i304 := i32 x292
          refine sp_X12_must hB295 hR0 (fun x305 y310 I306 J307 hB308 p309 => ?_)
          have hh311 := Hid.i p309
          clear p309
          have f312 : Fr pT I293 I306 := (Hid.o hh311).2.1
          have f313 : Fr (pB (1350 + 9 * (I 97 27).toInt)) I I306 := Fr.tr f301 f312 (fun _ _ => trivial)
          have m314 : PMp I293 I306 := (PMp.mk (Hid.o hh311).2.2.1 (Hid.o hh311).2.2.2.1)
          have e315 : ((I293 97 12) : Int32).toInt = (I276 97 12).toInt := Eq.trans (congrArg Int32.toInt (Hid.o hh299).1) rfl
          have e316 : ((I293 97 14) : Int32).toInt = (I276 97 14).toInt := Eq.trans (congrArg Int32.toInt (Hid.o hh299).2.2.1) rfl
          have e317 : ((I293 97 16) : Int32).toInt = (I276 97 16).toInt := Eq.trans (congrArg Int32.toInt (Hid.o hh299).2.2.2.1) rfl
          have b318 := Bd.o hB308 io9_112_97_12 bd9_12_12
          have b319 := Bd.o hB308 io9_112_97_12 bd9_12_14
          have b320 := Bd.o hB308 io9_112_97_12 bd9_12_16
          have e321 : ((v4 + 8) : Int32).toInt = (v4.toInt) + (8) := ti_add rfl rfl (by first | (clear b247 b248 d260 p265 b273 i274 p279 e285 e286 b287 e288 b289 b290 b291 p296 i304 p309 e315 e316 e317 b318 b319 b320; omega) | omega)
          refine ⟨vp_of (a := (v4.toInt + 8)) e321 (by first | (clear b247 b248 d260 p265 b273 i274 p279 e285 e286 b287 e288 b289 b290 b291 p296 i304 p309 e315 e316 e317 b318 b319 b320; omega) | omega) (by first | (clear b247 b248 d260 p265 b273 i274 p279 e285 e286 b287 e288 b289 b290 b291 p296 i304 p309 e315 e316 e317 b318 b319 b320; omega) | omega), ?_⟩
          have e323 : ((I306 97 27) : Int32).toInt = (M 97 27).toInt := Eq.trans (congrArg Int32.toInt (Eq.trans (Eq.trans (Eq.trans (Hid.o hh311).1 (Hid.o hh299).2.1) (Hid.o hh281).1) (Hid.o hh268).2.1)) rfl
          have hB322 : Bd (uI I306 102 (Int32.toNatClampNeg (v4 + 8)) (I306 97 27)) := Bd.cnew hB308 (show ((v4 + 8) : Int32).toInt = (v4.toInt + 8) from e321) (show ((I306 97 27) : Int32).toInt = (M 97 27).toInt from e323) (by first | (clear d260 p265 i274 p279 b289 b290 b291 p296 i304 e315 e316 e317; omega) | omega) (by first | (clear d260 p265 i274 p279 b289 b290 b291 p296 i304 e315 e316 e317; omega) | omega) (by first | (clear d260 p265 i274 p279 b289 b290 b291 p296 i304 e315 e316 e317; omega) | omega) 
          have f324 : Fr (pB (1350 + 9 * (I 97 27).toInt)) I (uI I306 102 (Int32.toNatClampNeg (v4 + 8)) (I306 97 27)) := Fr.w f313 (show ((v4 + 8) : Int32).toInt = (v4.toInt + 8) from e321) (by first | (clear b247 b248 d260 p265 b273 i274 p279 e285 e286 b287 e288 b289 b290 b291 p296 i304 e315 e316 e317; omega) | omega) (fun j hj hp => by unfold pB at hp; omega)
          have mu325 := Bd.mu hB322
          have mu326 := (show PMp M (uI I306 102 (Int32.toNatClampNeg (v4 + 8)) (I306 97 27)) from (PMp.o (PMp.tr (PMp.tr (PMp.tr (PMp.tr (PMp.refl M) m271) m284) m302) m314) (show ¬ (97 : Nat) = 102 by decide))).1
          have e327 : (((uI I306 102 (Int32.toNatClampNeg (v4 + 8)) (I306 97 27)) 97 27) : Int32).toInt = (M 97 27).toInt := Eq.trans (congrArg Int32.toInt (Eq.trans (Eq.trans (Eq.trans (Eq.trans (rd_ne (by first | decide | omega)) (Hid.o hh311).1) (Hid.o hh299).2.1) (Hid.o hh281).1) (Hid.o hh268).2.1)) rfl
          have w328 : (((uI I306 102 (Int32.toNatClampNeg (v4 + 8)) (I306 97 27)) 97 27) : Int32).toInt = (M 97 27).toInt := e327
          have w329 : ((I306 97 27) : Int32).toInt = (M 97 27).toInt := e323
          have w330 : ((I306 97 27) : Int32).toInt = (M 97 27).toInt := e323
          exact hQ _ _ _ _ hB322 ⟨f324, (PMp.o (PMp.tr (PMp.tr (PMp.tr (PMp.tr hpm m271) m284) m302) m314) (show ¬ (97 : Nat) = 102 by decide)), ⟨Or.inr (by first | (clear d260 p265 i274 p279 b289 b290 b291 p296 i304 e315 e316 e317; omega) | omega), by omega, fun hz => by rw [uI_eq, show (I306 102) = M 102 from (Eq.trans (Eq.trans (Eq.trans (Fr.eq f312) (Fr.eq f300)) (Fr.eq f282)) (Fr.eq f269))]; exact NR.close (by have z := hq_0 (PMp.bad (PMp.o (PMp.tr (PMp.tr (PMp.tr (PMp.tr (PMp.refl M) m271) m284) m302) m314) (show ¬ (97 : Nat) = 102 by decide)) hz); have z27 : ((uI I306 102 (Int32.toNatClampNeg (v4 + 8)) (I306 97 27)) 97 27).toInt = (M 97 27).toInt := (by first | (clear d260 p265 i274 p279 b289 b290 b291 p296 i304 e315 e316 e317; omega) | omega); rw [z27]; exact z) (show v4.toInt = 1350 + 9 * (I 97 27).toInt by omega) (by first | (clear d260 p265 i274 p279 b289 b290 b291 p296 i304 e315 e316 e317; omega) | omega) (by first | (clear d260 p265 i274 p279 b289 b290 b291 p296 i304 e315 e316 e317; omega) | omega) (hq_1 (PMp.bad (PMp.o (PMp.tr (PMp.tr (PMp.tr (PMp.tr (PMp.refl M) m271) m284) m302) m314) (show ¬ (97 : Nat) = 102 by decide)) hz)) (by first | (clear d260 p265 i274 p279 b289 b290 b291 p296 i304 e315 e316 e317; omega) | omega)⟩⟩
  refine sg_X12_readStep_0 hc _ _ _ _ ?_
  refine sp_X12_stepWord hB0 hR0 (fun x331 y336 I332 J333 hB334 p335 => ?_)
  have hh337 := Hid.i p335
  clear p335
  have f338 : Fr pT I I332 := (Hid.o hh337).2.2.2.2.1
  have f339 : Fr (pB (1350 + 9 * (I 97 27).toInt)) I I332 := Fr.tr (Fr.refl _ _) f338 (fun _ _ => trivial)
  have m340 : PMp I I332 := (PMp.keep (Hid.o hh337).1 (Hid.o hh337).2.2.1 (Hid.o hh337).2.2.2.1)
  have wr341 := (Hid.o hh337).2.2.2.2.2
  have b342 := Bd.o hB0 io9_112_97_12 bd9_12_14
  have i343 := i32 x331
  refine ⟨fun c344 => ?_, fun c344 => ?_⟩
  · skip
    have d345 : ((x331.toInt) : Int) = (6) := ci_eq rfl rfl c344
    have cb346 : (I332 97 12).toInt = 0 → (I 97 12).toInt = 0 := ((PMp.tr (PMp.refl I) m340)).2
    have e347 : ((I332 97 14) : Int32).toInt = (I 97 14).toInt := Eq.trans (congrArg Int32.toInt (Hid.o hh337).2.2.1) rfl
    have b348 := Bd.o hB0 io9_112_97_12 bd9_12_27
    have e349 : ((I332 97 27) : Int32).toInt = (I 97 27).toInt := Eq.trans (congrArg Int32.toInt (Hid.o hh337).2.1) rfl
    exact (L 1000000).1 _ _ _ hB334 f339 (PMp.tr (PMp.refl I) m340) (by have q0 : (x331 : Int32).toInt = x331.toInt := rfl; have q1 : ((I332 97 14) : Int32).toInt = (I 97 14).toInt := e347; have q2 : ((I332 97 27) : Int32).toInt = (I 97 27).toInt := e349; omega) (by omega)
  · skip
    have d350 : ¬ ((x331.toInt) : Int) = (6) := ci_ne rfl rfl c344
    refine ⟨fun c351 => ?_, fun c351 => ?_⟩
    · skip
      have d352 : ¬ ((x331.toInt) : Int) = (7) := ci_ne rfl rfl c351
      refine ⟨fun c353 => ?_, fun c353 => ?_⟩
      · skip
        have d354 : ((0) : Int) ≤ (x331.toInt) := ci_le rfl rfl c353
        have cb355 : (I332 97 12).toInt = 0 → (I 97 12).toInt = 0 := ((PMp.tr (PMp.refl I) m340)).2
        have b356 := Bd.o hB0 io9_112_97_12 bd9_12_12
        have e357 : ((I332 97 12) : Int32).toInt = (I 97 12).toInt := Eq.trans (congrArg Int32.toInt (Hid.o hh337).1) rfl
        have e358 : ((I332 97 14) : Int32).toInt = (I 97 14).toInt := Eq.trans (congrArg Int32.toInt (Hid.o hh337).2.2.1) rfl
        have b359 := Bd.o hB0 io9_112_97_12 bd9_12_27
        have e360 : ((I332 97 27) : Int32).toInt = (I 97 27).toInt := Eq.trans (congrArg Int32.toInt (Hid.o hh337).2.1) rfl
        exact (L 1000000).2.1 _ _ _ _ hB334 f339 (PMp.tr (PMp.refl I) m340) (Or.inl rfl) (by have q0 : (x331 : Int32).toInt = x331.toInt := rfl; have q1 : (0 : Int32).toInt = 0 := rfl; have q2 : ((I332 97 12) : Int32).toInt = (I 97 12).toInt := e357; have q3 : ((I332 97 14) : Int32).toInt = (I 97 14).toInt := e358; have q4 : ((I332 97 27) : Int32).toInt = (I 97 27).toInt := e360; omega) (by omega)
      · skip
        have d361 : ((x331.toInt) : Int) < (0) := ci_nle rfl rfl c353
        refine sp_X12_amiss hB334 hR0 (fun x362 y367 I363 J364 hB365 p366 => ?_)
        have hh368 := Hid.i p366
        clear p366
        have f369 : Fr pT I332 I363 := (Hid.o hh368).2.2.2.2.1
        have f370 : Fr (pB (1350 + 9 * (I 97 27).toInt)) I I363 := Fr.tr f339 f369 (fun _ _ => trivial)
        have m371 : PMp I332 I363 := (PMp.fail (Hid.o hh368).2.1 (Hid.o hh368).2.2.1 (Hid.o hh368).2.2.2.2.2)
        have wr372 := (Hid.o hh368).2.2.2.2.2
        have b373 := Bd.o hB365 io9_112_97_12 bd9_12_12
        have cb374 : (I363 97 12).toInt = 0 → (I 97 12).toInt = 0 := ((PMp.tr (PMp.tr (PMp.refl I) m340) m371)).2
        have cb375 : (I363 97 12).toInt = 0 → (I363 97 12).toInt = 0 := ((PMp.refl I363)).2
        have e376 : ((I363 97 14) : Int32).toInt = (I 97 14).toInt := Eq.trans (congrArg Int32.toInt (Eq.trans (Hid.o hh368).2.1 (Hid.o hh337).2.2.1)) rfl
        have b377 := Bd.o hB0 io9_112_97_12 bd9_12_27
        have e378 : ((I363 97 27) : Int32).toInt = (I 97 27).toInt := Eq.trans (congrArg Int32.toInt (Eq.trans (Hid.o hh368).1 (Hid.o hh337).2.1)) rfl
        exact (L 1000000).2.1 _ _ _ _ hB365 f370 (PMp.tr (PMp.tr (PMp.refl I) m340) m371) (Or.inl rfl) (by have q0 : (x331 : Int32).toInt = x331.toInt := rfl; have q1 : (0 : Int32).toInt = 0 := rfl; have q2 : ((I363 97 12) : Int32).toInt = (I363 97 12).toInt := rfl; have q3 : ((I363 97 14) : Int32).toInt = (I 97 14).toInt := e376; have q4 : ((I363 97 27) : Int32).toInt = (I 97 27).toInt := e378; omega) (by omega)
    · skip
      have d379 : ((x331.toInt) : Int) = (7) := ci_eq rfl rfl c351
      have cb380 : (I332 97 12).toInt = 0 → (I 97 12).toInt = 0 := ((PMp.tr (PMp.refl I) m340)).2
      have e381 : ((I332 97 14) : Int32).toInt = (I 97 14).toInt := Eq.trans (congrArg Int32.toInt (Hid.o hh337).2.2.1) rfl
      have b382 := Bd.o hB0 io9_112_97_12 bd9_12_27
      have e383 : ((I332 97 27) : Int32).toInt = (I 97 27).toInt := Eq.trans (congrArg Int32.toInt (Hid.o hh337).2.1) rfl
      exact (L 1000000).1 _ _ _ hB334 f339 (PMp.tr (PMp.refl I) m340) (by have q0 : (x331 : Int32).toInt = x331.toInt := rfl; have q1 : ((I332 97 14) : Int32).toInt = (I 97 14).toInt := e381; have q2 : ((I332 97 27) : Int32).toInt = (I 97 27).toInt := e383; omega) (by omega)
theorem sp_X12_readStep {d : Nat} {Q : Qt} {v1 : Int32} {I : Im} {J : Jm} {R : Rm} (hB0 : Bd I) (hR0 : RI R) (hv1 : 0 ≤ v1.toInt ∧ v1.toInt ≤ 3) (hQ : ∀ (x : Int32) (y : Int64) (I2 : Im) (J2 : Jm), Bd I2 → (Fr (pB (1350 + 9 * (I 97 27).toInt)) I I2 ∧ PMp I I2 ∧ (Prog I I2 ∧ (I 97 27).toInt ≤ (I2 97 27).toInt ∧ ((I2 97 12).toInt = 0 → NR (I2 102) (I 97 27).toInt (I2 97 27).toInt (I 102 0).toInt))) → Q x y I2 J2 R) : AM (d + 14) 236 112 [.ref 97, .int v1] I J R Q := sp_X12_readStep_r 4 (d := d) hB0 hR0 hv1 (by omega) hQ
