set_option maxHeartbeats 2000000 in
theorem sp_X12_readSlices {d : Nat} {Q : Qt} {I : Im} {J : Jm} {R : Rm} (hB0 : Bd I) (hR0 : RI R) (hQ : ∀ (x : Int32) (y : Int64) (I2 : Im) (J2 : Jm), Bd I2 → (I2 97 27 = I 97 27 ∧ Fr pT I I2 ∧ ((2 * (901 - (I2 97 16).toInt) + min (I2 97 14).toInt 1) ≤ (2 * (901 - (I 97 16).toInt) + min (I 97 14).toInt 1) ∧ ((I 97 12).toInt = 0 ∨ 1 ≤ (I2 97 12).toInt) ∧ 0 ≤ x.toInt)) → Q x y I2 J2 R) : AM (d + 5) 219 112 [.ref 97] I J R Q := by
  refine am_X12_readSlices (fun P hc => ?_)
  have L : ∀ n : Nat, (∀ (v1 : Int32) (M : Im) (JM : Jm), Bd M → (M 97 27 = I 97 27) → Fr pT I M → (0 ≤ v1.toInt ∧ (M 97 16).toInt ≤ 900 ∧ 0 ≤ (M 97 14).toInt ∧ ((I 97 12).toInt = 0 ∨ 1 ≤ (M 97 12).toInt) ∧ (2 * (901 - (M 97 16).toInt) + min (M 97 14).toInt 1) ≤ (2 * (901 - (I 97 16).toInt) + min (I 97 14).toInt 1)) → 10 * (2 * (901 - (M 97 16).toInt) + min (M 97 14).toInt 1) + (5 - 5 * min (M 97 12).toInt 1) < (n : Int) → P 2 112 [(0, .ref 97), (1, .int v1)] [] M JM R) ∧ (∀ (v1 : Int32) (M : Im) (JM : Jm), Bd M → (M 97 27 = I 97 27) → Fr pT I M → (0 ≤ v1.toInt ∧ (M 97 16).toInt ≤ 900 ∧ 1 ≤ (M 97 14).toInt ∧ ((I 97 12).toInt = 0 ∨ 1 ≤ (M 97 12).toInt) ∧ (2 * (901 - (M 97 16).toInt) + min (M 97 14).toInt 1) ≤ (2 * (901 - (I 97 16).toInt) + min (I 97 14).toInt 1)) → 10 * (2 * (901 - (M 97 16).toInt) + min (M 97 14).toInt 1) + 3 < (n : Int) → P 53 112 [(0, .ref 97), (1, .int v1)] [] M JM R) := by
    intro n
    induction n with
    | zero =>
      exact ⟨fun v1 M J _ _ _ hi hm => absurd hm (by omega), fun v1 M J _ _ _ hi hm => absurd hm (by omega)⟩
    | succ n ih =>
      refine ⟨?_, ?_⟩
      · skip
        intro v1 M JM hB hk_97_27 hf hi hm
        have i_v1 := i32 v1
        refine sg_X12_readSlices_2 hc _ _ _ _ ?_
        have b1 := Bd.o hB io9_112_97_12 bd9_12_12
        have b2 := Bd.o hB io9_112_97_12 bd9_12_14
        have b3 := Bd.o hB io9_112_97_12 bd9_12_16
        refine ⟨fun c4 => ?_, fun c4 => ?_⟩
        · skip
          have d5 : ¬ (((M 97 12).toInt) : Int) = (0) := ci_ne rfl rfl c4
          have b6 := Bd.o hB0 io9_112_97_12 bd9_12_12
          have b7 := Bd.o hB0 io9_112_97_12 bd9_12_14
          have b8 := Bd.o hB0 io9_112_97_12 bd9_12_16
          exact hQ _ _ _ _ hB ⟨hk_97_27, hf, (by have q4 : ((M 97 12) : Int32).toInt = (M 97 12).toInt := rfl; have q5 : ((M 97 14) : Int32).toInt = (M 97 14).toInt := rfl; have q6 : ((M 97 16) : Int32).toInt = (M 97 16).toInt := rfl; have q0 : (v1 : Int32).toInt = v1.toInt := rfl; omega)⟩
        · skip
          have d9 : (((M 97 12).toInt) : Int) = (0) := ci_eq rfl rfl c4
          refine ⟨fun c10 => ?_, fun c10 => ?_⟩
          · skip
            have d11 : ¬ (((M 97 14).toInt) : Int) = (2) := ci_ne rfl rfl c10
            have b12 := Bd.o hB0 io9_112_97_12 bd9_12_12
            have b13 := Bd.o hB0 io9_112_97_12 bd9_12_14
            have b14 := Bd.o hB0 io9_112_97_12 bd9_12_16
            exact hQ _ _ _ _ hB ⟨hk_97_27, hf, (by have q4 : ((M 97 12) : Int32).toInt = (M 97 12).toInt := rfl; have q5 : ((M 97 14) : Int32).toInt = (M 97 14).toInt := rfl; have q6 : ((M 97 16) : Int32).toInt = (M 97 16).toInt := rfl; have q0 : (v1 : Int32).toInt = v1.toInt := rfl; omega)⟩
          · skip
            have d15 : (((M 97 14).toInt) : Int) = (2) := ci_eq rfl rfl c10
            refine sp_X12_mayBe hB hR0 (fun x16 y21 I17 J18 hB19 p20 => ?_)
            have f22 : Fr pT M I17 := p20.2.2.2.2.1
            have f23 : Fr pT I I17 := Fr.tr hf f22 (fun _ _ => trivial)
            have q24 : (1 : Int32).toInt = 1 := rfl
            have q25 : (30 : Int32).toInt = 30 := rfl
            have b26 := Bd.o hB19 io9_112_97_12 bd9_12_12
            have e27 : ((I17 97 17) : Int32).toInt = (M 97 17).toInt := Eq.trans (congrArg Int32.toInt p20.2.2.2.1) rfl
            refine ⟨fun c28 => ?_, fun c28 => ?_⟩
            · skip
              have d29 : ¬ (((I17 97 12).toInt) : Int) = (0) := ci_ne rfl rfl c28
              have e30 : ((I17 97 16) : Int32).toInt = (M 97 16).toInt := Eq.trans (congrArg Int32.toInt p20.2.2.1) rfl
              have e31 : ((I17 97 14) : Int32).toInt = (M 97 14).toInt := Eq.trans (congrArg Int32.toInt p20.2.1) rfl
              exact ih.2 _ _ _ hB19 (Eq.trans p20.1 hk_97_27) f23 (by have q0 : (v1 : Int32).toInt = v1.toInt := rfl; have q1 : ((I17 97 16) : Int32).toInt = (M 97 16).toInt := e30; have q2 : ((I17 97 14) : Int32).toInt = (M 97 14).toInt := e31; have q3 : ((I17 97 12) : Int32).toInt = (I17 97 12).toInt := rfl; have q4 : ((I17 97 16) : Int32).toInt = (M 97 16).toInt := e30; have q5 : ((I17 97 14) : Int32).toInt = (M 97 14).toInt := e31; omega) (by have q0 : ((I17 97 16) : Int32).toInt = (M 97 16).toInt := e30; have q1 : ((I17 97 14) : Int32).toInt = (M 97 14).toInt := e31; omega)
            · skip
              have d32 : (((I17 97 12).toInt) : Int) = (0) := ci_eq rfl rfl c28
              refine w_X12_isOf ?_
              refine ⟨fun c33 => ?_, fun c33 => ?_⟩
              · skip
                have d34 : ¬ (((((v1 >>> (((I17 97 17) - 1) &&& 31)) &&& 1) : Int32).toInt) : Int) = (1) := ci_ne rfl rfl c33
                refine ⟨Or.inl rfl, ?_⟩
                intro o35
                refine ⟨fun c36 => ?_, fun c36 => ?_⟩
                · skip
                  have e37 : ((I17 97 16) : Int32).toInt = (M 97 16).toInt := Eq.trans (congrArg Int32.toInt p20.2.2.1) rfl
                  have e38 : ((I17 97 14) : Int32).toInt = (M 97 14).toInt := Eq.trans (congrArg Int32.toInt p20.2.1) rfl
                  exact ih.2 _ _ _ hB19 (Eq.trans p20.1 hk_97_27) f23 (by have q0 : (v1 : Int32).toInt = v1.toInt := rfl; have q1 : ((I17 97 16) : Int32).toInt = (M 97 16).toInt := e37; have q2 : ((I17 97 14) : Int32).toInt = (M 97 14).toInt := e38; have q3 : ((I17 97 12) : Int32).toInt = (I17 97 12).toInt := rfl; have q4 : ((I17 97 16) : Int32).toInt = (M 97 16).toInt := e37; have q5 : ((I17 97 14) : Int32).toInt = (M 97 14).toInt := e38; omega) (by have q0 : ((I17 97 16) : Int32).toInt = (M 97 16).toInt := e37; have q1 : ((I17 97 14) : Int32).toInt = (M 97 14).toInt := e38; omega)
                · exact absurd c36 (by decide)
              · skip
                have d39 : (((((v1 >>> (((I17 97 17) - 1) &&& 31)) &&& 1) : Int32).toInt) : Int) = (1) := ci_eq rfl rfl c33
                refine ⟨Or.inr rfl, ?_⟩
                intro o40
                refine ⟨fun c41 => ?_, fun c41 => ?_⟩
                · exact absurd c41 (by decide)
                · skip
                  refine sp_X12_fail hB19 hR0 (by have z : (5 : Int32).toInt = 5 := rfl; omega) (fun x42 y47 I43 J44 hB45 p46 => ?_)
                  have f48 : Fr pT I17 I43 := p46.2.2.2.2.1
                  have f49 : Fr pT I I43 := Fr.tr f23 f48 (fun _ _ => trivial)
                  have q50 : (5 : Int32).toInt = 5 := rfl
                  have b51 := Bd.o hB19 io9_112_97_12 bd9_12_15
                  have q52 : ((I17 97 15) : Int32).toInt = (I17 97 15).toInt := rfl
                  have b53 := Bd.o hB45 io9_112_97_12 bd9_12_12
                  have e54 : ((I43 97 16) : Int32).toInt = (M 97 16).toInt := Eq.trans (congrArg Int32.toInt (Eq.trans p46.2.2.1 p20.2.2.1)) rfl
                  have e55 : ((I43 97 14) : Int32).toInt = (M 97 14).toInt := Eq.trans (congrArg Int32.toInt (Eq.trans p46.2.1 p20.2.1)) rfl
                  exact ih.2 _ _ _ hB45 (Eq.trans (Eq.trans p46.1 p20.1) hk_97_27) f49 (by have q0 : (v1 : Int32).toInt = v1.toInt := rfl; have q1 : ((I43 97 16) : Int32).toInt = (M 97 16).toInt := e54; have q2 : ((I43 97 14) : Int32).toInt = (M 97 14).toInt := e55; have q3 : ((I43 97 12) : Int32).toInt = (I43 97 12).toInt := rfl; have q4 : ((I43 97 16) : Int32).toInt = (M 97 16).toInt := e54; have q5 : ((I43 97 14) : Int32).toInt = (M 97 14).toInt := e55; omega) (by have q0 : ((I43 97 16) : Int32).toInt = (M 97 16).toInt := e54; have q1 : ((I43 97 14) : Int32).toInt = (M 97 14).toInt := e55; omega)
      · skip
        intro v1 M JM hB hk_97_27 hf hi hm
        have i_v1 := i32 v1
        refine sg_X12_readSlices_53 hc _ _ _ _ ?_
        have b56 := Bd.o hB io9_112_97_12 bd9_12_12
        have b57 := Bd.o hB io9_112_97_12 bd9_12_14
        have b58 := Bd.o hB io9_112_97_12 bd9_12_16
        refine sp_X12_count hB hR0 (fun x59 y64 I60 J61 hB62 p63 => ?_)
        have f65 : Fr pT M I60 := p63.2.1
        have f66 : Fr pT I I60 := Fr.tr hf f65 (fun _ _ => trivial)
        have q67 : (1 : Int32).toInt = 1 := rfl
        have q68 : (30 : Int32).toInt = 30 := rfl
        have b69 := Bd.o hB62 io9_112_97_12 bd9_12_12
        have b70 := Bd.o hB62 io9_112_97_12 bd9_12_14
        have b71 := Bd.o hB62 io9_112_97_12 bd9_12_16
        have i72 := i32 x59
        refine ⟨fun c73 => ?_, fun c73 => ?_⟩
        · skip
          have d74 : ¬ (((I60 97 12).toInt) : Int) = (0) := ci_ne rfl rfl c73
          have s75 := ori (show (v1 : Int32).toInt = v1.toInt from rfl) (show (0 : Int32).toInt = 0 from rfl) (by omega) (by omega)
          exact ih.1 _ _ _ hB62 (Eq.trans p63.1 hk_97_27) f66 (by have q0 : ((v1 ||| 0) : Int32).toInt = ((v1 ||| 0) : Int32).toInt := rfl; have q1 : ((I60 97 16) : Int32).toInt = (I60 97 16).toInt := rfl; have q2 : ((I60 97 14) : Int32).toInt = (I60 97 14).toInt := rfl; have q3 : ((I60 97 12) : Int32).toInt = (I60 97 12).toInt := rfl; have q4 : ((I60 97 16) : Int32).toInt = (I60 97 16).toInt := rfl; have q5 : ((I60 97 14) : Int32).toInt = (I60 97 14).toInt := rfl; omega) (by have q0 : ((I60 97 16) : Int32).toInt = (I60 97 16).toInt := rfl; have q1 : ((I60 97 14) : Int32).toInt = (I60 97 14).toInt := rfl; have q2 : ((I60 97 12) : Int32).toInt = (I60 97 12).toInt := rfl; omega)
        · skip
          have d76 : (((I60 97 12).toInt) : Int) = (0) := ci_eq rfl rfl c73
          have e77 : ((x59 - 1) : Int32).toInt = (x59.toInt) - (1) := ti_sub rfl rfl (by omega)
          have s78 := shlp (show ((x59 - 1) : Int32).toInt = (x59.toInt - 1) from e77) (by omega)
          have s79 := ori (show (v1 : Int32).toInt = v1.toInt from rfl) (show ((1 <<< ((x59 - 1) &&& 31)) : Int32).toInt = ((1 <<< ((x59 - 1) &&& 31)) : Int32).toInt from rfl) (by omega) (by omega)
          exact ih.1 _ _ _ hB62 (Eq.trans p63.1 hk_97_27) f66 (by have q0 : ((v1 ||| (1 <<< ((x59 - 1) &&& 31))) : Int32).toInt = ((v1 ||| (1 <<< ((x59 - 1) &&& 31))) : Int32).toInt := rfl; have q1 : ((I60 97 16) : Int32).toInt = (I60 97 16).toInt := rfl; have q2 : ((I60 97 14) : Int32).toInt = (I60 97 14).toInt := rfl; have q3 : ((I60 97 12) : Int32).toInt = (I60 97 12).toInt := rfl; have q4 : ((I60 97 16) : Int32).toInt = (I60 97 16).toInt := rfl; have q5 : ((I60 97 14) : Int32).toInt = (I60 97 14).toInt := rfl; omega) (by have q0 : ((I60 97 16) : Int32).toInt = (I60 97 16).toInt := rfl; have q1 : ((I60 97 14) : Int32).toInt = (I60 97 14).toInt := rfl; have q2 : ((I60 97 12) : Int32).toInt = (I60 97 12).toInt := rfl; omega)
  refine sg_X12_readSlices_0 hc _ _ _ ?_
  have b80 := Bd.o hB0 io9_112_97_12 bd9_12_16
  have b81 := Bd.o hB0 io9_112_97_12 bd9_12_14
  have b82 := Bd.o hB0 io9_112_97_12 bd9_12_12
  exact (L 1000000).1 _ _ _ hB0 rfl (Fr.refl _ _) (by have q0 : (0 : Int32).toInt = 0 := rfl; have q1 : ((I 97 16) : Int32).toInt = (I 97 16).toInt := rfl; have q2 : ((I 97 14) : Int32).toInt = (I 97 14).toInt := rfl; have q3 : ((I 97 12) : Int32).toInt = (I 97 12).toInt := rfl; have q4 : ((I 97 16) : Int32).toInt = (I 97 16).toInt := rfl; have q5 : ((I 97 14) : Int32).toInt = (I 97 14).toInt := rfl; omega) (by have q0 : ((I 97 16) : Int32).toInt = (I 97 16).toInt := rfl; have q1 : ((I 97 14) : Int32).toInt = (I 97 14).toInt := rfl; have q2 : ((I 97 12) : Int32).toInt = (I 97 12).toInt := rfl; omega)
