set_option maxHeartbeats 2000000 in
theorem sp_X12_readKnown {d : Nat} {Q : Qt} {I : Im} {J : Jm} {R : Rm} (hB0 : Bd I) (hR0 : RI R) (hQ : ∀ (x : Int32) (y : Int64) (I2 : Im) (J2 : Jm), Bd I2 → (I2 97 27 = I 97 27 ∧ Fr pR I I2 ∧ ((2 * (901 - (I2 97 16).toInt) + min (I2 97 14).toInt 1) ≤ (2 * (901 - (I 97 16).toInt) + min (I 97 14).toInt 1) ∧ ((I 97 12).toInt = 0 ∨ 1 ≤ (I2 97 12).toInt))) → Q x y I2 J2 R) : AM (d + 6) 229 112 [.ref 97] I J R Q := by
  refine am_X12_readKnown (fun P hc => ?_)
  have L : ∀ n : Nat, (∀ (M : Im) (JM : Jm), Bd M → (M 97 27 = I 97 27) → Fr pR I M → (((I 97 12).toInt = 0 ∨ 1 ≤ (M 97 12).toInt) ∧ (2 * (901 - (M 97 16).toInt) + min (M 97 14).toInt 1) ≤ (2 * (901 - (I 97 16).toInt) + min (I 97 14).toInt 1)) → 1 < (n : Int) → P 16 112 [(0, .ref 97)] [] M JM R) := by
    intro n
    induction n with
    | zero =>
      exact fun  M J _ _ _ hi hm => absurd hm (by omega)
    | succ n ih =>
      intro  M JM hB hk_97_27 hf hi hm
      refine sg_X12_readKnown_16 hc _ _ _ ?_
      have b1 := Bd.o hB io9_112_97_12 bd9_12_12
      have b2 := Bd.o hB io9_112_97_12 bd9_12_14
      have b3 := Bd.o hB io9_112_97_12 bd9_12_16
      refine ⟨Or.inr rfl, ?_⟩
      have hB4 : Bd (uI M 97 25 1) := Bd.o1 hB io9_112_97_12 (by omega) bd9_12_25 rfl (bl_ti (Or.inr rfl))
      have f5 : Fr pR I (uI M 97 25 1) := Fr.o hf (by decide) (by decide)
      refine sp_X12_must hB4 hR0 (fun x6 y11 I7 J8 hB9 p10 => ?_)
      have f12 : Fr pT (uI M 97 25 1) I7 := p10.2.1
      have f13 : Fr pR I I7 := Fr.tr f5 f12 (fun _ _ => trivial)
      have q14 : (1 : Int32).toInt = 1 := rfl
      have e15 : (((uI M 97 25 1) 97 12) : Int32).toInt = (M 97 12).toInt := Eq.trans (congrArg Int32.toInt (rd_k (by decide))) rfl
      have e16 : (((uI M 97 25 1) 97 14) : Int32).toInt = (M 97 14).toInt := Eq.trans (congrArg Int32.toInt (rd_k (by decide))) rfl
      have e17 : (((uI M 97 25 1) 97 16) : Int32).toInt = (M 97 16).toInt := Eq.trans (congrArg Int32.toInt (rd_k (by decide))) rfl
      have b18 := Bd.o hB9 io9_112_97_12 bd9_12_12
      have b19 := Bd.o hB9 io9_112_97_12 bd9_12_14
      have b20 := Bd.o hB9 io9_112_97_12 bd9_12_16
      refine sp_X12_readSlices hB9 hR0 (fun x21 y26 I22 J23 hB24 p25 => ?_)
      have f27 : Fr pT I7 I22 := p25.2.1
      have f28 : Fr pR I I22 := Fr.tr f13 f27 (fun _ _ => trivial)
      have b29 := Bd.o hB24 io9_112_97_12 bd9_12_12
      have b30 := Bd.o hB24 io9_112_97_12 bd9_12_14
      have b31 := Bd.o hB24 io9_112_97_12 bd9_12_16
      have i32 := i32 x21
      refine ⟨fun c33 => ?_, fun c33 => ?_⟩
      · skip
        have d34 : ¬ (((I22 97 12).toInt) : Int) = (0) := ci_ne rfl rfl c33
        have b35 := Bd.o hB0 io9_112_97_12 bd9_12_12
        have b36 := Bd.o hB0 io9_112_97_12 bd9_12_14
        have b37 := Bd.o hB0 io9_112_97_12 bd9_12_16
        exact hQ _ _ _ _ hB24 ⟨(Eq.trans (Eq.trans (Eq.trans p25.1 p10.1) (rd_k (by decide))) hk_97_27), f28, (by have q4 : ((I22 97 12) : Int32).toInt = (I22 97 12).toInt := rfl; have q5 : ((I22 97 14) : Int32).toInt = (I22 97 14).toInt := rfl; have q6 : ((I22 97 16) : Int32).toInt = (I22 97 16).toInt := rfl; omega)⟩
      · skip
        have d38 : (((I22 97 12).toInt) : Int) = (0) := ci_eq rfl rfl c33
        refine ⟨vp_of (a := 1299) rfl (by omega) (by omega), ?_⟩
        have hB39 : Bd (uI I22 102 (Int32.toNatClampNeg 1299) x21) := Bd.cknown hB24 (show (1299 : Int32).toInt = 1299 from rfl) (show (x21 : Int32).toInt = x21.toInt from rfl) (by omega) (by omega) (by omega) 
        have f40 : Fr pR I (uI I22 102 (Int32.toNatClampNeg 1299) x21) := Fr.w f28 (show (1299 : Int32).toInt = 1299 from rfl) (by omega) (fun j hj hp => by unfold pR at hp; omega)
        have b41 := Bd.o hB0 io9_112_97_12 bd9_12_12
        have b42 := Bd.o hB0 io9_112_97_12 bd9_12_14
        have b43 := Bd.o hB0 io9_112_97_12 bd9_12_16
        have e44 : (((uI I22 102 (Int32.toNatClampNeg 1299) x21) 97 12) : Int32).toInt = (I22 97 12).toInt := Eq.trans (congrArg Int32.toInt (rd_ne (by first | decide | omega))) rfl
        have e45 : (((uI I22 102 (Int32.toNatClampNeg 1299) x21) 97 14) : Int32).toInt = (I22 97 14).toInt := Eq.trans (congrArg Int32.toInt (rd_ne (by first | decide | omega))) rfl
        have e46 : (((uI I22 102 (Int32.toNatClampNeg 1299) x21) 97 16) : Int32).toInt = (I22 97 16).toInt := Eq.trans (congrArg Int32.toInt (rd_ne (by first | decide | omega))) rfl
        exact hQ _ _ _ _ hB39 ⟨(Eq.trans (Eq.trans (Eq.trans (Eq.trans (rd_ne (by first | decide | omega)) p25.1) p10.1) (rd_k (by decide))) hk_97_27), f40, (by have q4 : (((uI I22 102 (Int32.toNatClampNeg 1299) x21) 97 12) : Int32).toInt = (I22 97 12).toInt := e44; have q5 : (((uI I22 102 (Int32.toNatClampNeg 1299) x21) 97 14) : Int32).toInt = (I22 97 14).toInt := e45; have q6 : (((uI I22 102 (Int32.toNatClampNeg 1299) x21) 97 16) : Int32).toInt = (I22 97 16).toInt := e46; omega)⟩
  refine sg_X12_readKnown_0 hc _ _ _ ?_
  refine ⟨fun c47 => ?_, fun c47 => ?_⟩
  · skip
    have b48 := Bd.o hB0 io9_112_97_12 bd9_12_25
    have d49 : (((I 97 25).toInt) : Int) = (0) := ci_eq rfl rfl c47
    have b50 := Bd.o hB0 io9_112_97_12 bd9_12_12
    have b51 := Bd.o hB0 io9_112_97_12 bd9_12_16
    have b52 := Bd.o hB0 io9_112_97_12 bd9_12_14
    exact (L 1000000) _ _ hB0 rfl (Fr.refl _ _) (by have q0 : ((I 97 12) : Int32).toInt = (I 97 12).toInt := rfl; have q1 : ((I 97 16) : Int32).toInt = (I 97 16).toInt := rfl; have q2 : ((I 97 14) : Int32).toInt = (I 97 14).toInt := rfl; omega) (by omega)
  · skip
    have b53 := Bd.o hB0 io9_112_97_12 bd9_12_25
    have d54 : ¬ (((I 97 25).toInt) : Int) = (0) := ci_ne rfl rfl c47
    refine sp_X12_fail hB0 hR0 (by have z : (5 : Int32).toInt = 5 := rfl; omega) (fun x55 y60 I56 J57 hB58 p59 => ?_)
    have f61 : Fr pT I I56 := p59.2.2.2.2.1
    have f62 : Fr pR I I56 := Fr.tr (Fr.refl _ _) f61 (fun _ _ => trivial)
    have q63 : (5 : Int32).toInt = 5 := rfl
    have b64 := Bd.o hB0 io9_112_97_12 bd9_12_15
    have q65 : ((I 97 15) : Int32).toInt = (I 97 15).toInt := rfl
    have b66 := Bd.o hB58 io9_112_97_12 bd9_12_12
    have b67 := Bd.o hB0 io9_112_97_12 bd9_12_16
    have e68 : ((I56 97 16) : Int32).toInt = (I 97 16).toInt := Eq.trans (congrArg Int32.toInt p59.2.2.1) rfl
    have b69 := Bd.o hB0 io9_112_97_12 bd9_12_14
    have e70 : ((I56 97 14) : Int32).toInt = (I 97 14).toInt := Eq.trans (congrArg Int32.toInt p59.2.1) rfl
    exact (L 1000000) _ _ hB58 p59.1 f62 (by have q0 : ((I56 97 12) : Int32).toInt = (I56 97 12).toInt := rfl; have q1 : ((I56 97 16) : Int32).toInt = (I 97 16).toInt := e68; have q2 : ((I56 97 14) : Int32).toInt = (I 97 14).toInt := e70; omega) (by omega)
