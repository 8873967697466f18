set_option maxHeartbeats 2000000 in
theorem sp_X12_readOdds {d : Nat} {Q : Qt} {I : Im} {J : Jm} {R : Rm} (hB0 : Bd I) (hR0 : RI R) (hQ : ∀ (x : Int32) (y : Int64) (I2 : Im) (J2 : Jm), Bd I2 → (I2 97 27 = I 97 27 ∧ Fr pR I I2 ∧ ((2 * (901 - (I2 97 16).toInt) + min (I2 97 14).toInt 1) ≤ (2 * (901 - (I 97 16).toInt) + min (I 97 14).toInt 1) ∧ ((I 97 12).toInt = 0 ∨ 1 ≤ (I2 97 12).toInt))) → Q x y I2 J2 R) : AM (d + 5) 228 112 [.ref 97] I J R Q := by
  refine am_X12_readOdds (fun P hc => ?_)
  have L : ∀ n : Nat, (∀ (M : Im) (JM : Jm), Bd M → (M 97 27 = I 97 27) → Fr pR I M → (((I 97 12).toInt = 0 ∨ 1 ≤ (M 97 12).toInt) ∧ (2 * (901 - (M 97 16).toInt) + min (M 97 14).toInt 1) ≤ (2 * (901 - (I 97 16).toInt) + min (I 97 14).toInt 1)) → 1 < (n : Int) → P 16 112 [(0, .ref 97)] [] M JM R) := by
    intro n
    induction n with
    | zero =>
      exact fun  M J _ _ _ hi hm => absurd hm (by omega)
    | succ n ih =>
      intro  M JM hB hk_97_27 hf hi hm
      refine sg_X12_readOdds_16 hc _ _ _ ?_
      have b1 := Bd.o hB io9_112_97_12 bd9_12_12
      have b2 := Bd.o hB io9_112_97_12 bd9_12_14
      have b3 := Bd.o hB io9_112_97_12 bd9_12_16
      refine ⟨Or.inr rfl, ?_⟩
      have hB4 : Bd (uI M 97 24 1) := Bd.o1 hB io9_112_97_12 (by omega) bd9_12_24 rfl (bl_ti (Or.inr rfl))
      have f5 : Fr pR I (uI M 97 24 1) := Fr.o hf (by decide) (by decide)
      refine sp_X12_must hB4 hR0 (fun x6 y11 I7 J8 hB9 p10 => ?_)
      have f12 : Fr pT (uI M 97 24 1) I7 := p10.2.1
      have f13 : Fr pR I I7 := Fr.tr f5 f12 (fun _ _ => trivial)
      have q14 : (1 : Int32).toInt = 1 := rfl
      have e15 : (((uI M 97 24 1) 97 12) : Int32).toInt = (M 97 12).toInt := Eq.trans (congrArg Int32.toInt (rd_k (by decide))) rfl
      have e16 : (((uI M 97 24 1) 97 14) : Int32).toInt = (M 97 14).toInt := Eq.trans (congrArg Int32.toInt (rd_k (by decide))) rfl
      have e17 : (((uI M 97 24 1) 97 16) : Int32).toInt = (M 97 16).toInt := Eq.trans (congrArg Int32.toInt (rd_k (by decide))) rfl
      have b18 := Bd.o hB9 io9_112_97_12 bd9_12_12
      have b19 := Bd.o hB9 io9_112_97_12 bd9_12_14
      have b20 := Bd.o hB9 io9_112_97_12 bd9_12_16
      refine sp_X12_count hB9 hR0 (fun x21 y26 I22 J23 hB24 p25 => ?_)
      have f27 : Fr pT I7 I22 := p25.2.1
      have f28 : Fr pR I I22 := Fr.tr f13 f27 (fun _ _ => trivial)
      have q29 : (0 : Int32).toInt = 0 := rfl
      have q30 : (16 : Int32).toInt = 16 := rfl
      have b31 := Bd.o hB24 io9_112_97_12 bd9_12_12
      have b32 := Bd.o hB24 io9_112_97_12 bd9_12_14
      have b33 := Bd.o hB24 io9_112_97_12 bd9_12_16
      have i34 := i32 x21
      refine ⟨fun c35 => ?_, fun c35 => ?_⟩
      · skip
        have d36 : ¬ (((I22 97 12).toInt) : Int) = (0) := ci_ne rfl rfl c35
        have b37 := Bd.o hB0 io9_112_97_12 bd9_12_12
        have b38 := Bd.o hB0 io9_112_97_12 bd9_12_14
        have b39 := Bd.o hB0 io9_112_97_12 bd9_12_16
        exact hQ _ _ _ _ hB24 ⟨(Eq.trans (Eq.trans (Eq.trans p25.1 p10.1) (rd_k (by decide))) hk_97_27), f28, (by have q4 : ((I22 97 12) : Int32).toInt = (I22 97 12).toInt := rfl; have q5 : ((I22 97 14) : Int32).toInt = (I22 97 14).toInt := rfl; have q6 : ((I22 97 16) : Int32).toInt = (I22 97 16).toInt := rfl; omega)⟩
      · skip
        have d40 : (((I22 97 12).toInt) : Int) = (0) := ci_eq rfl rfl c35
        refine ⟨vp_of (a := 1297) rfl (by omega) (by omega), ?_⟩
        have hB41 : Bd (uI I22 102 (Int32.toNatClampNeg 1297) x21) := Bd.cfree hB24 (show (1297 : Int32).toInt = 1297 from rfl) (by omega) (by omega) (by omega) (by omega)
        have f42 : Fr pR I (uI I22 102 (Int32.toNatClampNeg 1297) x21) := Fr.w f28 (show (1297 : Int32).toInt = 1297 from rfl) (by omega) (fun j hj hp => by unfold pR at hp; omega)
        have b43 := Bd.o hB0 io9_112_97_12 bd9_12_12
        have b44 := Bd.o hB0 io9_112_97_12 bd9_12_14
        have b45 := Bd.o hB0 io9_112_97_12 bd9_12_16
        have e46 : (((uI I22 102 (Int32.toNatClampNeg 1297) x21) 97 12) : Int32).toInt = (I22 97 12).toInt := Eq.trans (congrArg Int32.toInt (rd_ne (by first | decide | omega))) rfl
        have e47 : (((uI I22 102 (Int32.toNatClampNeg 1297) x21) 97 14) : Int32).toInt = (I22 97 14).toInt := Eq.trans (congrArg Int32.toInt (rd_ne (by first | decide | omega))) rfl
        have e48 : (((uI I22 102 (Int32.toNatClampNeg 1297) x21) 97 16) : Int32).toInt = (I22 97 16).toInt := Eq.trans (congrArg Int32.toInt (rd_ne (by first | decide | omega))) rfl
        exact hQ _ _ _ _ hB41 ⟨(Eq.trans (Eq.trans (Eq.trans (Eq.trans (rd_ne (by first | decide | omega)) p25.1) p10.1) (rd_k (by decide))) hk_97_27), f42, (by have q4 : (((uI I22 102 (Int32.toNatClampNeg 1297) x21) 97 12) : Int32).toInt = (I22 97 12).toInt := e46; have q5 : (((uI I22 102 (Int32.toNatClampNeg 1297) x21) 97 14) : Int32).toInt = (I22 97 14).toInt := e47; have q6 : (((uI I22 102 (Int32.toNatClampNeg 1297) x21) 97 16) : Int32).toInt = (I22 97 16).toInt := e48; omega)⟩
  refine sg_X12_readOdds_0 hc _ _ _ ?_
  refine ⟨fun c49 => ?_, fun c49 => ?_⟩
  · skip
    have b50 := Bd.o hB0 io9_112_97_12 bd9_12_24
    have d51 : (((I 97 24).toInt) : Int) = (0) := ci_eq rfl rfl c49
    have b52 := Bd.o hB0 io9_112_97_12 bd9_12_12
    have b53 := Bd.o hB0 io9_112_97_12 bd9_12_16
    have b54 := Bd.o hB0 io9_112_97_12 bd9_12_14
    exact (L 1000000) _ _ hB0 rfl (Fr.refl _ _) (by have q0 : ((I 97 12) : Int32).toInt = (I 97 12).toInt := rfl; have q1 : ((I 97 16) : Int32).toInt = (I 97 16).toInt := rfl; have q2 : ((I 97 14) : Int32).toInt = (I 97 14).toInt := rfl; omega) (by omega)
  · skip
    have b55 := Bd.o hB0 io9_112_97_12 bd9_12_24
    have d56 : ¬ (((I 97 24).toInt) : Int) = (0) := ci_ne rfl rfl c49
    refine sp_X12_fail hB0 hR0 (by have z : (5 : Int32).toInt = 5 := rfl; omega) (fun x57 y62 I58 J59 hB60 p61 => ?_)
    have f63 : Fr pT I I58 := p61.2.2.2.2.1
    have f64 : Fr pR I I58 := Fr.tr (Fr.refl _ _) f63 (fun _ _ => trivial)
    have q65 : (5 : Int32).toInt = 5 := rfl
    have b66 := Bd.o hB0 io9_112_97_12 bd9_12_15
    have q67 : ((I 97 15) : Int32).toInt = (I 97 15).toInt := rfl
    have b68 := Bd.o hB60 io9_112_97_12 bd9_12_12
    have b69 := Bd.o hB0 io9_112_97_12 bd9_12_16
    have e70 : ((I58 97 16) : Int32).toInt = (I 97 16).toInt := Eq.trans (congrArg Int32.toInt p61.2.2.1) rfl
    have b71 := Bd.o hB0 io9_112_97_12 bd9_12_14
    have e72 : ((I58 97 14) : Int32).toInt = (I 97 14).toInt := Eq.trans (congrArg Int32.toInt p61.2.1) rfl
    exact (L 1000000) _ _ hB60 p61.1 f64 (by have q0 : ((I58 97 12) : Int32).toInt = (I58 97 12).toInt := rfl; have q1 : ((I58 97 16) : Int32).toInt = (I 97 16).toInt := e70; have q2 : ((I58 97 14) : Int32).toInt = (I 97 14).toInt := e72; omega) (by omega)
