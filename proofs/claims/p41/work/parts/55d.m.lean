set_option maxHeartbeats 2000000 in
theorem sp_X12_doAll_s {m : Nat} (ihA : AllS m) {d : Nat} {Q : Qt} {v1 : Int32} {v2 : Int32} {I : Im} {J : Jm} {R : Rm} (hB0 : Bd I) (hR0 : RI R) (hv1 : 0 ≤ v1.toInt) (hv2 : v2.toInt ≤ (I 102 53).toInt) (h52 : ¬ (I 102 52).toInt = 0) (hm0 : 301 - (I 97 43).toInt ≤ (m : Int) + 1) (hQ : ∀ (x : Int32) (y : Int64) (I2 : Im) (J2 : Jm), Bd I2 → (Fr pD I I2 ∧ ((I 97 43).toInt ≤ (I2 97 43).toInt)) → Q x y I2 J2 R) : AM (d + 2 * m + 9) 311 112 [.ref 97, .int v1, .int v2] I J R Q := by
  have i_v1 := i32 v1
  have i_v2 := i32 v2
  refine am_X12_doAll (fun P hc => ?_)
  have L : ∀ n : Nat, (∀ (v3 : Int32) (M : Im) (JM : Jm), Bd M → Fr pD I M → (0 ≤ v3.toInt ∧ v2.toInt ≤ (M 102 53).toInt ∧ ¬ (M 102 52).toInt = 0 ∧ (I 97 43).toInt ≤ (M 97 43).toInt) → max 0 (v2.toInt - v3.toInt) < (n : Int) → P 2 112 [(0, .ref 97), (2, .int v2), (3, .int v3)] [] M JM R) := by
    intro n
    induction n with
    | zero =>
      exact fun v3 M J _ _ hi hm => absurd hm (by omega)
    | succ n ih =>
      intro v3 M JM hB hf hi hm
      have i_v2 := i32 v2
      have i_v3 := i32 v3
      refine sg_X12_doAll_2 hc _ _ _ _ _ ?_
      have e1 : ((M 102 52) : Int32).toInt = (I 102 52).toInt := Eq.trans (congrArg Int32.toInt (hf.1 52 (by unfold pD; omega))) rfl
      have b2 := (Bd.c hB0 (j := 53) (z := 53) rfl).2.2.1 (by decide)
      have e3 : ((M 102 53) : Int32).toInt = (I 102 53).toInt := Eq.trans (congrArg Int32.toInt (hf.1 53 (by unfold pD; omega))) rfl
      have b4 := Bd.o hB io9_112_97_12 bd9_12_43
      refine ⟨fun c5 => ?_, fun c5 => ?_⟩
      · skip
        have d6 : ((v2.toInt) : Int) ≤ (v3.toInt) := ci_le rfl rfl c5
        have b7 := Bd.o hB0 io9_112_97_12 bd9_12_43
        exact hQ _ _ _ _ hB ⟨hf, (by have q2 : ((M 97 43) : Int32).toInt = (M 97 43).toInt := rfl; omega)⟩
      · skip
        have d8 : ((v3.toInt) : Int) < (v2.toInt) := ci_nle rfl rfl c5
        refine ⟨fun c9 => ?_, fun c9 => ?_⟩
        · skip
          have b10 := Bd.o hB io9_112_97_12 bd9_12_41
          have d11 : ¬ (((M 97 41).toInt) : Int) = (0) := ci_ne rfl rfl c9
          have b12 := Bd.o hB0 io9_112_97_12 bd9_12_43
          exact hQ _ _ _ _ hB ⟨hf, (by have q2 : ((M 97 43) : Int32).toInt = (M 97 43).toInt := rfl; omega)⟩
        · skip
          have b13 := Bd.o hB io9_112_97_12 bd9_12_41
          have d14 : (((M 97 41).toInt) : Int) = (0) := ci_eq rfl rfl c9
          refine sp_X12_doOne_s ihA hB hR0 (by have z1 : (v3 : Int32).toInt = v3.toInt := rfl; have y52 : ((M 102 52)).toInt = (I 102 52).toInt := e1; have y53 : ((M 102 53)).toInt = (I 102 53).toInt := e3; omega) (by have y52 : ((M 102 52)).toInt = (I 102 52).toInt := e1; have y53 : ((M 102 53)).toInt = (I 102 53).toInt := e3; omega) (by have z : ((M 97 43)).toInt = (M 97 43).toInt := rfl; omega) (fun x15 y20 I16 J17 hB18 p19 => ?_)
          have f21 : Fr pD M I16 := p19.1
          have f22 : Fr pD I I16 := Fr.tr hf f21 (fun _ z => z)
          have b23 := Bd.o hB18 io9_112_97_12 bd9_12_43
          have e24 : ((I16 102 52) : Int32).toInt = (I 102 52).toInt := Eq.trans (congrArg Int32.toInt (Eq.trans (f21.1 52 (by unfold pD; omega)) (hf.1 52 (by unfold pD; omega)))) rfl
          have w25 : ((I16 102 52) : Int32).toInt = (I 102 52).toInt := e24
          have e26 : ((I16 102 53) : Int32).toInt = (I 102 53).toInt := Eq.trans (congrArg Int32.toInt (Eq.trans (f21.1 53 (by unfold pD; omega)) (hf.1 53 (by unfold pD; omega)))) rfl
          have w27 : ((I16 102 53) : Int32).toInt = (I 102 53).toInt := e26
          have e28 : ((9 * v3) : Int32).toInt = (9) * (v3.toInt) := ti_mul rfl rfl (by first | (clear e1 e3 b4 b13 d14 p19 b23 e24 e26; omega) | omega)
          have e29 : ((54 + (9 * v3)) : Int32).toInt = (54) + ((9 * v3.toInt)) := ti_add rfl e28 (by first | (clear e1 e3 b4 b13 d14 p19 b23 e24 e26; omega) | omega)
          have hr := Bd.rec hB18 (s := v3) (w := (54 + (9 * v3))) (by first | (clear e1 e3 b4 b13 d14 p19 b23 e24 e26; omega) | omega) (by first | (clear e1 e3 b4 b13 d14 p19 b23 e24 e26; omega) | omega) (show ((54 + (9 * v3)) : Int32).toInt = 54 + 9 * v3.toInt by have z : ((54 + (9 * v3)) : Int32).toInt = (54 + (9 * v3.toInt)) := e29; omega)
          have e30 : (((54 + (9 * v3)) + 8) : Int32).toInt = ((54 + (9 * v3.toInt))) + (8) := ti_add e29 rfl (by first | (clear e1 e3 b4 b13 d14 p19 b23 e24 e26; omega) | omega)
          refine ⟨vp_of (a := ((54 + (9 * v3.toInt)) + 8)) e30 (by first | (clear e1 e3 b4 b13 d14 p19 b23 e24 e26; omega) | omega) (by first | (clear e1 e3 b4 b13 d14 p19 b23 e24 e26; omega) | omega), ?_⟩
          exact ih _ _ _ hB18 f22 (by have q0 : ((I16 102 (Int32.toNatClampNeg ((54 + (9 * v3)) + 8))) : Int32).toInt = (I16 102 (Int32.toNatClampNeg ((54 + (9 * v3)) + 8))).toInt := rfl; have q1 : ((I16 102 53) : Int32).toInt = (I 102 53).toInt := e26; have q2 : ((I16 102 52) : Int32).toInt = (I 102 52).toInt := e24; have q3 : ((I16 97 43) : Int32).toInt = (I16 97 43).toInt := rfl; omega) (by have q0 : ((I16 102 (Int32.toNatClampNeg ((54 + (9 * v3)) + 8))) : Int32).toInt = (I16 102 (Int32.toNatClampNeg ((54 + (9 * v3)) + 8))).toInt := rfl; omega)
  refine sg_X12_doAll_0 hc _ _ _ _ _ ?_
  have b31 := (Bd.c hB0 (j := 53) (z := 53) rfl).2.2.1 (by decide)
  have b32 := Bd.o hB0 io9_112_97_12 bd9_12_43
  exact (L 1000000) _ _ _ hB0 (Fr.refl _ _) (by have q0 : (v1 : Int32).toInt = v1.toInt := rfl; have q1 : ((I 102 53) : Int32).toInt = (I 102 53).toInt := rfl; have q2 : ((I 102 52) : Int32).toInt = (I 102 52).toInt := rfl; have q3 : ((I 97 43) : Int32).toInt = (I 97 43).toInt := rfl; omega) (by have q0 : (v1 : Int32).toInt = v1.toInt := rfl; omega)
theorem allS : ∀ m : Nat, AllS m := fun m => by
  induction m with
  | zero =>
    intro d Q v1 v2 I J R hB0 hR0 hv1 hv2 h52 hm0 hQ
    have := hB0.o io9_112_97_12 bd9_12_43
    exact absurd hm0 (by omega)
  | succ m ih =>
    intro d Q v1 v2 I J R hB0 hR0 hv1 hv2 h52 hm0 hQ
    exact sp_X12_doAll_s ih hB0 hR0 hv1 hv2 h52 (by omega) hQ
theorem sp_X12_doAll {d : Nat} {Q : Qt} {v1 v2 : Int32} {I : Im} {J : Jm} {R : Rm} (hB0 : Bd I) (hR0 : RI R) (hv1 : 0 ≤ v1.toInt) (hv2 : v2.toInt ≤ (I 102 53).toInt) (h52 : ¬ (I 102 52).toInt = 0) (hQ : ∀ (x : Int32) (y : Int64) (I2 : Im) (J2 : Jm), Bd I2 → (Fr pD I I2 ∧ ((I 97 43).toInt ≤ (I2 97 43).toInt)) → Q x y I2 J2 R) : AM (d + 609) 311 112 [.ref 97, .int v1, .int v2] I J R Q := by
  have h43 := hB0.o io9_112_97_12 bd9_12_43
  exact allS 301 hB0 hR0 hv1 hv2 h52 (by omega) hQ
set_option maxHeartbeats 2000000 in
theorem sp_X12_runsDays {d : Nat} {Q : Qt} {v1 : Int32} {I : Im} {J : Jm} {R : Rm} (hB0 : Bd I) (hR0 : RI R) (h52 : ¬ (I 102 52).toInt = 0) (hv1 : 0 ≤ v1.toInt ∧ v1.toInt ≤ 65535) (hQ : ∀ (x : Int32) (y : Int64) (I2 : Im) (J2 : Jm), Bd I2 → (Fr pD I I2) → Q x y I2 J2 R) : AM (d + 610) 312 112 [.ref 97, .int v1] I J R Q := by
  have i_v1 := i32 v1
  refine w_X12_runsDays ?_
  have hB1 : Bd (uI I 97 42 v1) := Bd.o1 hB0 io9_112_97_12 (by decide) bd9_12_42 (show (v1 : Int32).toInt = v1.toInt from rfl) (by omega)
  have f2 : Fr pD I (uI I 97 42 v1) := Fr.o (Fr.refl _ _) (by decide) (by decide)
  have hB3 : Bd (uI (uI I 97 42 v1) 97 43 0) := Bd.o1 hB1 io9_112_97_12 (by decide) bd9_12_43 (show (0 : Int32).toInt = 0 from rfl) (by omega)
  have f4 : Fr pD I (uI (uI I 97 42 v1) 97 43 0) := Fr.o f2 (by decide) (by decide)
  have hB5 : Bd (uI (uI (uI I 97 42 v1) 97 43 0) 97 44 0) := Bd.o0 hB3 io9_112_97_12 (by decide) bd9_12_44
  have f6 : Fr pD I (uI (uI (uI I 97 42 v1) 97 43 0) 97 44 0) := Fr.o f4 (by decide) (by decide)
  refine ⟨vp_of (a := 2) rfl (by omega) (by omega), ?_⟩
  have hB7 : Bd (uI (uI (uI (uI I 97 42 v1) 97 43 0) 97 44 0) 97 45 ((uI (uI (uI I 97 42 v1) 97 43 0) 97 44 0) 102 (Int32.toNatClampNeg 2))) := Bd.o0 hB5 io9_112_97_12 (by decide) bd9_12_45
  have f8 : Fr pD I (uI (uI (uI (uI I 97 42 v1) 97 43 0) 97 44 0) 97 45 ((uI (uI (uI I 97 42 v1) 97 43 0) 97 44 0) 102 (Int32.toNatClampNeg 2))) := Fr.o f6 (by decide) (by decide)
  have hB9 : Bd (uI (uI (uI (uI (uI I 97 42 v1) 97 43 0) 97 44 0) 97 45 ((uI (uI (uI I 97 42 v1) 97 43 0) 97 44 0) 102 (Int32.toNatClampNeg 2))) 97 46 0) := Bd.o0 hB7 io9_112_97_12 (by decide) bd9_12_46
  have f10 : Fr pD I (uI (uI (uI (uI (uI I 97 42 v1) 97 43 0) 97 44 0) 97 45 ((uI (uI (uI I 97 42 v1) 97 43 0) 97 44 0) 102 (Int32.toNatClampNeg 2))) 97 46 0) := Fr.o f8 (by decide) (by decide)
  have hB11 : Bd (uI (uI (uI (uI (uI (uI I 97 42 v1) 97 43 0) 97 44 0) 97 45 ((uI (uI (uI I 97 42 v1) 97 43 0) 97 44 0) 102 (Int32.toNatClampNeg 2))) 97 46 0) 97 47 0) := Bd.o0 hB9 io9_112_97_12 (by decide) bd9_12_47
  have f12 : Fr pD I (uI (uI (uI (uI (uI (uI I 97 42 v1) 97 43 0) 97 44 0) 97 45 ((uI (uI (uI I 97 42 v1) 97 43 0) 97 44 0) 102 (Int32.toNatClampNeg 2))) 97 46 0) 97 47 0) := Fr.o f10 (by decide) (by decide)
  have hB13 : Bd (uI (uI (uI (uI (uI (uI (uI I 97 42 v1) 97 43 0) 97 44 0) 97 45 ((uI (uI (uI I 97 42 v1) 97 43 0) 97 44 0) 102 (Int32.toNatClampNeg 2))) 97 46 0) 97 47 0) 97 48 0) := Bd.o0 hB11 io9_112_97_12 (by decide) bd9_12_48
  have f14 : Fr pD I (uI (uI (uI (uI (uI (uI (uI I 97 42 v1) 97 43 0) 97 44 0) 97 45 ((uI (uI (uI I 97 42 v1) 97 43 0) 97 44 0) 102 (Int32.toNatClampNeg 2))) 97 46 0) 97 47 0) 97 48 0) := Fr.o f12 (by decide) (by decide)
  refine ⟨Or.inl rfl, ?_⟩
  have hB15 : Bd (uI (uI (uI (uI (uI (uI (uI (uI I 97 42 v1) 97 43 0) 97 44 0) 97 45 ((uI (uI (uI I 97 42 v1) 97 43 0) 97 44 0) 102 (Int32.toNatClampNeg 2))) 97 46 0) 97 47 0) 97 48 0) 97 41 0) := Bd.o1 hB13 io9_112_97_12 (by decide) bd9_12_41 rfl (bl_ti (Or.inl rfl))
  have f16 : Fr pD I (uI (uI (uI (uI (uI (uI (uI (uI I 97 42 v1) 97 43 0) 97 44 0) 97 45 ((uI (uI (uI I 97 42 v1) 97 43 0) 97 44 0) 102 (Int32.toNatClampNeg 2))) 97 46 0) 97 47 0) 97 48 0) 97 41 0) := Fr.o f14 (by decide) (by decide)
  refine ⟨vp_of (a := 53) rfl (by omega) (by omega), ?_⟩
  have e17 : (((uI (uI (uI (uI (uI (uI (uI (uI I 97 42 v1) 97 43 0) 97 44 0) 97 45 ((uI (uI (uI I 97 42 v1) 97 43 0) 97 44 0) 102 (Int32.toNatClampNeg 2))) 97 46 0) 97 47 0) 97 48 0) 97 41 0) 102 52) : Int32).toInt = (I 102 52).toInt := Eq.trans (congrArg Int32.toInt (Eq.trans (Eq.trans (Eq.trans (Eq.trans (Eq.trans (Eq.trans (Eq.trans (rd_ne (by first | decide | omega)) (rd_ne (by first | decide | omega))) (rd_ne (by first | decide | omega))) (rd_ne (by first | decide | omega))) (rd_ne (by first | decide | omega))) (rd_ne (by first | decide | omega))) (rd_ne (by first | decide | omega))) (rd_ne (by first | decide | omega)))) rfl
  have b18 := (Bd.c hB0 (j := 53) (z := 53) rfl).2.2.1 (by decide)
  have e19 : (((uI (uI (uI (uI (uI (uI (uI (uI I 97 42 v1) 97 43 0) 97 44 0) 97 45 ((uI (uI (uI I 97 42 v1) 97 43 0) 97 44 0) 102 (Int32.toNatClampNeg 2))) 97 46 0) 97 47 0) 97 48 0) 97 41 0) 102 53) : Int32).toInt = (I 102 53).toInt := Eq.trans (congrArg Int32.toInt (Eq.trans (Eq.trans (Eq.trans (Eq.trans (Eq.trans (Eq.trans (Eq.trans (rd_ne (by first | decide | omega)) (rd_ne (by first | decide | omega))) (rd_ne (by first | decide | omega))) (rd_ne (by first | decide | omega))) (rd_ne (by first | decide | omega))) (rd_ne (by first | decide | omega))) (rd_ne (by first | decide | omega))) (rd_ne (by first | decide | omega)))) rfl
  have e20 : (((uI (uI (uI (uI (uI (uI (uI (uI I 97 42 v1) 97 43 0) 97 44 0) 97 45 ((uI (uI (uI I 97 42 v1) 97 43 0) 97 44 0) 102 (Int32.toNatClampNeg 2))) 97 46 0) 97 47 0) 97 48 0) 97 41 0) 102 (Int32.toNatClampNeg 53)) : Int32).toInt = (I 102 53).toInt := Eq.trans (congrArg Int32.toInt (Eq.trans (Eq.trans (Eq.trans (Eq.trans (Eq.trans (Eq.trans (Eq.trans (Eq.trans (rd_ne (by first | decide | omega)) (rd_ne (by first | decide | omega))) (rd_ne (by first | decide | omega))) (rd_ne (by first | decide | omega))) (rd_ne (by first | decide | omega))) (rd_ne (by first | decide | omega))) (rd_ne (by first | decide | omega))) (rd_ne (by first | decide | omega))) rfl)) rfl
  refine sp_X12_doAll hB15 hR0 (by have z1 : (0 : Int32).toInt = 0 := rfl; have y52 : (((uI (uI (uI (uI (uI (uI (uI (uI I 97 42 v1) 97 43 0) 97 44 0) 97 45 ((uI (uI (uI I 97 42 v1) 97 43 0) 97 44 0) 102 (Int32.toNatClampNeg 2))) 97 46 0) 97 47 0) 97 48 0) 97 41 0) 102 52)).toInt = (I 102 52).toInt := e17; have y53 : (((uI (uI (uI (uI (uI (uI (uI (uI I 97 42 v1) 97 43 0) 97 44 0) 97 45 ((uI (uI (uI I 97 42 v1) 97 43 0) 97 44 0) 102 (Int32.toNatClampNeg 2))) 97 46 0) 97 47 0) 97 48 0) 97 41 0) 102 53)).toInt = (I 102 53).toInt := e19; omega) (by have z2 : (((uI (uI (uI (uI (uI (uI (uI (uI I 97 42 v1) 97 43 0) 97 44 0) 97 45 ((uI (uI (uI I 97 42 v1) 97 43 0) 97 44 0) 102 (Int32.toNatClampNeg 2))) 97 46 0) 97 47 0) 97 48 0) 97 41 0) 102 (Int32.toNatClampNeg 53)) : Int32).toInt = (I 102 53).toInt := e20; have y52 : (((uI (uI (uI (uI (uI (uI (uI (uI I 97 42 v1) 97 43 0) 97 44 0) 97 45 ((uI (uI (uI I 97 42 v1) 97 43 0) 97 44 0) 102 (Int32.toNatClampNeg 2))) 97 46 0) 97 47 0) 97 48 0) 97 41 0) 102 52)).toInt = (I 102 52).toInt := e17; have y53 : (((uI (uI (uI (uI (uI (uI (uI (uI I 97 42 v1) 97 43 0) 97 44 0) 97 45 ((uI (uI (uI I 97 42 v1) 97 43 0) 97 44 0) 102 (Int32.toNatClampNeg 2))) 97 46 0) 97 47 0) 97 48 0) 97 41 0) 102 53)).toInt = (I 102 53).toInt := e19; omega) (by have y52 : (((uI (uI (uI (uI (uI (uI (uI (uI I 97 42 v1) 97 43 0) 97 44 0) 97 45 ((uI (uI (uI I 97 42 v1) 97 43 0) 97 44 0) 102 (Int32.toNatClampNeg 2))) 97 46 0) 97 47 0) 97 48 0) 97 41 0) 102 52)).toInt = (I 102 52).toInt := e17; have y53 : (((uI (uI (uI (uI (uI (uI (uI (uI I 97 42 v1) 97 43 0) 97 44 0) 97 45 ((uI (uI (uI I 97 42 v1) 97 43 0) 97 44 0) 102 (Int32.toNatClampNeg 2))) 97 46 0) 97 47 0) 97 48 0) 97 41 0) 102 53)).toInt = (I 102 53).toInt := e19; omega) (fun x21 y26 I22 J23 hB24 p25 => ?_)
  have f27 : Fr pD (uI (uI (uI (uI (uI (uI (uI (uI I 97 42 v1) 97 43 0) 97 44 0) 97 45 ((uI (uI (uI I 97 42 v1) 97 43 0) 97 44 0) 102 (Int32.toNatClampNeg 2))) 97 46 0) 97 47 0) 97 48 0) 97 41 0) I22 := p25.1
  have f28 : Fr pD I I22 := Fr.tr f16 f27 (fun _ z => z)
  have q29 : (0 : Int32).toInt = 0 := rfl
  have q30 : (((uI (uI (uI (uI (uI (uI (uI (uI I 97 42 v1) 97 43 0) 97 44 0) 97 45 ((uI (uI (uI I 97 42 v1) 97 43 0) 97 44 0) 102 (Int32.toNatClampNeg 2))) 97 46 0) 97 47 0) 97 48 0) 97 41 0) 102 (Int32.toNatClampNeg 53)) : Int32).toInt = (I 102 53).toInt := e20
  have e31 : (((uI (uI (uI (uI (uI (uI (uI (uI I 97 42 v1) 97 43 0) 97 44 0) 97 45 ((uI (uI (uI I 97 42 v1) 97 43 0) 97 44 0) 102 (Int32.toNatClampNeg 2))) 97 46 0) 97 47 0) 97 48 0) 97 41 0) 97 43) : Int32).toInt = 0 := Eq.trans (congrArg Int32.toInt (Eq.trans (Eq.trans (Eq.trans (Eq.trans (Eq.trans (Eq.trans (rd_k (by decide)) (rd_k (by decide))) (rd_k (by decide))) (rd_k (by decide))) (rd_k (by decide))) (rd_k (by decide))) rd_eq)) rfl
  have b32 := Bd.o hB24 io9_112_97_12 bd9_12_43
  exact hQ _ _ _ _ hB24 f28
set_option maxHeartbeats 2000000 in
theorem sp_X12_live {d : Nat} {Q : Qt} {v1 : Int32} {I : Im} {J : Jm} {R : Rm} (hB0 : Bd I) (hR0 : RI R) (hQ : ∀ (x : Int32) (y : Int64) (I2 : Im) (J2 : Jm), Bd I2 → (Fr pK I I2) → Q x y I2 J2 R) : AM (d + 611) 313 112 [.ref 97, .int v1] I J R Q := by
  have i_v1 := i32 v1
  refine w_X12_live ?_
  have hB1 : Bd (uI I 97 1 0) := Bd.o0 hB0 io9_112_97_12 (by decide) bd9_12_1
  have f2 : Fr pK I (uI I 97 1 0) := Fr.o (Fr.refl _ _) (by decide) (by decide)
  have hB3 : Bd (uI (uI I 97 1 0) 97 0 0) := Bd.o0 hB1 io9_112_97_12 (by decide) bd9_12_0
  have f4 : Fr pK I (uI (uI I 97 1 0) 97 0 0) := Fr.o f2 (by decide) (by decide)
  refine w_X12_isIn ?_
  refine ⟨fun c5 => ?_, fun c5 => ?_⟩
  · skip
    rw [lg_cmp_lt] at c5
    have d6 : ((v1.toInt) : Int) < (0) := cl_lt (tl_i2l rfl) rfl c5
    refine ⟨Or.inl rfl, ?_⟩
    intro o7
    refine ⟨fun c8 => ?_, fun c8 => ?_⟩
    · exact absurd c8 (by decide)
    · skip
      refine w_X12_refuse ?_
      have hB9 : Bd (uI (uI (uI I 97 1 0) 97 0 0) 97 0 5) := Bd.o0 hB3 io9_112_97_12 (by decide) bd9_12_0
      have f10 : Fr pK I (uI (uI (uI I 97 1 0) 97 0 0) 97 0 5) := Fr.o f4 (by decide) (by decide)
      exact hQ _ _ _ _ hB9 f10
  · skip
    rw [lg_cmp_lt] at c5
    have d11 : ((0) : Int) ≤ (v1.toInt) := cl_nlt (tl_i2l rfl) rfl c5
    refine ⟨fun c12 => ?_, fun c12 => ?_⟩
    · skip
      rw [lg_cmp_gt] at c12
      have d13 : ((9999) : Int) < (v1.toInt) := cl_lt rfl (tl_i2l rfl) c12
      refine ⟨Or.inl rfl, ?_⟩
      intro o14
      refine ⟨fun c15 => ?_, fun c15 => ?_⟩
      · exact absurd c15 (by decide)
      · skip
        refine w_X12_refuse ?_
        have hB16 : Bd (uI (uI (uI I 97 1 0) 97 0 0) 97 0 5) := Bd.o0 hB3 io9_112_97_12 (by decide) bd9_12_0
        have f17 : Fr pK I (uI (uI (uI I 97 1 0) 97 0 0) 97 0 5) := Fr.o f4 (by decide) (by decide)
        exact hQ _ _ _ _ hB16 f17
    · skip
      rw [lg_cmp_gt] at c12
      have d18 : ((v1.toInt) : Int) ≤ (9999) := cl_nlt rfl (tl_i2l rfl) c12
      refine ⟨Or.inr rfl, ?_⟩
      intro o19
      refine ⟨fun c20 => ?_, fun c20 => ?_⟩
      · skip
        refine ⟨vp_of (a := 52) rfl (by omega) (by omega), ?_⟩
        refine ⟨fun c21 => ?_, fun c21 => ?_⟩
        · skip
          have e22 : (((uI (uI I 97 1 0) 97 0 0) 102 (Int32.toNatClampNeg 52)) : Int32).toInt = (I 102 52).toInt := Eq.trans (congrArg Int32.toInt (Eq.trans (Eq.trans (rd_ne (by first | decide | omega)) (rd_ne (by first | decide | omega))) rfl)) rfl
          have d23 : ¬ (((I 102 52).toInt) : Int) = (0) := ci_ne e22 rfl c21
          have e24 : (((uI (uI I 97 1 0) 97 0 0) 102 52) : Int32).toInt = (I 102 52).toInt := Eq.trans (congrArg Int32.toInt (Eq.trans (rd_ne (by first | decide | omega)) (rd_ne (by first | decide | omega)))) rfl
          have b25 := (Bd.c hB0 (j := 53) (z := 53) rfl).2.2.1 (by decide)
          have e26 : (((uI (uI I 97 1 0) 97 0 0) 102 53) : Int32).toInt = (I 102 53).toInt := Eq.trans (congrArg Int32.toInt (Eq.trans (rd_ne (by first | decide | omega)) (rd_ne (by first | decide | omega)))) rfl
          refine sp_X12_runsDays hB3 hR0 (by have y52 : (((uI (uI I 97 1 0) 97 0 0) 102 52)).toInt = (I 102 52).toInt := e24; have y53 : (((uI (uI I 97 1 0) 97 0 0) 102 53)).toInt = (I 102 53).toInt := e26; omega) (by have z1 : (v1 : Int32).toInt = v1.toInt := rfl; omega) (fun x27 y32 I28 J29 hB30 p31 => ?_)
          have f33 : Fr pD (uI (uI I 97 1 0) 97 0 0) I28 := p31
          have f34 : Fr pK I I28 := Fr.tr f4 f33 (pK_D)
          refine ⟨vp_of (a := 0) rfl (by first | (clear d11 d18 e22 d23 e24 e26 p31; omega) | omega) (by first | (clear d11 d18 e22 d23 e24 e26 p31; omega) | omega), ?_⟩
          have hB35 : Bd (uI I28 112 (Int32.toNatClampNeg 0) (I28 97 44)) := Bd.a0 hB30 (show isA 112 112 0 = true from rfl) (show bna 112 = none from rfl)
          have f36 : Fr pK I (uI I28 112 (Int32.toNatClampNeg 0) (I28 97 44)) := Fr.o f34 (by decide) (by decide)
          refine ⟨vp_of (a := 2) rfl (by first | (clear d11 d18 e22 d23 e24 e26 p31; omega) | omega) (by first | (clear d11 d18 e22 d23 e24 e26 p31; omega) | omega), ?_⟩
          refine ⟨vp_of (a := 1) rfl (by first | (clear d11 d18 e22 d23 e24 e26 p31; omega) | omega) (by first | (clear d11 d18 e22 d23 e24 e26 p31; omega) | omega), ?_⟩
          have hB37 : Bd (uI (uI I28 112 (Int32.toNatClampNeg 0) (I28 97 44)) 112 (Int32.toNatClampNeg 1) (((uI I28 112 (Int32.toNatClampNeg 0) (I28 97 44)) 102 (Int32.toNatClampNeg 2)) - ((uI I28 112 (Int32.toNatClampNeg 0) (I28 97 44)) 97 45))) := Bd.a0 hB35 (show isA 112 112 0 = true from rfl) (show bna 112 = none from rfl)
          have f38 : Fr pK I (uI (uI I28 112 (Int32.toNatClampNeg 0) (I28 97 44)) 112 (Int32.toNatClampNeg 1) (((uI I28 112 (Int32.toNatClampNeg 0) (I28 97 44)) 102 (Int32.toNatClampNeg 2)) - ((uI I28 112 (Int32.toNatClampNeg 0) (I28 97 44)) 97 45))) := Fr.o f36 (by decide) (by decide)
          refine ⟨vp_of (a := 2) rfl (by first | (clear d11 d18 e22 d23 e24 e26 p31; omega) | omega) (by first | (clear d11 d18 e22 d23 e24 e26 p31; omega) | omega), ?_⟩
          have hB39 : Bd (uI (uI (uI I28 112 (Int32.toNatClampNeg 0) (I28 97 44)) 112 (Int32.toNatClampNeg 1) (((uI I28 112 (Int32.toNatClampNeg 0) (I28 97 44)) 102 (Int32.toNatClampNeg 2)) - ((uI I28 112 (Int32.toNatClampNeg 0) (I28 97 44)) 97 45))) 112 (Int32.toNatClampNeg 2) ((uI (uI I28 112 (Int32.toNatClampNeg 0) (I28 97 44)) 112 (Int32.toNatClampNeg 1) (((uI I28 112 (Int32.toNatClampNeg 0) (I28 97 44)) 102 (Int32.toNatClampNeg 2)) - ((uI I28 112 (Int32.toNatClampNeg 0) (I28 97 44)) 97 45))) 97 46)) := Bd.a0 hB37 (show isA 112 112 0 = true from rfl) (show bna 112 = none from rfl)
          have f40 : Fr pK I (uI (uI (uI I28 112 (Int32.toNatClampNeg 0) (I28 97 44)) 112 (Int32.toNatClampNeg 1) (((uI I28 112 (Int32.toNatClampNeg 0) (I28 97 44)) 102 (Int32.toNatClampNeg 2)) - ((uI I28 112 (Int32.toNatClampNeg 0) (I28 97 44)) 97 45))) 112 (Int32.toNatClampNeg 2) ((uI (uI I28 112 (Int32.toNatClampNeg 0) (I28 97 44)) 112 (Int32.toNatClampNeg 1) (((uI I28 112 (Int32.toNatClampNeg 0) (I28 97 44)) 102 (Int32.toNatClampNeg 2)) - ((uI I28 112 (Int32.toNatClampNeg 0) (I28 97 44)) 97 45))) 97 46)) := Fr.o f38 (by decide) (by decide)
          refine ⟨vp_of (a := 3) rfl (by first | (clear d11 d18 e22 d23 e24 e26 p31; omega) | omega) (by first | (clear d11 d18 e22 d23 e24 e26 p31; omega) | omega), ?_⟩
          have hB41 : Bd (uI (uI (uI (uI I28 112 (Int32.toNatClampNeg 0) (I28 97 44)) 112 (Int32.toNatClampNeg 1) (((uI I28 112 (Int32.toNatClampNeg 0) (I28 97 44)) 102 (Int32.toNatClampNeg 2)) - ((uI I28 112 (Int32.toNatClampNeg 0) (I28 97 44)) 97 45))) 112 (Int32.toNatClampNeg 2) ((uI (uI I28 112 (Int32.toNatClampNeg 0) (I28 97 44)) 112 (Int32.toNatClampNeg 1) (((uI I28 112 (Int32.toNatClampNeg 0) (I28 97 44)) 102 (Int32.toNatClampNeg 2)) - ((uI I28 112 (Int32.toNatClampNeg 0) (I28 97 44)) 97 45))) 97 46)) 112 (Int32.toNatClampNeg 3) ((uI (uI (uI I28 112 (Int32.toNatClampNeg 0) (I28 97 44)) 112 (Int32.toNatClampNeg 1) (((uI I28 112 (Int32.toNatClampNeg 0) (I28 97 44)) 102 (Int32.toNatClampNeg 2)) - ((uI I28 112 (Int32.toNatClampNeg 0) (I28 97 44)) 97 45))) 112 (Int32.toNatClampNeg 2) ((uI (uI I28 112 (Int32.toNatClampNeg 0) (I28 97 44)) 112 (Int32.toNatClampNeg 1) (((uI I28 112 (Int32.toNatClampNeg 0) (I28 97 44)) 102 (Int32.toNatClampNeg 2)) - ((uI I28 112 (Int32.toNatClampNeg 0) (I28 97 44)) 97 45))) 97 46)) 97 47)) := Bd.a0 hB39 (show isA 112 112 0 = true from rfl) (show bna 112 = none from rfl)
          have f42 : Fr pK I (uI (uI (uI (uI I28 112 (Int32.toNatClampNeg 0) (I28 97 44)) 112 (Int32.toNatClampNeg 1) (((uI I28 112 (Int32.toNatClampNeg 0) (I28 97 44)) 102 (Int32.toNatClampNeg 2)) - ((uI I28 112 (Int32.toNatClampNeg 0) (I28 97 44)) 97 45))) 112 (Int32.toNatClampNeg 2) ((uI (uI I28 112 (Int32.toNatClampNeg 0) (I28 97 44)) 112 (Int32.toNatClampNeg 1) (((uI I28 112 (Int32.toNatClampNeg 0) (I28 97 44)) 102 (Int32.toNatClampNeg 2)) - ((uI I28 112 (Int32.toNatClampNeg 0) (I28 97 44)) 97 45))) 97 46)) 112 (Int32.toNatClampNeg 3) ((uI (uI (uI I28 112 (Int32.toNatClampNeg 0) (I28 97 44)) 112 (Int32.toNatClampNeg 1) (((uI I28 112 (Int32.toNatClampNeg 0) (I28 97 44)) 102 (Int32.toNatClampNeg 2)) - ((uI I28 112 (Int32.toNatClampNeg 0) (I28 97 44)) 97 45))) 112 (Int32.toNatClampNeg 2) ((uI (uI I28 112 (Int32.toNatClampNeg 0) (I28 97 44)) 112 (Int32.toNatClampNeg 1) (((uI I28 112 (Int32.toNatClampNeg 0) (I28 97 44)) 102 (Int32.toNatClampNeg 2)) - ((uI I28 112 (Int32.toNatClampNeg 0) (I28 97 44)) 97 45))) 97 46)) 97 47)) := Fr.o f40 (by decide) (by decide)
          refine ⟨vp_of (a := 4) rfl (by first | (clear d11 d18 e22 d23 e24 e26 p31; omega) | omega) (by first | (clear d11 d18 e22 d23 e24 e26 p31; omega) | omega), ?_⟩
          have hB43 : Bd (uI (uI (uI (uI (uI I28 112 (Int32.toNatClampNeg 0) (I28 97 44)) 112 (Int32.toNatClampNeg 1) (((uI I28 112 (Int32.toNatClampNeg 0) (I28 97 44)) 102 (Int32.toNatClampNeg 2)) - ((uI I28 112 (Int32.toNatClampNeg 0) (I28 97 44)) 97 45))) 112 (Int32.toNatClampNeg 2) ((uI (uI I28 112 (Int32.toNatClampNeg 0) (I28 97 44)) 112 (Int32.toNatClampNeg 1) (((uI I28 112 (Int32.toNatClampNeg 0) (I28 97 44)) 102 (Int32.toNatClampNeg 2)) - ((uI I28 112 (Int32.toNatClampNeg 0) (I28 97 44)) 97 45))) 97 46)) 112 (Int32.toNatClampNeg 3) ((uI (uI (uI I28 112 (Int32.toNatClampNeg 0) (I28 97 44)) 112 (Int32.toNatClampNeg 1) (((uI I28 112 (Int32.toNatClampNeg 0) (I28 97 44)) 102 (Int32.toNatClampNeg 2)) - ((uI I28 112 (Int32.toNatClampNeg 0) (I28 97 44)) 97 45))) 112 (Int32.toNatClampNeg 2) ((uI (uI I28 112 (Int32.toNatClampNeg 0) (I28 97 44)) 112 (Int32.toNatClampNeg 1) (((uI I28 112 (Int32.toNatClampNeg 0) (I28 97 44)) 102 (Int32.toNatClampNeg 2)) - ((uI I28 112 (Int32.toNatClampNeg 0) (I28 97 44)) 97 45))) 97 46)) 97 47)) 112 (Int32.toNatClampNeg 4) ((uI (uI (uI (uI I28 112 (Int32.toNatClampNeg 0) (I28 97 44)) 112 (Int32.toNatClampNeg 1) (((uI I28 112 (Int32.toNatClampNeg 0) (I28 97 44)) 102 (Int32.toNatClampNeg 2)) - ((uI I28 112 (Int32.toNatClampNeg 0) (I28 97 44)) 97 45))) 112 (Int32.toNatClampNeg 2) ((uI (uI I28 112 (Int32.toNatClampNeg 0) (I28 97 44)) 112 (Int32.toNatClampNeg 1) (((uI I28 112 (Int32.toNatClampNeg 0) (I28 97 44)) 102 (Int32.toNatClampNeg 2)) - ((uI I28 112 (Int32.toNatClampNeg 0) (I28 97 44)) 97 45))) 97 46)) 112 (Int32.toNatClampNeg 3) ((uI (uI (uI I28 112 (Int32.toNatClampNeg 0) (I28 97 44)) 112 (Int32.toNatClampNeg 1) (((uI I28 112 (Int32.toNatClampNeg 0) (I28 97 44)) 102 (Int32.toNatClampNeg 2)) - ((uI I28 112 (Int32.toNatClampNeg 0) (I28 97 44)) 97 45))) 112 (Int32.toNatClampNeg 2) ((uI (uI I28 112 (Int32.toNatClampNeg 0) (I28 97 44)) 112 (Int32.toNatClampNeg 1) (((uI I28 112 (Int32.toNatClampNeg 0) (I28 97 44)) 102 (Int32.toNatClampNeg 2)) - ((uI I28 112 (Int32.toNatClampNeg 0) (I28 97 44)) 97 45))) 97 46)) 97 47)) 97 48)) := Bd.a0 hB41 (show isA 112 112 0 = true from rfl) (show bna 112 = none from rfl)
          have f44 : Fr pK I (uI (uI (uI (uI (uI I28 112 (Int32.toNatClampNeg 0) (I28 97 44)) 112 (Int32.toNatClampNeg 1) (((uI I28 112 (Int32.toNatClampNeg 0) (I28 97 44)) 102 (Int32.toNatClampNeg 2)) - ((uI I28 112 (Int32.toNatClampNeg 0) (I28 97 44)) 97 45))) 112 (Int32.toNatClampNeg 2) ((uI (uI I28 112 (Int32.toNatClampNeg 0) (I28 97 44)) 112 (Int32.toNatClampNeg 1) (((uI I28 112 (Int32.toNatClampNeg 0) (I28 97 44)) 102 (Int32.toNatClampNeg 2)) - ((uI I28 112 (Int32.toNatClampNeg 0) (I28 97 44)) 97 45))) 97 46)) 112 (Int32.toNatClampNeg 3) ((uI (uI (uI I28 112 (Int32.toNatClampNeg 0) (I28 97 44)) 112 (Int32.toNatClampNeg 1) (((uI I28 112 (Int32.toNatClampNeg 0) (I28 97 44)) 102 (Int32.toNatClampNeg 2)) - ((uI I28 112 (Int32.toNatClampNeg 0) (I28 97 44)) 97 45))) 112 (Int32.toNatClampNeg 2) ((uI (uI I28 112 (Int32.toNatClampNeg 0) (I28 97 44)) 112 (Int32.toNatClampNeg 1) (((uI I28 112 (Int32.toNatClampNeg 0) (I28 97 44)) 102 (Int32.toNatClampNeg 2)) - ((uI I28 112 (Int32.toNatClampNeg 0) (I28 97 44)) 97 45))) 97 46)) 97 47)) 112 (Int32.toNatClampNeg 4) ((uI (uI (uI (uI I28 112 (Int32.toNatClampNeg 0) (I28 97 44)) 112 (Int32.toNatClampNeg 1) (((uI I28 112 (Int32.toNatClampNeg 0) (I28 97 44)) 102 (Int32.toNatClampNeg 2)) - ((uI I28 112 (Int32.toNatClampNeg 0) (I28 97 44)) 97 45))) 112 (Int32.toNatClampNeg 2) ((uI (uI I28 112 (Int32.toNatClampNeg 0) (I28 97 44)) 112 (Int32.toNatClampNeg 1) (((uI I28 112 (Int32.toNatClampNeg 0) (I28 97 44)) 102 (Int32.toNatClampNeg 2)) - ((uI I28 112 (Int32.toNatClampNeg 0) (I28 97 44)) 97 45))) 97 46)) 112 (Int32.toNatClampNeg 3) ((uI (uI (uI I28 112 (Int32.toNatClampNeg 0) (I28 97 44)) 112 (Int32.toNatClampNeg 1) (((uI I28 112 (Int32.toNatClampNeg 0) (I28 97 44)) 102 (Int32.toNatClampNeg 2)) - ((uI I28 112 (Int32.toNatClampNeg 0) (I28 97 44)) 97 45))) 112 (Int32.toNatClampNeg 2) ((uI (uI I28 112 (Int32.toNatClampNeg 0) (I28 97 44)) 112 (Int32.toNatClampNeg 1) (((uI I28 112 (Int32.toNatClampNeg 0) (I28 97 44)) 102 (Int32.toNatClampNeg 2)) - ((uI I28 112 (Int32.toNatClampNeg 0) (I28 97 44)) 97 45))) 97 46)) 97 47)) 97 48)) := Fr.o f42 (by decide) (by decide)
          refine ⟨Or.inr rfl, ?_⟩
          have hB45 : Bd (uI (uI (uI (uI (uI (uI I28 112 (Int32.toNatClampNeg 0) (I28 97 44)) 112 (Int32.toNatClampNeg 1) (((uI I28 112 (Int32.toNatClampNeg 0) (I28 97 44)) 102 (Int32.toNatClampNeg 2)) - ((uI I28 112 (Int32.toNatClampNeg 0) (I28 97 44)) 97 45))) 112 (Int32.toNatClampNeg 2) ((uI (uI I28 112 (Int32.toNatClampNeg 0) (I28 97 44)) 112 (Int32.toNatClampNeg 1) (((uI I28 112 (Int32.toNatClampNeg 0) (I28 97 44)) 102 (Int32.toNatClampNeg 2)) - ((uI I28 112 (Int32.toNatClampNeg 0) (I28 97 44)) 97 45))) 97 46)) 112 (Int32.toNatClampNeg 3) ((uI (uI (uI I28 112 (Int32.toNatClampNeg 0) (I28 97 44)) 112 (Int32.toNatClampNeg 1) (((uI I28 112 (Int32.toNatClampNeg 0) (I28 97 44)) 102 (Int32.toNatClampNeg 2)) - ((uI I28 112 (Int32.toNatClampNeg 0) (I28 97 44)) 97 45))) 112 (Int32.toNatClampNeg 2) ((uI (uI I28 112 (Int32.toNatClampNeg 0) (I28 97 44)) 112 (Int32.toNatClampNeg 1) (((uI I28 112 (Int32.toNatClampNeg 0) (I28 97 44)) 102 (Int32.toNatClampNeg 2)) - ((uI I28 112 (Int32.toNatClampNeg 0) (I28 97 44)) 97 45))) 97 46)) 97 47)) 112 (Int32.toNatClampNeg 4) ((uI (uI (uI (uI I28 112 (Int32.toNatClampNeg 0) (I28 97 44)) 112 (Int32.toNatClampNeg 1) (((uI I28 112 (Int32.toNatClampNeg 0) (I28 97 44)) 102 (Int32.toNatClampNeg 2)) - ((uI I28 112 (Int32.toNatClampNeg 0) (I28 97 44)) 97 45))) 112 (Int32.toNatClampNeg 2) ((uI (uI I28 112 (Int32.toNatClampNeg 0) (I28 97 44)) 112 (Int32.toNatClampNeg 1) (((uI I28 112 (Int32.toNatClampNeg 0) (I28 97 44)) 102 (Int32.toNatClampNeg 2)) - ((uI I28 112 (Int32.toNatClampNeg 0) (I28 97 44)) 97 45))) 97 46)) 112 (Int32.toNatClampNeg 3) ((uI (uI (uI I28 112 (Int32.toNatClampNeg 0) (I28 97 44)) 112 (Int32.toNatClampNeg 1) (((uI I28 112 (Int32.toNatClampNeg 0) (I28 97 44)) 102 (Int32.toNatClampNeg 2)) - ((uI I28 112 (Int32.toNatClampNeg 0) (I28 97 44)) 97 45))) 112 (Int32.toNatClampNeg 2) ((uI (uI I28 112 (Int32.toNatClampNeg 0) (I28 97 44)) 112 (Int32.toNatClampNeg 1) (((uI I28 112 (Int32.toNatClampNeg 0) (I28 97 44)) 102 (Int32.toNatClampNeg 2)) - ((uI I28 112 (Int32.toNatClampNeg 0) (I28 97 44)) 97 45))) 97 46)) 97 47)) 97 48)) 97 40 1) := Bd.o1 hB43 io9_112_97_12 (by decide) bd9_12_40 rfl (bl_ti (Or.inr rfl))
          have f46 : Fr pK I (uI (uI (uI (uI (uI (uI I28 112 (Int32.toNatClampNeg 0) (I28 97 44)) 112 (Int32.toNatClampNeg 1) (((uI I28 112 (Int32.toNatClampNeg 0) (I28 97 44)) 102 (Int32.toNatClampNeg 2)) - ((uI I28 112 (Int32.toNatClampNeg 0) (I28 97 44)) 97 45))) 112 (Int32.toNatClampNeg 2) ((uI (uI I28 112 (Int32.toNatClampNeg 0) (I28 97 44)) 112 (Int32.toNatClampNeg 1) (((uI I28 112 (Int32.toNatClampNeg 0) (I28 97 44)) 102 (Int32.toNatClampNeg 2)) - ((uI I28 112 (Int32.toNatClampNeg 0) (I28 97 44)) 97 45))) 97 46)) 112 (Int32.toNatClampNeg 3) ((uI (uI (uI I28 112 (Int32.toNatClampNeg 0) (I28 97 44)) 112 (Int32.toNatClampNeg 1) (((uI I28 112 (Int32.toNatClampNeg 0) (I28 97 44)) 102 (Int32.toNatClampNeg 2)) - ((uI I28 112 (Int32.toNatClampNeg 0) (I28 97 44)) 97 45))) 112 (Int32.toNatClampNeg 2) ((uI (uI I28 112 (Int32.toNatClampNeg 0) (I28 97 44)) 112 (Int32.toNatClampNeg 1) (((uI I28 112 (Int32.toNatClampNeg 0) (I28 97 44)) 102 (Int32.toNatClampNeg 2)) - ((uI I28 112 (Int32.toNatClampNeg 0) (I28 97 44)) 97 45))) 97 46)) 97 47)) 112 (Int32.toNatClampNeg 4) ((uI (uI (uI (uI I28 112 (Int32.toNatClampNeg 0) (I28 97 44)) 112 (Int32.toNatClampNeg 1) (((uI I28 112 (Int32.toNatClampNeg 0) (I28 97 44)) 102 (Int32.toNatClampNeg 2)) - ((uI I28 112 (Int32.toNatClampNeg 0) (I28 97 44)) 97 45))) 112 (Int32.toNatClampNeg 2) ((uI (uI I28 112 (Int32.toNatClampNeg 0) (I28 97 44)) 112 (Int32.toNatClampNeg 1) (((uI I28 112 (Int32.toNatClampNeg 0) (I28 97 44)) 102 (Int32.toNatClampNeg 2)) - ((uI I28 112 (Int32.toNatClampNeg 0) (I28 97 44)) 97 45))) 97 46)) 112 (Int32.toNatClampNeg 3) ((uI (uI (uI I28 112 (Int32.toNatClampNeg 0) (I28 97 44)) 112 (Int32.toNatClampNeg 1) (((uI I28 112 (Int32.toNatClampNeg 0) (I28 97 44)) 102 (Int32.toNatClampNeg 2)) - ((uI I28 112 (Int32.toNatClampNeg 0) (I28 97 44)) 97 45))) 112 (Int32.toNatClampNeg 2) ((uI (uI I28 112 (Int32.toNatClampNeg 0) (I28 97 44)) 112 (Int32.toNatClampNeg 1) (((uI I28 112 (Int32.toNatClampNeg 0) (I28 97 44)) 102 (Int32.toNatClampNeg 2)) - ((uI I28 112 (Int32.toNatClampNeg 0) (I28 97 44)) 97 45))) 97 46)) 97 47)) 97 48)) 97 40 1) := Fr.o f44 (by decide) (by decide)
          exact hQ _ _ _ _ hB45 f46
        · skip
          have e47 : (((uI (uI I 97 1 0) 97 0 0) 102 (Int32.toNatClampNeg 52)) : Int32).toInt = (I 102 52).toInt := Eq.trans (congrArg Int32.toInt (Eq.trans (Eq.trans (rd_ne (by first | decide | omega)) (rd_ne (by first | decide | omega))) rfl)) rfl
          have d48 : (((I 102 52).toInt) : Int) = (0) := ci_eq e47 rfl c21
          refine w_X12_refuse ?_
          have hB49 : Bd (uI (uI (uI I 97 1 0) 97 0 0) 97 0 8) := Bd.o0 hB3 io9_112_97_12 (by decide) bd9_12_0
          have f50 : Fr pK I (uI (uI (uI I 97 1 0) 97 0 0) 97 0 8) := Fr.o f4 (by decide) (by decide)
          exact hQ _ _ _ _ hB49 f50
      · exact absurd c20 (by decide)
set_option maxHeartbeats 2000000 in
theorem sp_X12_mean {d : Nat} {Q : Qt} {v1 : Int32} {v2 : Int32} {I : Im} {J : Jm} {R : Rm} (hB0 : Bd I) (hR0 : RI R) (hQ : ∀ (x : Int32) (y : Int64) (I2 : Im) (J2 : Jm), Bd I2 → ((FK I I2)) → Q x y I2 J2 R) : AM (d + 611) 315 112 [.ref 97, .int v1, .int v2] I J R Q := by
  have i_v1 := i32 v1
  have i_v2 := i32 v2
  refine am_X12_mean (fun P hc => ?_)
  have L : ∀ n : Nat, (∀ (v3 : Int32) (M : Im) (JM : Jm), Bd M → (BEq M v3.toInt) → (FK I M) → (1 ≤ v2.toInt ∧ v2.toInt ≤ 20 ∧ 0 ≤ v1.toInt ∧ v1.toInt ≤ 10000 - v2.toInt ∧ ¬ (M 102 52).toInt = 0 ∧ 0 ≤ v3.toInt ∧ v3.toInt ≤ 52) → 90000 - v3.toInt < (n : Int) → P 62 112 [(0, .ref 97), (1, .int v1), (2, .int v2), (3, .int v3)] [] M JM R) ∧ (∀ (v3 : Int64) (v5 : Int32) (M : Im) (JM : Jm), Bd M → (BEq M 52) → (FK I M) → (1 ≤ v2.toInt ∧ v2.toInt ≤ 20 ∧ 0 ≤ v1.toInt ∧ v1.toInt ≤ 10000 - v2.toInt ∧ ¬ (M 102 52).toInt = 0 ∧ 0 ≤ v5.toInt ∧ v5.toInt ≤ v2.toInt) → 80000 - 1000 * v5.toInt < (n : Int) → P 91 112 [(0, .ref 97), (1, .int v1), (2, .int v2), (3, .long v3), (5, .int v5)] [] M JM R) ∧ (∀ (v3 : Int64) (v5 : Int32) (v6 : Int32) (M : Im) (JM : Jm), Bd M → (BD M) → (FK I M) → (1 ≤ v2.toInt ∧ v2.toInt ≤ 20 ∧ 0 ≤ v1.toInt ∧ v1.toInt ≤ 10000 - v2.toInt ∧ ¬ (M 102 52).toInt = 0 ∧ 0 ≤ v5.toInt ∧ v5.toInt < v2.toInt ∧ 0 ≤ v6.toInt ∧ v6.toInt ≤ 6) → 80000 - 1000 * v5.toInt - 100 - v6.toInt < (n : Int) → P 108 112 [(0, .ref 97), (1, .int v1), (2, .int v2), (3, .long v3), (5, .int v5), (6, .int v6)] [] M JM R) ∧ (∀ (v3 : Int64) (v5 : Int32) (v6 : Int32) (M : Im) (JM : Jm), Bd M → (BD M) → (BEq M v6.toInt) → (FK I M) → (1 ≤ v2.toInt ∧ v2.toInt ≤ 20 ∧ 0 ≤ v1.toInt ∧ v1.toInt ≤ 10000 - v2.toInt ∧ ¬ (M 102 52).toInt = 0 ∧ 0 ≤ v5.toInt ∧ v5.toInt < v2.toInt ∧ 0 ≤ v6.toInt ∧ v6.toInt ≤ 52) → 80000 - 1000 * v5.toInt - 200 - v6.toInt < (n : Int) → P 144 112 [(0, .ref 97), (1, .int v1), (2, .int v2), (3, .long v3), (5, .int v5), (6, .int v6)] [] M JM R) := by
    intro n
    induction n with
    | zero =>
      exact ⟨fun v3 M J _ _ _ hi hm => absurd hm (by omega), fun v3 v5 M J _ _ _ hi hm => absurd hm (by omega), fun v3 v5 v6 M J _ _ _ hi hm => absurd hm (by omega), fun v3 v5 v6 M J _ _ _ _ hi hm => absurd hm (by omega)⟩
    | succ n ih =>
      refine ⟨?_, ?_, ?_, ?_⟩
      · skip
        intro v3 M JM hB hq_0 hq_1 hi hm
        have i_v1 := i32 v1
        have i_v2 := i32 v2
        have i_v3 := i32 v3
        refine sg_X12_mean_62 hc _ _ _ _ _ _ ?_
        refine ⟨fun c1 => ?_, fun c1 => ?_⟩
        · skip
          have d2 : ((52) : Int) ≤ (v3.toInt) := ci_le rfl rfl c1
          have hv3 : BEq M 52 := (by rw [show (52 : Int) = v3.toInt by omega]; exact hq_0)
          have hv4 : FK I M := hq_1
          exact ih.2.1 _ _ _ _ hB hv3 hv4 (by have q0 : (0 : Int32).toInt = 0 := rfl; have q1 : ((M 102 52) : Int32).toInt = (M 102 52).toInt := rfl; omega) (by have q0 : (0 : Int32).toInt = 0 := rfl; omega)
        · skip
          have d5 : ((v3.toInt) : Int) < (52) := ci_nle rfl rfl c1
          refine ⟨vp_of (a := v3.toInt) rfl (by omega) (by omega), ?_⟩
          refine ⟨vp_of (a := v3.toInt) rfl (by omega) (by omega), ?_⟩
          have hB6 : Bd (uI M 103 (Int32.toNatClampNeg v3) (M 102 (Int32.toNatClampNeg v3))) := Bd.a0 hB (show isA 112 103 0 = true from rfl) (show bna 103 = none from rfl)
          have e7 : ((v3 + 1) : Int32).toInt = (v3.toInt) + (1) := ti_add rfl rfl (by omega)
          have e8 : (((uI M 103 (Int32.toNatClampNeg v3) (M 102 (Int32.toNatClampNeg v3))) 102 52) : Int32).toInt = (M 102 52).toInt := Eq.trans (congrArg Int32.toInt (rd_ne (by first | decide | omega))) rfl
          have hv9 : BEq (uI M 103 (Int32.toNatClampNeg v3) (M 102 (Int32.toNatClampNeg v3))) (v3 + 1).toInt := (BEq.keep hq_0 (by omega) (ti_add rfl rfl (by omega)))
          have hv10 : FK I (uI M 103 (Int32.toNatClampNeg v3) (M 102 (Int32.toNatClampNeg v3))) := (FK.u hq_1 (by decide))
          exact ih.1 _ _ _ hB6 hv9 hv10 (by have q0 : ((v3 + 1) : Int32).toInt = (v3.toInt + 1) := e7; have q1 : (((uI M 103 (Int32.toNatClampNeg v3) (M 102 (Int32.toNatClampNeg v3))) 102 52) : Int32).toInt = (M 102 52).toInt := e8; omega) (by have q0 : ((v3 + 1) : Int32).toInt = (v3.toInt + 1) := e7; omega)
      · skip
        intro v3 v5 M JM hB hq_0 hq_1 hi hm
        have i_v1 := i32 v1
        have i_v2 := i32 v2
        have i_v3 := i64 v3
        have i_v5 := i32 v5
        refine sg_X12_mean_91 hc _ _ _ _ _ _ _ ?_
        refine ⟨fun c11 => ?_, fun c11 => ?_⟩
        · skip
          have d12 : ((v2.toInt) : Int) ≤ (v5.toInt) := ci_le rfl rfl c11
          refine kp102 rfl hR0 rfl (sp_X12_fraction hB hR0 (loafs (by omega)) (fun x13 y18 I14 J15 hB16 p17 w19 => ?_))
          intro o20
          have f21 : Fr pT M I14 := ⟨fun j _ => congrFun w19.1 j, w19.2⟩
          have i22 := i32 x13
          refine ⟨o20, ?_⟩
          exact hQ _ _ _ _ hB16 (FK.fr hq_1 (Fr.tr (Fr.refl pD _) f21 (fun _ _ => trivial)))
        · skip
          have d23 : ((v5.toInt) : Int) < (v2.toInt) := ci_nle rfl rfl c11
          have b24 := (Bd.c hB (j := 53) (z := 53) rfl).2.2.1 (by decide)
          have e25 : ((v1 + v5) : Int32).toInt = (v1.toInt) + (v5.toInt) := ti_add rfl rfl (by omega)
          refine sp_X12_runsDays hB hR0 (by have y52 : ((M 102 52)).toInt = (M 102 52).toInt := rfl; have y53 : ((M 102 53)).toInt = (M 102 53).toInt := rfl; omega) (by have z1 : ((v1 + v5) : Int32).toInt = (v1.toInt + v5.toInt) := e25; omega) (fun x26 y31 I27 J28 hB29 p30 => ?_)
          have f32 : Fr pD M I27 := p30
          have e33 : ((I27 102 52) : Int32).toInt = (M 102 52).toInt := Eq.trans (congrArg Int32.toInt (f32.1 52 (by unfold pD; omega))) rfl
          have hv34 : BD I27 := (BD.of hq_0 f32 hB)
          have hv35 : FK I I27 := (FK.fr hq_1 f32)
          exact ih.2.2.1 _ _ _ _ _ hB29 hv34 hv35 (by have q0 : (v5 : Int32).toInt = v5.toInt := rfl; have q1 : (0 : Int32).toInt = 0 := rfl; have q2 : ((I27 102 52) : Int32).toInt = (M 102 52).toInt := e33; omega) (by have q0 : (v5 : Int32).toInt = v5.toInt := rfl; have q1 : (0 : Int32).toInt = 0 := rfl; omega)
      · skip
        intro v3 v5 v6 M JM hB hq_0 hq_1 hi hm
        have i_v1 := i32 v1
        have i_v2 := i32 v2
        have i_v3 := i64 v3
        have i_v5 := i32 v5
        have i_v6 := i32 v6
        refine sg_X12_mean_108 hc _ _ _ _ _ _ _ _ ?_
        refine ⟨vp_of (a := 0) rfl (by omega) (by omega), ?_⟩
        refine ⟨fun c36 => ?_, fun c36 => ?_⟩
        · skip
          have b37 := (Bd.c hB (j := 0) (z := 0) rfl).1 (by decide)
          have e38 : ((M 102 (Int32.toNatClampNeg 0)) : Int32).toInt = (M 102 0).toInt := Eq.trans (congrArg Int32.toInt rfl) rfl
          have d39 : (((M 102 0).toInt) : Int) ≤ (v6.toInt) := ci_le e38 rfl c36
          have hv40 : BD M := hq_0
          have hv41 : BEq M (0 : Int32).toInt := (BEq.zero (Int.le_refl 0))
          have hv42 : FK I M := hq_1
          exact ih.2.2.2 _ _ _ _ _ hB hv40 hv41 hv42 (by have q0 : (v5 : Int32).toInt = v5.toInt := rfl; have q1 : (0 : Int32).toInt = 0 := rfl; have q2 : ((M 102 52) : Int32).toInt = (M 102 52).toInt := rfl; omega) (by have q0 : (v5 : Int32).toInt = v5.toInt := rfl; have q1 : (0 : Int32).toInt = 0 := rfl; omega)
        · skip
          have b43 := (Bd.c hB (j := 0) (z := 0) rfl).1 (by decide)
          have e44 : ((M 102 (Int32.toNatClampNeg 0)) : Int32).toInt = (M 102 0).toInt := Eq.trans (congrArg Int32.toInt rfl) rfl
          have d45 : ((v6.toInt) : Int) < ((M 102 0).toInt) := ci_nle e44 rfl c36
          have e46 : ((46 + v6) : Int32).toInt = (46) + (v6.toInt) := ti_add rfl rfl (by omega)
          refine ⟨vp_of (a := (46 + v6.toInt)) e46 (by omega) (by omega), ?_⟩
          refine sp_X12_sumOf hB hR0 (fun x47 y52 I48 J49 hB50 p51 => ?_)
          subst p51
          have e53 : ((v6 + 1) : Int32).toInt = (v6.toInt) + (1) := ti_add rfl rfl (by omega)
          have hv54 : BD M := hq_0
          have hv55 : FK I M := hq_1
          exact ih.2.2.1 _ _ _ _ _ hB hv54 hv55 (by have q0 : (v5 : Int32).toInt = v5.toInt := rfl; have q1 : ((v6 + 1) : Int32).toInt = (v6.toInt + 1) := e53; have q2 : ((M 102 52) : Int32).toInt = (M 102 52).toInt := rfl; omega) (by have q0 : (v5 : Int32).toInt = v5.toInt := rfl; have q1 : ((v6 + 1) : Int32).toInt = (v6.toInt + 1) := e53; omega)
      · skip
        intro v3 v5 v6 M JM hB hq_0 hq_1 hq_2 hi hm
        have i_v1 := i32 v1
        have i_v2 := i32 v2
        have i_v3 := i64 v3
        have i_v5 := i32 v5
        have i_v6 := i32 v6
        refine sg_X12_mean_144 hc _ _ _ _ _ _ _ _ ?_
        refine ⟨fun c56 => ?_, fun c56 => ?_⟩
        · skip
          have d57 : ((52) : Int) ≤ (v6.toInt) := ci_le rfl rfl c56
          have e58 : ((v5 + 1) : Int32).toInt = (v5.toInt) + (1) := ti_add rfl rfl (by omega)
          have hv59 : BEq M 52 := (by rw [show (52 : Int) = v6.toInt by omega]; exact hq_1)
          have hv60 : FK I M := hq_2
          exact ih.2.1 _ _ _ _ hB hv59 hv60 (by have q0 : ((v5 + 1) : Int32).toInt = (v5.toInt + 1) := e58; have q1 : ((M 102 52) : Int32).toInt = (M 102 52).toInt := rfl; omega) (by have q0 : ((v5 + 1) : Int32).toInt = (v5.toInt + 1) := e58; omega)
        · skip
          have d61 : ((v6.toInt) : Int) < (52) := ci_nle rfl rfl c56
          refine ⟨vp_of (a := v6.toInt) rfl (by omega) (by omega), ?_⟩
          refine ⟨vp_of (a := v6.toInt) rfl (by omega) (by omega), ?_⟩
          have hB62 : Bd (uI M 102 (Int32.toNatClampNeg v6) (M 103 (Int32.toNatClampNeg v6))) := Bd.rest hB hq_0 (by omega)
          have e63 : ((v6 + 1) : Int32).toInt = (v6.toInt) + (1) := ti_add rfl rfl (by omega)
          have e64 : (((uI M 102 (Int32.toNatClampNeg v6) (M 103 (Int32.toNatClampNeg v6))) 102 52) : Int32).toInt = (M 102 52).toInt := Eq.trans (congrArg Int32.toInt (rd_k (fun z => by have z1 := tn_of (show (52 : Int32).toInt = 52 from rfl) (by omega); have z2 := tn_of (show (v6 : Int32).toInt = v6.toInt from rfl) (by omega); have z0 : (52 : Nat) = (Int32.toNatClampNeg v6) := z; have z4 : Int32.toNatClampNeg 52 = 52 := rfl; omega))) rfl
          have hv65 : BD (uI M 102 (Int32.toNatClampNeg v6) (M 103 (Int32.toNatClampNeg v6))) := (BD.w hq_0 (by omega))
          have hv66 : BEq (uI M 102 (Int32.toNatClampNeg v6) (M 103 (Int32.toNatClampNeg v6))) (v6 + 1).toInt := (BEq.w hq_1 (by omega) (ti_add rfl rfl (by omega)))
          have hv67 : FK I (uI M 102 (Int32.toNatClampNeg v6) (M 103 (Int32.toNatClampNeg v6))) := (FK.w hq_2 hq_0 (by omega) (by omega))
          exact ih.2.2.2 _ _ _ _ _ hB62 hv65 hv66 hv67 (by have q0 : (v5 : Int32).toInt = v5.toInt := rfl; have q1 : ((v6 + 1) : Int32).toInt = (v6.toInt + 1) := e63; have q2 : (((uI M 102 (Int32.toNatClampNeg v6) (M 103 (Int32.toNatClampNeg v6))) 102 52) : Int32).toInt = (M 102 52).toInt := e64; omega) (by have q0 : (v5 : Int32).toInt = v5.toInt := rfl; have q1 : ((v6 + 1) : Int32).toInt = (v6.toInt + 1) := e63; omega)
  refine sg_X12_mean_0 hc _ _ _ _ _ ?_
  have hB68 : Bd (uI I 97 1 0) := Bd.o0 hB0 io9_112_97_12 (by decide) bd9_12_1
  have hB69 : Bd (uI (uI I 97 1 0) 97 0 0) := Bd.o0 hB68 io9_112_97_12 (by decide) bd9_12_0
  refine w_X12_isIn ?_
  refine ⟨fun c70 => ?_, fun c70 => ?_⟩
  · skip
    rw [lg_cmp_lt] at c70
    have d71 : ((v2.toInt) : Int) < (1) := cl_lt (tl_i2l rfl) rfl c70
    refine ⟨Or.inl rfl, ?_⟩
    intro o72
    refine ⟨fun c73 => ?_, fun c73 => ?_⟩
    · skip
      refine w_X12_no ?_
      have hB74 : Bd (uI (uI (uI I 97 1 0) 97 0 0) 97 0 5) := Bd.o0 hB69 io9_112_97_12 (by decide) bd9_12_0
      refine ⟨Or.inl rfl, ?_⟩
      intro o75
      refine ⟨Or.inl rfl, ?_⟩
      exact hQ _ _ _ _ hB74 (FK.u (FK.u (FK.u FK.rf (by decide)) (by decide)) (by decide))
    · exact absurd c73 (by decide)
  · skip
    rw [lg_cmp_lt] at c70
    have d76 : ((1) : Int) ≤ (v2.toInt) := cl_nlt (tl_i2l rfl) rfl c70
    refine ⟨fun c77 => ?_, fun c77 => ?_⟩
    · skip
      rw [lg_cmp_gt] at c77
      have d78 : ((20) : Int) < (v2.toInt) := cl_lt rfl (tl_i2l rfl) c77
      refine ⟨Or.inl rfl, ?_⟩
      intro o79
      refine ⟨fun c80 => ?_, fun c80 => ?_⟩
      · skip
        refine w_X12_no ?_
        have hB81 : Bd (uI (uI (uI I 97 1 0) 97 0 0) 97 0 5) := Bd.o0 hB69 io9_112_97_12 (by decide) bd9_12_0
        refine ⟨Or.inl rfl, ?_⟩
        intro o82
        refine ⟨Or.inl rfl, ?_⟩
        exact hQ _ _ _ _ hB81 (FK.u (FK.u (FK.u FK.rf (by decide)) (by decide)) (by decide))
      · exact absurd c80 (by decide)
    · skip
      rw [lg_cmp_gt] at c77
      have d83 : ((v2.toInt) : Int) ≤ (20) := cl_nlt rfl (tl_i2l rfl) c77
      refine ⟨Or.inr rfl, ?_⟩
      intro o84
      refine ⟨fun c85 => ?_, fun c85 => ?_⟩
      · exact absurd c85 (by decide)
      · skip
        refine w_X12_isIn ?_
        refine ⟨fun c86 => ?_, fun c86 => ?_⟩
        · skip
          rw [lg_cmp_lt] at c86
          have d87 : ((v1.toInt) : Int) < (0) := cl_lt (tl_i2l rfl) rfl c86
          refine ⟨Or.inl rfl, ?_⟩
          intro o88
          refine ⟨fun c89 => ?_, fun c89 => ?_⟩
          · exact absurd c89 (by decide)
          · skip
            refine w_X12_no ?_
            have hB90 : Bd (uI (uI (uI I 97 1 0) 97 0 0) 97 0 5) := Bd.o0 hB69 io9_112_97_12 (by decide) bd9_12_0
            refine ⟨Or.inl rfl, ?_⟩
            intro o91
            refine ⟨Or.inl rfl, ?_⟩
            exact hQ _ _ _ _ hB90 (FK.u (FK.u (FK.u FK.rf (by decide)) (by decide)) (by decide))
        · skip
          rw [lg_cmp_lt] at c86
          have d92 : ((0) : Int) ≤ (v1.toInt) := cl_nlt (tl_i2l rfl) rfl c86
          refine ⟨fun c93 => ?_, fun c93 => ?_⟩
          · skip
            rw [lg_cmp_gt] at c93
            have e94 : ((10000 - v2) : Int32).toInt = (10000) - (v2.toInt) := ti_sub rfl rfl (by omega)
            have i95 := i32 ((10000 - v2))
            have d96 : (((10000 - v2.toInt)) : Int) < (v1.toInt) := cl_lt (tl_i2l e94) (tl_i2l rfl) c93
            refine ⟨Or.inl rfl, ?_⟩
            intro o97
            refine ⟨fun c98 => ?_, fun c98 => ?_⟩
            · exact absurd c98 (by decide)
            · skip
              refine w_X12_no ?_
              have hB99 : Bd (uI (uI (uI I 97 1 0) 97 0 0) 97 0 5) := Bd.o0 hB69 io9_112_97_12 (by decide) bd9_12_0
              refine ⟨Or.inl rfl, ?_⟩
              intro o100
              refine ⟨Or.inl rfl, ?_⟩
              exact hQ _ _ _ _ hB99 (FK.u (FK.u (FK.u FK.rf (by decide)) (by decide)) (by decide))
          · skip
            rw [lg_cmp_gt] at c93
            have e101 : ((10000 - v2) : Int32).toInt = (10000) - (v2.toInt) := ti_sub rfl rfl (by omega)
            have i102 := i32 ((10000 - v2))
            have d103 : ((v1.toInt) : Int) ≤ ((10000 - v2.toInt)) := cl_nlt (tl_i2l e101) (tl_i2l rfl) c93
            refine ⟨Or.inr rfl, ?_⟩
            intro o104
            refine ⟨fun c105 => ?_, fun c105 => ?_⟩
            · skip
              refine ⟨vp_of (a := 52) rfl (by first | (clear d76 d83 d92 e101 i102 d103; omega) | omega) (by first | (clear d76 d83 d92 e101 i102 d103; omega) | omega), ?_⟩
              refine ⟨fun c106 => ?_, fun c106 => ?_⟩
              · skip
                have e107 : (((uI (uI I 97 1 0) 97 0 0) 102 (Int32.toNatClampNeg 52)) : Int32).toInt = (I 102 52).toInt := Eq.trans (congrArg Int32.toInt (Eq.trans (Eq.trans (rd_ne (by first | decide | omega)) (rd_ne (by first | decide | omega))) rfl)) rfl
                have d108 : ¬ (((I 102 52).toInt) : Int) = (0) := ci_ne e107 rfl c106
                have e109 : (((uI (uI I 97 1 0) 97 0 0) 102 52) : Int32).toInt = (I 102 52).toInt := Eq.trans (congrArg Int32.toInt (Eq.trans (rd_ne (by first | decide | omega)) (rd_ne (by first | decide | omega)))) rfl
                have hv110 : BEq (uI (uI I 97 1 0) 97 0 0) (0 : Int32).toInt := (BEq.zero (Int.le_refl 0))
                have hv111 : FK I (uI (uI I 97 1 0) 97 0 0) := (FK.u (FK.u FK.rf (by decide)) (by decide))
                exact (L 1000000).1 _ _ _ hB69 hv110 hv111 (by have q0 : (0 : Int32).toInt = 0 := rfl; have q1 : (((uI (uI I 97 1 0) 97 0 0) 102 52) : Int32).toInt = (I 102 52).toInt := e109; omega) (by have q0 : (0 : Int32).toInt = 0 := rfl; omega)
              · skip
                have e112 : (((uI (uI I 97 1 0) 97 0 0) 102 (Int32.toNatClampNeg 52)) : Int32).toInt = (I 102 52).toInt := Eq.trans (congrArg Int32.toInt (Eq.trans (Eq.trans (rd_ne (by first | decide | omega)) (rd_ne (by first | decide | omega))) rfl)) rfl
                have d113 : (((I 102 52).toInt) : Int) = (0) := ci_eq e112 rfl c106
                refine w_X12_no ?_
                have hB114 : Bd (uI (uI (uI I 97 1 0) 97 0 0) 97 0 8) := Bd.o0 hB69 io9_112_97_12 (by decide) bd9_12_0
                refine ⟨Or.inl rfl, ?_⟩
                intro o115
                refine ⟨Or.inl rfl, ?_⟩
                exact hQ _ _ _ _ hB114 (FK.u (FK.u (FK.u FK.rf (by decide)) (by decide)) (by decide))
            · exact absurd c105 (by decide)
