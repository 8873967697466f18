set_option maxHeartbeats 2000000 in
theorem sp_X12_doAll_s {m : Nat} (ihA : AllS m) {d : Nat} {Q : Qt} {v1 : Int32} {v2 : Int32} {I : Im} {J : Jm} {R : Rm} (hB0 : Bd I) (hR0 : RI R) (hv1 : 0 ≤ v1.toInt) (hv2 : v2.toInt ≤ (I 102 53).toInt) (h52 : ¬ (I 102 52).toInt = 0) (hm0 : 301 - (I 97 43).toInt ≤ (m : Int) + 1) (hQ : ∀ (x : Int32) (y : Int64) (I2 : Im) (J2 : Jm), Bd I2 → (Fr pD I I2 ∧ ((I 97 43).toInt ≤ (I2 97 43).toInt)) → Q x y I2 J2 R) : AM (d + 2 * m + 9) 311 112 [.ref 97, .int v1, .int v2] I J R Q := by
  have i_v1 := i32 v1
  have i_v2 := i32 v2
  refine am_X12_doAll (fun P hc => ?_)
  have L : ∀ n : Nat, (∀ (v3 : Int32) (M : Im) (JM : Jm), Bd M → Fr pD I M → (0 ≤ v3.toInt ∧ v2.toInt ≤ (M 102 53).toInt ∧ ¬ (M 102 52).toInt = 0 ∧ (I 97 43).toInt ≤ (M 97 43).toInt) → max 0 (v2.toInt - v3.toInt) < (n : Int) → P 2 112 [(0, .ref 97), (2, .int v2), (3, .int v3)] [] M JM R) := by
    intro n
    induction n with
    | zero =>
      exact fun v3 M J _ _ hi hm => absurd hm (by omega)
    | succ n ih =>
      intro v3 M JM hB hf hi hm
      have i_v2 := i32 v2
      have i_v3 := i32 v3
      refine sg_X12_doAll_2 hc _ _ _ _ _ ?_
      have e1 : ((M 102 52) : Int32).toInt = (I 102 52).toInt := Eq.trans (congrArg Int32.toInt (hf.1 52 (by unfold pD; omega))) rfl
      have b2 := (Bd.c hB0 (j := 53) (z := 53) rfl).2.2.1 (by decide)
      have e3 : ((M 102 53) : Int32).toInt = (I 102 53).toInt := Eq.trans (congrArg Int32.toInt (hf.1 53 (by unfold pD; omega))) rfl
      have b4 := Bd.o hB (show isO 112 97 12 = true from rfl) (show bnd 12 43 = some _ from rfl)
      refine ⟨fun c5 => ?_, fun c5 => ?_⟩
      · skip
        have d6 : ((v2.toInt) : Int) ≤ (v3.toInt) := ci_le rfl rfl c5
        have b7 := Bd.o hB0 (show isO 112 97 12 = true from rfl) (show bnd 12 43 = some _ from rfl)
        exact hQ _ _ _ _ hB ⟨hf, (by have q2 : ((M 97 43) : Int32).toInt = (M 97 43).toInt := rfl; omega)⟩
      · skip
        have d8 : ((v3.toInt) : Int) < (v2.toInt) := ci_nle rfl rfl c5
        refine ⟨fun c9 => ?_, fun c9 => ?_⟩
        · skip
          have b10 := Bd.o hB (show isO 112 97 12 = true from rfl) (show bnd 12 41 = some _ from rfl)
          have d11 : ¬ (((M 97 41).toInt) : Int) = (0) := ci_ne rfl rfl c9
          have b12 := Bd.o hB0 (show isO 112 97 12 = true from rfl) (show bnd 12 43 = some _ from rfl)
          exact hQ _ _ _ _ hB ⟨hf, (by have q2 : ((M 97 43) : Int32).toInt = (M 97 43).toInt := rfl; omega)⟩
        · skip
          have b13 := Bd.o hB (show isO 112 97 12 = true from rfl) (show bnd 12 41 = some _ from rfl)
          have d14 : (((M 97 41).toInt) : Int) = (0) := ci_eq rfl rfl c9
          refine sp_X12_doOne_s ihA hB hR0 (by have z1 : (v3 : Int32).toInt = v3.toInt := rfl; have y52 : ((M 102 52)).toInt = (I 102 52).toInt := e1; have y53 : ((M 102 53)).toInt = (I 102 53).toInt := e3; omega) (by have y52 : ((M 102 52)).toInt = (I 102 52).toInt := e1; have y53 : ((M 102 53)).toInt = (I 102 53).toInt := e3; omega) (by have z : ((M 97 43)).toInt = (M 97 43).toInt := rfl; omega) (fun x15 y20 I16 J17 hB18 p19 => ?_)
          have f21 : Fr pD M I16 := p19.1
          have f22 : Fr pD I I16 := Fr.tr hf f21 (fun _ z => z)
          have b23 := Bd.o hB18 (show isO 112 97 12 = true from rfl) (show bnd 12 43 = some _ from rfl)
          have e24 : ((I16 102 52) : Int32).toInt = (I 102 52).toInt := Eq.trans (congrArg Int32.toInt (Eq.trans (f21.1 52 (by unfold pD; omega)) (hf.1 52 (by unfold pD; omega)))) rfl
          have w25 : ((I16 102 52) : Int32).toInt = (I 102 52).toInt := e24
          have e26 : ((I16 102 53) : Int32).toInt = (I 102 53).toInt := Eq.trans (congrArg Int32.toInt (Eq.trans (f21.1 53 (by unfold pD; omega)) (hf.1 53 (by unfold pD; omega)))) rfl
          have w27 : ((I16 102 53) : Int32).toInt = (I 102 53).toInt := e26
          have e28 : ((9 * v3) : Int32).toInt = (9) * (v3.toInt) := ti_mul rfl rfl (by omega)
          have e29 : ((54 + (9 * v3)) : Int32).toInt = (54) + ((9 * v3.toInt)) := ti_add rfl e28 (by omega)
          have hr := Bd.rec hB18 (s := v3) (w := (54 + (9 * v3))) (by omega) (by omega) (show ((54 + (9 * v3)) : Int32).toInt = 54 + 9 * v3.toInt by have z : ((54 + (9 * v3)) : Int32).toInt = (54 + (9 * v3.toInt)) := e29; omega)
          have e30 : (((54 + (9 * v3)) + 8) : Int32).toInt = ((54 + (9 * v3.toInt))) + (8) := ti_add e29 rfl (by omega)
          refine ⟨vp_of (a := ((54 + (9 * v3.toInt)) + 8)) e30 (by omega) (by omega), ?_⟩
          exact ih _ _ _ hB18 f22 (by have q0 : ((I16 102 (Int32.toNatClampNeg ((54 + (9 * v3)) + 8))) : Int32).toInt = (I16 102 (Int32.toNatClampNeg ((54 + (9 * v3)) + 8))).toInt := rfl; have q1 : ((I16 102 53) : Int32).toInt = (I 102 53).toInt := e26; have q2 : ((I16 102 52) : Int32).toInt = (I 102 52).toInt := e24; have q3 : ((I16 97 43) : Int32).toInt = (I16 97 43).toInt := rfl; omega) (by have q0 : ((I16 102 (Int32.toNatClampNeg ((54 + (9 * v3)) + 8))) : Int32).toInt = (I16 102 (Int32.toNatClampNeg ((54 + (9 * v3)) + 8))).toInt := rfl; omega)
  refine sg_X12_doAll_0 hc _ _ _ _ _ ?_
  have b31 := (Bd.c hB0 (j := 53) (z := 53) rfl).2.2.1 (by decide)
  have b32 := Bd.o hB0 (show isO 112 97 12 = true from rfl) (show bnd 12 43 = some _ from rfl)
  exact (L 1000000) _ _ _ hB0 (Fr.refl _ _) (by have q0 : (v1 : Int32).toInt = v1.toInt := rfl; have q1 : ((I 102 53) : Int32).toInt = (I 102 53).toInt := rfl; have q2 : ((I 102 52) : Int32).toInt = (I 102 52).toInt := rfl; have q3 : ((I 97 43) : Int32).toInt = (I 97 43).toInt := rfl; omega) (by have q0 : (v1 : Int32).toInt = v1.toInt := rfl; omega)
theorem allS : ∀ m : Nat, AllS m := fun m => by
  induction m with
  | zero =>
    intro d Q v1 v2 I J R hB0 hR0 hv1 hv2 h52 hm0 hQ
    have := hB0.o (show isO 112 97 12 = true from rfl) (show bnd 12 43 = some _ from rfl)
    exact absurd hm0 (by omega)
  | succ m ih =>
    intro d Q v1 v2 I J R hB0 hR0 hv1 hv2 h52 hm0 hQ
    exact sp_X12_doAll_s ih hB0 hR0 hv1 hv2 h52 (by omega) hQ
theorem sp_X12_doAll {d : Nat} {Q : Qt} {v1 v2 : Int32} {I : Im} {J : Jm} {R : Rm} (hB0 : Bd I) (hR0 : RI R) (hv1 : 0 ≤ v1.toInt) (hv2 : v2.toInt ≤ (I 102 53).toInt) (h52 : ¬ (I 102 52).toInt = 0) (hQ : ∀ (x : Int32) (y : Int64) (I2 : Im) (J2 : Jm), Bd I2 → (Fr pD I I2 ∧ ((I 97 43).toInt ≤ (I2 97 43).toInt)) → Q x y I2 J2 R) : AM (d + 609) 311 112 [.ref 97, .int v1, .int v2] I J R Q := by
  have h43 := hB0.o (show isO 112 97 12 = true from rfl) (show bnd 12 43 = some _ from rfl)
  exact allS 301 hB0 hR0 hv1 hv2 h52 (by omega) hQ
set_option maxHeartbeats 2000000 in
theorem sp_X12_runsDays {d : Nat} {Q : Qt} {v1 : Int32} {I : Im} {J : Jm} {R : Rm} (hB0 : Bd I) (hR0 : RI R) (h52 : ¬ (I 102 52).toInt = 0) (hv1 : 0 ≤ v1.toInt ∧ v1.toInt ≤ 65535) (hQ : ∀ (x : Int32) (y : Int64) (I2 : Im) (J2 : Jm), Bd I2 → (Fr pD I I2) → Q x y I2 J2 R) : AM (d + 610) 312 112 [.ref 97, .int v1] I J R Q := by
  have i_v1 := i32 v1
  refine am_X12_runsDays (fun P hc => ?_)
  refine sg_X12_runsDays_0 hc _ _ _ _ ?_
  have hB1 : Bd (uI I 97 42 v1) := Bd.o1 hB0 (show isO 112 97 12 = true from rfl) (by omega) (show bnd 12 42 = some _ from rfl) (show (v1 : Int32).toInt = v1.toInt from rfl) (by omega)
  have f2 : Fr pD I (uI I 97 42 v1) := Fr.o (Fr.refl _ _) (by decide) (by decide)
  have hB3 : Bd (uI (uI I 97 42 v1) 97 43 0) := Bd.o1 hB1 (show isO 112 97 12 = true from rfl) (by omega) (show bnd 12 43 = some _ from rfl) (show (0 : Int32).toInt = 0 from rfl) (by omega)
  have f4 : Fr pD I (uI (uI I 97 42 v1) 97 43 0) := Fr.o f2 (by decide) (by decide)
  have hB5 : Bd (uI (uI (uI I 97 42 v1) 97 43 0) 97 44 0) := Bd.o0 hB3 (show isO 112 97 12 = true from rfl) (by omega) (show bnd 12 44 = none from rfl)
  have f6 : Fr pD I (uI (uI (uI I 97 42 v1) 97 43 0) 97 44 0) := Fr.o f4 (by decide) (by decide)
  refine ⟨vp_of (a := 2) rfl (by omega) (by omega), ?_⟩
  have hB7 : Bd (uI (uI (uI (uI I 97 42 v1) 97 43 0) 97 44 0) 97 45 ((uI (uI (uI I 97 42 v1) 97 43 0) 97 44 0) 102 (Int32.toNatClampNeg 2))) := Bd.o0 hB5 (show isO 112 97 12 = true from rfl) (by omega) (show bnd 12 45 = none from rfl)
  have f8 : Fr pD I (uI (uI (uI (uI I 97 42 v1) 97 43 0) 97 44 0) 97 45 ((uI (uI (uI I 97 42 v1) 97 43 0) 97 44 0) 102 (Int32.toNatClampNeg 2))) := Fr.o f6 (by decide) (by decide)
  have hB9 : Bd (uI (uI (uI (uI (uI I 97 42 v1) 97 43 0) 97 44 0) 97 45 ((uI (uI (uI I 97 42 v1) 97 43 0) 97 44 0) 102 (Int32.toNatClampNeg 2))) 97 46 0) := Bd.o0 hB7 (show isO 112 97 12 = true from rfl) (by omega) (show bnd 12 46 = none from rfl)
  have f10 : Fr pD I (uI (uI (uI (uI (uI I 97 42 v1) 97 43 0) 97 44 0) 97 45 ((uI (uI (uI I 97 42 v1) 97 43 0) 97 44 0) 102 (Int32.toNatClampNeg 2))) 97 46 0) := Fr.o f8 (by decide) (by decide)
  have hB11 : Bd (uI (uI (uI (uI (uI (uI I 97 42 v1) 97 43 0) 97 44 0) 97 45 ((uI (uI (uI I 97 42 v1) 97 43 0) 97 44 0) 102 (Int32.toNatClampNeg 2))) 97 46 0) 97 47 0) := Bd.o0 hB9 (show isO 112 97 12 = true from rfl) (by omega) (show bnd 12 47 = none from rfl)
  have f12 : Fr pD I (uI (uI (uI (uI (uI (uI I 97 42 v1) 97 43 0) 97 44 0) 97 45 ((uI (uI (uI I 97 42 v1) 97 43 0) 97 44 0) 102 (Int32.toNatClampNeg 2))) 97 46 0) 97 47 0) := Fr.o f10 (by decide) (by decide)
  have hB13 : Bd (uI (uI (uI (uI (uI (uI (uI I 97 42 v1) 97 43 0) 97 44 0) 97 45 ((uI (uI (uI I 97 42 v1) 97 43 0) 97 44 0) 102 (Int32.toNatClampNeg 2))) 97 46 0) 97 47 0) 97 48 0) := Bd.o0 hB11 (show isO 112 97 12 = true from rfl) (by omega) (show bnd 12 48 = none from rfl)
  have f14 : Fr pD I (uI (uI (uI (uI (uI (uI (uI I 97 42 v1) 97 43 0) 97 44 0) 97 45 ((uI (uI (uI I 97 42 v1) 97 43 0) 97 44 0) 102 (Int32.toNatClampNeg 2))) 97 46 0) 97 47 0) 97 48 0) := Fr.o f12 (by decide) (by decide)
  refine ⟨Or.inl rfl, ?_⟩
  have hB15 : Bd (uI (uI (uI (uI (uI (uI (uI (uI I 97 42 v1) 97 43 0) 97 44 0) 97 45 ((uI (uI (uI I 97 42 v1) 97 43 0) 97 44 0) 102 (Int32.toNatClampNeg 2))) 97 46 0) 97 47 0) 97 48 0) 97 41 0) := Bd.o1 hB13 (show isO 112 97 12 = true from rfl) (by omega) (show bnd 12 41 = some _ from rfl) rfl (bl_ti (Or.inl rfl))
  have f16 : Fr pD I (uI (uI (uI (uI (uI (uI (uI (uI I 97 42 v1) 97 43 0) 97 44 0) 97 45 ((uI (uI (uI I 97 42 v1) 97 43 0) 97 44 0) 102 (Int32.toNatClampNeg 2))) 97 46 0) 97 47 0) 97 48 0) 97 41 0) := Fr.o f14 (by decide) (by decide)
  refine ⟨vp_of (a := 53) rfl (by omega) (by omega), ?_⟩
  have e17 : (((uI (uI (uI (uI (uI (uI (uI (uI I 97 42 v1) 97 43 0) 97 44 0) 97 45 ((uI (uI (uI I 97 42 v1) 97 43 0) 97 44 0) 102 (Int32.toNatClampNeg 2))) 97 46 0) 97 47 0) 97 48 0) 97 41 0) 102 52) : Int32).toInt = (I 102 52).toInt := Eq.trans (congrArg Int32.toInt (Eq.trans (Eq.trans (Eq.trans (Eq.trans (Eq.trans (Eq.trans (Eq.trans (rd_ne (by omega)) (rd_ne (by omega))) (rd_ne (by omega))) (rd_ne (by omega))) (rd_ne (by omega))) (rd_ne (by omega))) (rd_ne (by omega))) (rd_ne (by omega)))) rfl
  have b18 := (Bd.c hB0 (j := 53) (z := 53) rfl).2.2.1 (by decide)
  have e19 : (((uI (uI (uI (uI (uI (uI (uI (uI I 97 42 v1) 97 43 0) 97 44 0) 97 45 ((uI (uI (uI I 97 42 v1) 97 43 0) 97 44 0) 102 (Int32.toNatClampNeg 2))) 97 46 0) 97 47 0) 97 48 0) 97 41 0) 102 53) : Int32).toInt = (I 102 53).toInt := Eq.trans (congrArg Int32.toInt (Eq.trans (Eq.trans (Eq.trans (Eq.trans (Eq.trans (Eq.trans (Eq.trans (rd_ne (by omega)) (rd_ne (by omega))) (rd_ne (by omega))) (rd_ne (by omega))) (rd_ne (by omega))) (rd_ne (by omega))) (rd_ne (by omega))) (rd_ne (by omega)))) rfl
  have e20 : (((uI (uI (uI (uI (uI (uI (uI (uI I 97 42 v1) 97 43 0) 97 44 0) 97 45 ((uI (uI (uI I 97 42 v1) 97 43 0) 97 44 0) 102 (Int32.toNatClampNeg 2))) 97 46 0) 97 47 0) 97 48 0) 97 41 0) 102 (Int32.toNatClampNeg 53)) : Int32).toInt = (I 102 53).toInt := Eq.trans (congrArg Int32.toInt (Eq.trans (Eq.trans (Eq.trans (Eq.trans (Eq.trans (Eq.trans (Eq.trans (Eq.trans (rd_ne (by omega)) (rd_ne (by omega))) (rd_ne (by omega))) (rd_ne (by omega))) (rd_ne (by omega))) (rd_ne (by omega))) (rd_ne (by omega))) (rd_ne (by omega))) rfl)) rfl
  refine sp_X12_doAll hB15 hR0 (by have z1 : (0 : Int32).toInt = 0 := rfl; have y52 : (((uI (uI (uI (uI (uI (uI (uI (uI I 97 42 v1) 97 43 0) 97 44 0) 97 45 ((uI (uI (uI I 97 42 v1) 97 43 0) 97 44 0) 102 (Int32.toNatClampNeg 2))) 97 46 0) 97 47 0) 97 48 0) 97 41 0) 102 52)).toInt = (I 102 52).toInt := e17; have y53 : (((uI (uI (uI (uI (uI (uI (uI (uI I 97 42 v1) 97 43 0) 97 44 0) 97 45 ((uI (uI (uI I 97 42 v1) 97 43 0) 97 44 0) 102 (Int32.toNatClampNeg 2))) 97 46 0) 97 47 0) 97 48 0) 97 41 0) 102 53)).toInt = (I 102 53).toInt := e19; omega) (by have z2 : (((uI (uI (uI (uI (uI (uI (uI (uI I 97 42 v1) 97 43 0) 97 44 0) 97 45 ((uI (uI (uI I 97 42 v1) 97 43 0) 97 44 0) 102 (Int32.toNatClampNeg 2))) 97 46 0) 97 47 0) 97 48 0) 97 41 0) 102 (Int32.toNatClampNeg 53)) : Int32).toInt = (I 102 53).toInt := e20; have y52 : (((uI (uI (uI (uI (uI (uI (uI (uI I 97 42 v1) 97 43 0) 97 44 0) 97 45 ((uI (uI (uI I 97 42 v1) 97 43 0) 97 44 0) 102 (Int32.toNatClampNeg 2))) 97 46 0) 97 47 0) 97 48 0) 97 41 0) 102 52)).toInt = (I 102 52).toInt := e17; have y53 : (((uI (uI (uI (uI (uI (uI (uI (uI I 97 42 v1) 97 43 0) 97 44 0) 97 45 ((uI (uI (uI I 97 42 v1) 97 43 0) 97 44 0) 102 (Int32.toNatClampNeg 2))) 97 46 0) 97 47 0) 97 48 0) 97 41 0) 102 53)).toInt = (I 102 53).toInt := e19; omega) (by have y52 : (((uI (uI (uI (uI (uI (uI (uI (uI I 97 42 v1) 97 43 0) 97 44 0) 97 45 ((uI (uI (uI I 97 42 v1) 97 43 0) 97 44 0) 102 (Int32.toNatClampNeg 2))) 97 46 0) 97 47 0) 97 48 0) 97 41 0) 102 52)).toInt = (I 102 52).toInt := e17; have y53 : (((uI (uI (uI (uI (uI (uI (uI (uI I 97 42 v1) 97 43 0) 97 44 0) 97 45 ((uI (uI (uI I 97 42 v1) 97 43 0) 97 44 0) 102 (Int32.toNatClampNeg 2))) 97 46 0) 97 47 0) 97 48 0) 97 41 0) 102 53)).toInt = (I 102 53).toInt := e19; omega) (fun x21 y26 I22 J23 hB24 p25 => ?_)
  have f27 : Fr pD (uI (uI (uI (uI (uI (uI (uI (uI I 97 42 v1) 97 43 0) 97 44 0) 97 45 ((uI (uI (uI I 97 42 v1) 97 43 0) 97 44 0) 102 (Int32.toNatClampNeg 2))) 97 46 0) 97 47 0) 97 48 0) 97 41 0) I22 := p25.1
  have f28 : Fr pD I I22 := Fr.tr f16 f27 (fun _ z => z)
  have q29 : (0 : Int32).toInt = 0 := rfl
  have q30 : (((uI (uI (uI (uI (uI (uI (uI (uI I 97 42 v1) 97 43 0) 97 44 0) 97 45 ((uI (uI (uI I 97 42 v1) 97 43 0) 97 44 0) 102 (Int32.toNatClampNeg 2))) 97 46 0) 97 47 0) 97 48 0) 97 41 0) 102 (Int32.toNatClampNeg 53)) : Int32).toInt = (I 102 53).toInt := e20
  have e31 : (((uI (uI (uI (uI (uI (uI (uI (uI I 97 42 v1) 97 43 0) 97 44 0) 97 45 ((uI (uI (uI I 97 42 v1) 97 43 0) 97 44 0) 102 (Int32.toNatClampNeg 2))) 97 46 0) 97 47 0) 97 48 0) 97 41 0) 97 43) : Int32).toInt = 0 := Eq.trans (congrArg Int32.toInt (Eq.trans (Eq.trans (Eq.trans (Eq.trans (Eq.trans (Eq.trans (rd_k (by decide)) (rd_k (by decide))) (rd_k (by decide))) (rd_k (by decide))) (rd_k (by decide))) (rd_k (by decide))) rd_eq)) rfl
  have b32 := Bd.o hB24 (show isO 112 97 12 = true from rfl) (show bnd 12 43 = some _ from rfl)
  exact hQ _ _ _ _ hB24 f28
set_option maxHeartbeats 2000000 in
theorem sp_X12_live {d : Nat} {Q : Qt} {v1 : Int32} {I : Im} {J : Jm} {R : Rm} (hB0 : Bd I) (hR0 : RI R) (hQ : ∀ (x : Int32) (y : Int64) (I2 : Im) (J2 : Jm), Bd I2 → (True) → Q x y I2 J2 R) : AM (d + 611) 313 112 [.ref 97, .int v1] I J R Q := by
  have i_v1 := i32 v1
  refine am_X12_live (fun P hc => ?_)
  refine sg_X12_live_0 hc _ _ _ _ ?_
  have hB1 : Bd (uI I 97 1 0) := Bd.o0 hB0 (show isO 112 97 12 = true from rfl) (by omega) (show bnd 12 1 = none from rfl)
  have hB2 : Bd (uI (uI I 97 1 0) 97 0 0) := Bd.o0 hB1 (show isO 112 97 12 = true from rfl) (by omega) (show bnd 12 0 = none from rfl)
  refine w_X12_isIn ?_
  refine ⟨fun c3 => ?_, fun c3 => ?_⟩
  · skip
    rw [lg_cmp_lt] at c3
    have d4 : ((v1.toInt) : Int) < (0) := cl_lt (tl_i2l rfl) rfl c3
    refine ⟨Or.inl rfl, ?_⟩
    intro o5
    refine ⟨fun c6 => ?_, fun c6 => ?_⟩
    · exact absurd c6 (by decide)
    · skip
      refine w_X12_refuse ?_
      have hB7 : Bd (uI (uI (uI I 97 1 0) 97 0 0) 97 0 5) := Bd.o0 hB2 (show isO 112 97 12 = true from rfl) (by omega) (show bnd 12 0 = none from rfl)
      exact hQ _ _ _ _ hB7 trivial
  · skip
    rw [lg_cmp_lt] at c3
    have d8 : ((0) : Int) ≤ (v1.toInt) := cl_nlt (tl_i2l rfl) rfl c3
    refine ⟨fun c9 => ?_, fun c9 => ?_⟩
    · skip
      rw [lg_cmp_gt] at c9
      have d10 : ((9999) : Int) < (v1.toInt) := cl_lt rfl (tl_i2l rfl) c9
      refine ⟨Or.inl rfl, ?_⟩
      intro o11
      refine ⟨fun c12 => ?_, fun c12 => ?_⟩
      · exact absurd c12 (by decide)
      · skip
        refine w_X12_refuse ?_
        have hB13 : Bd (uI (uI (uI I 97 1 0) 97 0 0) 97 0 5) := Bd.o0 hB2 (show isO 112 97 12 = true from rfl) (by omega) (show bnd 12 0 = none from rfl)
        exact hQ _ _ _ _ hB13 trivial
    · skip
      rw [lg_cmp_gt] at c9
      have d14 : ((v1.toInt) : Int) ≤ (9999) := cl_nlt rfl (tl_i2l rfl) c9
      refine ⟨Or.inr rfl, ?_⟩
      intro o15
      refine ⟨fun c16 => ?_, fun c16 => ?_⟩
      · skip
        refine ⟨vp_of (a := 52) rfl (by omega) (by omega), ?_⟩
        refine ⟨fun c17 => ?_, fun c17 => ?_⟩
        · skip
          have e18 : (((uI (uI I 97 1 0) 97 0 0) 102 (Int32.toNatClampNeg 52)) : Int32).toInt = (I 102 52).toInt := Eq.trans (congrArg Int32.toInt (Eq.trans (Eq.trans (rd_ne (by omega)) (rd_ne (by omega))) rfl)) rfl
          have d19 : ¬ (((I 102 52).toInt) : Int) = (0) := ci_ne e18 rfl c17
          have e20 : (((uI (uI I 97 1 0) 97 0 0) 102 52) : Int32).toInt = (I 102 52).toInt := Eq.trans (congrArg Int32.toInt (Eq.trans (rd_ne (by omega)) (rd_ne (by omega)))) rfl
          have b21 := (Bd.c hB0 (j := 53) (z := 53) rfl).2.2.1 (by decide)
          have e22 : (((uI (uI I 97 1 0) 97 0 0) 102 53) : Int32).toInt = (I 102 53).toInt := Eq.trans (congrArg Int32.toInt (Eq.trans (rd_ne (by omega)) (rd_ne (by omega)))) rfl
          refine sp_X12_runsDays hB2 hR0 (by have y52 : (((uI (uI I 97 1 0) 97 0 0) 102 52)).toInt = (I 102 52).toInt := e20; have y53 : (((uI (uI I 97 1 0) 97 0 0) 102 53)).toInt = (I 102 53).toInt := e22; omega) (by have z1 : (v1 : Int32).toInt = v1.toInt := rfl; omega) (fun x23 y28 I24 J25 hB26 p27 => ?_)
          have f29 : Fr pD (uI (uI I 97 1 0) 97 0 0) I24 := p27
          refine ⟨vp_of (a := 0) rfl (by omega) (by omega), ?_⟩
          have hB30 : Bd (uI I24 112 (Int32.toNatClampNeg 0) (I24 97 44)) := Bd.a0 hB26 (show isA 112 112 0 = true from rfl) (show bna 112 = none from rfl)
          refine ⟨vp_of (a := 2) rfl (by omega) (by omega), ?_⟩
          refine ⟨vp_of (a := 1) rfl (by omega) (by omega), ?_⟩
          have hB31 : Bd (uI (uI I24 112 (Int32.toNatClampNeg 0) (I24 97 44)) 112 (Int32.toNatClampNeg 1) (((uI I24 112 (Int32.toNatClampNeg 0) (I24 97 44)) 102 (Int32.toNatClampNeg 2)) - ((uI I24 112 (Int32.toNatClampNeg 0) (I24 97 44)) 97 45))) := Bd.a0 hB30 (show isA 112 112 0 = true from rfl) (show bna 112 = none from rfl)
          refine ⟨vp_of (a := 2) rfl (by omega) (by omega), ?_⟩
          have hB32 : Bd (uI (uI (uI I24 112 (Int32.toNatClampNeg 0) (I24 97 44)) 112 (Int32.toNatClampNeg 1) (((uI I24 112 (Int32.toNatClampNeg 0) (I24 97 44)) 102 (Int32.toNatClampNeg 2)) - ((uI I24 112 (Int32.toNatClampNeg 0) (I24 97 44)) 97 45))) 112 (Int32.toNatClampNeg 2) ((uI (uI I24 112 (Int32.toNatClampNeg 0) (I24 97 44)) 112 (Int32.toNatClampNeg 1) (((uI I24 112 (Int32.toNatClampNeg 0) (I24 97 44)) 102 (Int32.toNatClampNeg 2)) - ((uI I24 112 (Int32.toNatClampNeg 0) (I24 97 44)) 97 45))) 97 46)) := Bd.a0 hB31 (show isA 112 112 0 = true from rfl) (show bna 112 = none from rfl)
          refine ⟨vp_of (a := 3) rfl (by omega) (by omega), ?_⟩
          have hB33 : Bd (uI (uI (uI (uI I24 112 (Int32.toNatClampNeg 0) (I24 97 44)) 112 (Int32.toNatClampNeg 1) (((uI I24 112 (Int32.toNatClampNeg 0) (I24 97 44)) 102 (Int32.toNatClampNeg 2)) - ((uI I24 112 (Int32.toNatClampNeg 0) (I24 97 44)) 97 45))) 112 (Int32.toNatClampNeg 2) ((uI (uI I24 112 (Int32.toNatClampNeg 0) (I24 97 44)) 112 (Int32.toNatClampNeg 1) (((uI I24 112 (Int32.toNatClampNeg 0) (I24 97 44)) 102 (Int32.toNatClampNeg 2)) - ((uI I24 112 (Int32.toNatClampNeg 0) (I24 97 44)) 97 45))) 97 46)) 112 (Int32.toNatClampNeg 3) ((uI (uI (uI I24 112 (Int32.toNatClampNeg 0) (I24 97 44)) 112 (Int32.toNatClampNeg 1) (((uI I24 112 (Int32.toNatClampNeg 0) (I24 97 44)) 102 (Int32.toNatClampNeg 2)) - ((uI I24 112 (Int32.toNatClampNeg 0) (I24 97 44)) 97 45))) 112 (Int32.toNatClampNeg 2) ((uI (uI I24 112 (Int32.toNatClampNeg 0) (I24 97 44)) 112 (Int32.toNatClampNeg 1) (((uI I24 112 (Int32.toNatClampNeg 0) (I24 97 44)) 102 (Int32.toNatClampNeg 2)) - ((uI I24 112 (Int32.toNatClampNeg 0) (I24 97 44)) 97 45))) 97 46)) 97 47)) := Bd.a0 hB32 (show isA 112 112 0 = true from rfl) (show bna 112 = none from rfl)
          refine ⟨vp_of (a := 4) rfl (by omega) (by omega), ?_⟩
          have hB34 : Bd (uI (uI (uI (uI (uI I24 112 (Int32.toNatClampNeg 0) (I24 97 44)) 112 (Int32.toNatClampNeg 1) (((uI I24 112 (Int32.toNatClampNeg 0) (I24 97 44)) 102 (Int32.toNatClampNeg 2)) - ((uI I24 112 (Int32.toNatClampNeg 0) (I24 97 44)) 97 45))) 112 (Int32.toNatClampNeg 2) ((uI (uI I24 112 (Int32.toNatClampNeg 0) (I24 97 44)) 112 (Int32.toNatClampNeg 1) (((uI I24 112 (Int32.toNatClampNeg 0) (I24 97 44)) 102 (Int32.toNatClampNeg 2)) - ((uI I24 112 (Int32.toNatClampNeg 0) (I24 97 44)) 97 45))) 97 46)) 112 (Int32.toNatClampNeg 3) ((uI (uI (uI I24 112 (Int32.toNatClampNeg 0) (I24 97 44)) 112 (Int32.toNatClampNeg 1) (((uI I24 112 (Int32.toNatClampNeg 0) (I24 97 44)) 102 (Int32.toNatClampNeg 2)) - ((uI I24 112 (Int32.toNatClampNeg 0) (I24 97 44)) 97 45))) 112 (Int32.toNatClampNeg 2) ((uI (uI I24 112 (Int32.toNatClampNeg 0) (I24 97 44)) 112 (Int32.toNatClampNeg 1) (((uI I24 112 (Int32.toNatClampNeg 0) (I24 97 44)) 102 (Int32.toNatClampNeg 2)) - ((uI I24 112 (Int32.toNatClampNeg 0) (I24 97 44)) 97 45))) 97 46)) 97 47)) 112 (Int32.toNatClampNeg 4) ((uI (uI (uI (uI I24 112 (Int32.toNatClampNeg 0) (I24 97 44)) 112 (Int32.toNatClampNeg 1) (((uI I24 112 (Int32.toNatClampNeg 0) (I24 97 44)) 102 (Int32.toNatClampNeg 2)) - ((uI I24 112 (Int32.toNatClampNeg 0) (I24 97 44)) 97 45))) 112 (Int32.toNatClampNeg 2) ((uI (uI I24 112 (Int32.toNatClampNeg 0) (I24 97 44)) 112 (Int32.toNatClampNeg 1) (((uI I24 112 (Int32.toNatClampNeg 0) (I24 97 44)) 102 (Int32.toNatClampNeg 2)) - ((uI I24 112 (Int32.toNatClampNeg 0) (I24 97 44)) 97 45))) 97 46)) 112 (Int32.toNatClampNeg 3) ((uI (uI (uI I24 112 (Int32.toNatClampNeg 0) (I24 97 44)) 112 (Int32.toNatClampNeg 1) (((uI I24 112 (Int32.toNatClampNeg 0) (I24 97 44)) 102 (Int32.toNatClampNeg 2)) - ((uI I24 112 (Int32.toNatClampNeg 0) (I24 97 44)) 97 45))) 112 (Int32.toNatClampNeg 2) ((uI (uI I24 112 (Int32.toNatClampNeg 0) (I24 97 44)) 112 (Int32.toNatClampNeg 1) (((uI I24 112 (Int32.toNatClampNeg 0) (I24 97 44)) 102 (Int32.toNatClampNeg 2)) - ((uI I24 112 (Int32.toNatClampNeg 0) (I24 97 44)) 97 45))) 97 46)) 97 47)) 97 48)) := Bd.a0 hB33 (show isA 112 112 0 = true from rfl) (show bna 112 = none from rfl)
          refine ⟨Or.inr rfl, ?_⟩
          have hB35 : Bd (uI (uI (uI (uI (uI (uI I24 112 (Int32.toNatClampNeg 0) (I24 97 44)) 112 (Int32.toNatClampNeg 1) (((uI I24 112 (Int32.toNatClampNeg 0) (I24 97 44)) 102 (Int32.toNatClampNeg 2)) - ((uI I24 112 (Int32.toNatClampNeg 0) (I24 97 44)) 97 45))) 112 (Int32.toNatClampNeg 2) ((uI (uI I24 112 (Int32.toNatClampNeg 0) (I24 97 44)) 112 (Int32.toNatClampNeg 1) (((uI I24 112 (Int32.toNatClampNeg 0) (I24 97 44)) 102 (Int32.toNatClampNeg 2)) - ((uI I24 112 (Int32.toNatClampNeg 0) (I24 97 44)) 97 45))) 97 46)) 112 (Int32.toNatClampNeg 3) ((uI (uI (uI I24 112 (Int32.toNatClampNeg 0) (I24 97 44)) 112 (Int32.toNatClampNeg 1) (((uI I24 112 (Int32.toNatClampNeg 0) (I24 97 44)) 102 (Int32.toNatClampNeg 2)) - ((uI I24 112 (Int32.toNatClampNeg 0) (I24 97 44)) 97 45))) 112 (Int32.toNatClampNeg 2) ((uI (uI I24 112 (Int32.toNatClampNeg 0) (I24 97 44)) 112 (Int32.toNatClampNeg 1) (((uI I24 112 (Int32.toNatClampNeg 0) (I24 97 44)) 102 (Int32.toNatClampNeg 2)) - ((uI I24 112 (Int32.toNatClampNeg 0) (I24 97 44)) 97 45))) 97 46)) 97 47)) 112 (Int32.toNatClampNeg 4) ((uI (uI (uI (uI I24 112 (Int32.toNatClampNeg 0) (I24 97 44)) 112 (Int32.toNatClampNeg 1) (((uI I24 112 (Int32.toNatClampNeg 0) (I24 97 44)) 102 (Int32.toNatClampNeg 2)) - ((uI I24 112 (Int32.toNatClampNeg 0) (I24 97 44)) 97 45))) 112 (Int32.toNatClampNeg 2) ((uI (uI I24 112 (Int32.toNatClampNeg 0) (I24 97 44)) 112 (Int32.toNatClampNeg 1) (((uI I24 112 (Int32.toNatClampNeg 0) (I24 97 44)) 102 (Int32.toNatClampNeg 2)) - ((uI I24 112 (Int32.toNatClampNeg 0) (I24 97 44)) 97 45))) 97 46)) 112 (Int32.toNatClampNeg 3) ((uI (uI (uI I24 112 (Int32.toNatClampNeg 0) (I24 97 44)) 112 (Int32.toNatClampNeg 1) (((uI I24 112 (Int32.toNatClampNeg 0) (I24 97 44)) 102 (Int32.toNatClampNeg 2)) - ((uI I24 112 (Int32.toNatClampNeg 0) (I24 97 44)) 97 45))) 112 (Int32.toNatClampNeg 2) ((uI (uI I24 112 (Int32.toNatClampNeg 0) (I24 97 44)) 112 (Int32.toNatClampNeg 1) (((uI I24 112 (Int32.toNatClampNeg 0) (I24 97 44)) 102 (Int32.toNatClampNeg 2)) - ((uI I24 112 (Int32.toNatClampNeg 0) (I24 97 44)) 97 45))) 97 46)) 97 47)) 97 48)) 97 40 1) := Bd.o1 hB34 (show isO 112 97 12 = true from rfl) (by omega) (show bnd 12 40 = some _ from rfl) rfl (bl_ti (Or.inr rfl))
          exact hQ _ _ _ _ hB35 trivial
        · skip
          have e36 : (((uI (uI I 97 1 0) 97 0 0) 102 (Int32.toNatClampNeg 52)) : Int32).toInt = (I 102 52).toInt := Eq.trans (congrArg Int32.toInt (Eq.trans (Eq.trans (rd_ne (by omega)) (rd_ne (by omega))) rfl)) rfl
          have d37 : (((I 102 52).toInt) : Int) = (0) := ci_eq e36 rfl c17
          refine w_X12_refuse ?_
          have hB38 : Bd (uI (uI (uI I 97 1 0) 97 0 0) 97 0 8) := Bd.o0 hB2 (show isO 112 97 12 = true from rfl) (by omega) (show bnd 12 0 = none from rfl)
          exact hQ _ _ _ _ hB38 trivial
      · exact absurd c16 (by decide)
set_option maxHeartbeats 2000000 in
theorem sp_X12_mean {d : Nat} {Q : Qt} {v1 : Int32} {v2 : Int32} {I : Im} {J : Jm} {R : Rm} (hB0 : Bd I) (hR0 : RI R) (hQ : ∀ (x : Int32) (y : Int64) (I2 : Im) (J2 : Jm), Bd I2 → (True) → Q x y I2 J2 R) : AM (d + 611) 315 112 [.ref 97, .int v1, .int v2] I J R Q := by
  have i_v1 := i32 v1
  have i_v2 := i32 v2
  refine am_X12_mean (fun P hc => ?_)
  have L : ∀ n : Nat, (∀ (v3 : Int32) (M : Im) (JM : Jm), Bd M → (BEq M v3.toInt) → (1 ≤ v2.toInt ∧ v2.toInt ≤ 20 ∧ 0 ≤ v1.toInt ∧ v1.toInt ≤ 10000 - v2.toInt ∧ ¬ (M 102 52).toInt = 0 ∧ 0 ≤ v3.toInt ∧ v3.toInt ≤ 52) → 90000 - v3.toInt < (n : Int) → P 62 112 [(0, .ref 97), (1, .int v1), (2, .int v2), (3, .int v3)] [] M JM R) ∧ (∀ (v3 : Int64) (v5 : Int32) (M : Im) (JM : Jm), Bd M → (BEq M 52) → (1 ≤ v2.toInt ∧ v2.toInt ≤ 20 ∧ 0 ≤ v1.toInt ∧ v1.toInt ≤ 10000 - v2.toInt ∧ ¬ (M 102 52).toInt = 0 ∧ 0 ≤ v5.toInt ∧ v5.toInt ≤ v2.toInt) → 80000 - 1000 * v5.toInt < (n : Int) → P 91 112 [(0, .ref 97), (1, .int v1), (2, .int v2), (3, .long v3), (5, .int v5)] [] M JM R) ∧ (∀ (v3 : Int64) (v5 : Int32) (v6 : Int32) (M : Im) (JM : Jm), Bd M → (BD M) → (1 ≤ v2.toInt ∧ v2.toInt ≤ 20 ∧ 0 ≤ v1.toInt ∧ v1.toInt ≤ 10000 - v2.toInt ∧ ¬ (M 102 52).toInt = 0 ∧ 0 ≤ v5.toInt ∧ v5.toInt < v2.toInt ∧ 0 ≤ v6.toInt ∧ v6.toInt ≤ 6) → 80000 - 1000 * v5.toInt - 100 - v6.toInt < (n : Int) → P 108 112 [(0, .ref 97), (1, .int v1), (2, .int v2), (3, .long v3), (5, .int v5), (6, .int v6)] [] M JM R) ∧ (∀ (v3 : Int64) (v5 : Int32) (v6 : Int32) (M : Im) (JM : Jm), Bd M → (BD M) → (BEq M v6.toInt) → (1 ≤ v2.toInt ∧ v2.toInt ≤ 20 ∧ 0 ≤ v1.toInt ∧ v1.toInt ≤ 10000 - v2.toInt ∧ ¬ (M 102 52).toInt = 0 ∧ 0 ≤ v5.toInt ∧ v5.toInt < v2.toInt ∧ 0 ≤ v6.toInt ∧ v6.toInt ≤ 52) → 80000 - 1000 * v5.toInt - 200 - v6.toInt < (n : Int) → P 144 112 [(0, .ref 97), (1, .int v1), (2, .int v2), (3, .long v3), (5, .int v5), (6, .int v6)] [] M JM R) := by
    intro n
    induction n with
    | zero =>
      exact ⟨fun v3 M J _ _ hi hm => absurd hm (by omega), fun v3 v5 M J _ _ hi hm => absurd hm (by omega), fun v3 v5 v6 M J _ _ hi hm => absurd hm (by omega), fun v3 v5 v6 M J _ _ _ hi hm => absurd hm (by omega)⟩
    | succ n ih =>
      refine ⟨?_, ?_, ?_, ?_⟩
      · skip
        intro v3 M JM hB hq_0 hi hm
        have i_v1 := i32 v1
        have i_v2 := i32 v2
        have i_v3 := i32 v3
        refine sg_X12_mean_62 hc _ _ _ _ _ _ ?_
        refine ⟨fun c1 => ?_, fun c1 => ?_⟩
        · skip
          have d2 : ((52) : Int) ≤ (v3.toInt) := ci_le rfl rfl c1
          have hv3 : BEq M 52 := (by rw [show (52 : Int) = v3.toInt by omega]; exact hq_0)
          exact ih.2.1 _ _ _ _ hB hv3 (by have q0 : (0 : Int32).toInt = 0 := rfl; have q1 : ((M 102 52) : Int32).toInt = (M 102 52).toInt := rfl; omega) (by have q0 : (0 : Int32).toInt = 0 := rfl; omega)
        · skip
          have d4 : ((v3.toInt) : Int) < (52) := ci_nle rfl rfl c1
          refine ⟨vp_of (a := v3.toInt) rfl (by omega) (by omega), ?_⟩
          refine ⟨vp_of (a := v3.toInt) rfl (by omega) (by omega), ?_⟩
          have hB5 : Bd (uI M 103 (Int32.toNatClampNeg v3) (M 102 (Int32.toNatClampNeg v3))) := Bd.a0 hB (show isA 112 103 0 = true from rfl) (show bna 103 = none from rfl)
          have e6 : ((v3 + 1) : Int32).toInt = (v3.toInt) + (1) := ti_add rfl rfl (by omega)
          have e7 : (((uI M 103 (Int32.toNatClampNeg v3) (M 102 (Int32.toNatClampNeg v3))) 102 52) : Int32).toInt = (M 102 52).toInt := Eq.trans (congrArg Int32.toInt (rd_ne (by omega))) rfl
          have hv8 : BEq (uI M 103 (Int32.toNatClampNeg v3) (M 102 (Int32.toNatClampNeg v3))) (v3 + 1).toInt := (BEq.keep hq_0 (by omega) (ti_add rfl rfl (by omega)))
          exact ih.1 _ _ _ hB5 hv8 (by have q0 : ((v3 + 1) : Int32).toInt = (v3.toInt + 1) := e6; have q1 : (((uI M 103 (Int32.toNatClampNeg v3) (M 102 (Int32.toNatClampNeg v3))) 102 52) : Int32).toInt = (M 102 52).toInt := e7; omega) (by have q0 : ((v3 + 1) : Int32).toInt = (v3.toInt + 1) := e6; omega)
      · skip
        intro v3 v5 M JM hB hq_0 hi hm
        have i_v1 := i32 v1
        have i_v2 := i32 v2
        have i_v3 := i64 v3
        have i_v5 := i32 v5
        refine sg_X12_mean_91 hc _ _ _ _ _ _ _ ?_
        refine ⟨fun c9 => ?_, fun c9 => ?_⟩
        · skip
          have d10 : ((v2.toInt) : Int) ≤ (v5.toInt) := ci_le rfl rfl c9
          refine sp_X12_fraction hB hR0 (loafs (by omega)) (fun x11 y16 I12 J13 hB14 p15 => ?_)
          intro o17
          have i18 := i32 x11
          refine ⟨o17, ?_⟩
          exact hQ _ _ _ _ hB14 trivial
        · skip
          have d19 : ((v5.toInt) : Int) < (v2.toInt) := ci_nle rfl rfl c9
          have b20 := (Bd.c hB (j := 53) (z := 53) rfl).2.2.1 (by decide)
          have e21 : ((v1 + v5) : Int32).toInt = (v1.toInt) + (v5.toInt) := ti_add rfl rfl (by omega)
          refine sp_X12_runsDays hB hR0 (by have y52 : ((M 102 52)).toInt = (M 102 52).toInt := rfl; have y53 : ((M 102 53)).toInt = (M 102 53).toInt := rfl; omega) (by have z1 : ((v1 + v5) : Int32).toInt = (v1.toInt + v5.toInt) := e21; omega) (fun x22 y27 I23 J24 hB25 p26 => ?_)
          have f28 : Fr pD M I23 := p26
          have e29 : ((I23 102 52) : Int32).toInt = (M 102 52).toInt := Eq.trans (congrArg Int32.toInt (f28.1 52 (by unfold pD; omega))) rfl
          have hv30 : BD I23 := (BD.of hq_0 f28 hB)
          exact ih.2.2.1 _ _ _ _ _ hB25 hv30 (by have q0 : (v5 : Int32).toInt = v5.toInt := rfl; have q1 : (0 : Int32).toInt = 0 := rfl; have q2 : ((I23 102 52) : Int32).toInt = (M 102 52).toInt := e29; omega) (by have q0 : (v5 : Int32).toInt = v5.toInt := rfl; have q1 : (0 : Int32).toInt = 0 := rfl; omega)
      · skip
        intro v3 v5 v6 M JM hB hq_0 hi hm
        have i_v1 := i32 v1
        have i_v2 := i32 v2
        have i_v3 := i64 v3
        have i_v5 := i32 v5
        have i_v6 := i32 v6
        refine sg_X12_mean_108 hc _ _ _ _ _ _ _ _ ?_
        refine ⟨vp_of (a := 0) rfl (by omega) (by omega), ?_⟩
        refine ⟨fun c31 => ?_, fun c31 => ?_⟩
        · skip
          have b32 := (Bd.c hB (j := 0) (z := 0) rfl).1 (by decide)
          have e33 : ((M 102 (Int32.toNatClampNeg 0)) : Int32).toInt = (M 102 0).toInt := Eq.trans (congrArg Int32.toInt rfl) rfl
          have d34 : (((M 102 0).toInt) : Int) ≤ (v6.toInt) := ci_le e33 rfl c31
          have hv35 : BD M := hq_0
          have hv36 : BEq M (0 : Int32).toInt := (BEq.zero (Int.le_refl 0))
          exact ih.2.2.2 _ _ _ _ _ hB hv35 hv36 (by have q0 : (v5 : Int32).toInt = v5.toInt := rfl; have q1 : (0 : Int32).toInt = 0 := rfl; have q2 : ((M 102 52) : Int32).toInt = (M 102 52).toInt := rfl; omega) (by have q0 : (v5 : Int32).toInt = v5.toInt := rfl; have q1 : (0 : Int32).toInt = 0 := rfl; omega)
        · skip
          have b37 := (Bd.c hB (j := 0) (z := 0) rfl).1 (by decide)
          have e38 : ((M 102 (Int32.toNatClampNeg 0)) : Int32).toInt = (M 102 0).toInt := Eq.trans (congrArg Int32.toInt rfl) rfl
          have d39 : ((v6.toInt) : Int) < ((M 102 0).toInt) := ci_nle e38 rfl c31
          have e40 : ((46 + v6) : Int32).toInt = (46) + (v6.toInt) := ti_add rfl rfl (by omega)
          refine ⟨vp_of (a := (46 + v6.toInt)) e40 (by omega) (by omega), ?_⟩
          refine sp_X12_sumOf hB hR0 (fun x41 y46 I42 J43 hB44 p45 => ?_)
          subst p45
          have e47 : ((v6 + 1) : Int32).toInt = (v6.toInt) + (1) := ti_add rfl rfl (by omega)
          have hv48 : BD M := hq_0
          exact ih.2.2.1 _ _ _ _ _ hB hv48 (by have q0 : (v5 : Int32).toInt = v5.toInt := rfl; have q1 : ((v6 + 1) : Int32).toInt = (v6.toInt + 1) := e47; have q2 : ((M 102 52) : Int32).toInt = (M 102 52).toInt := rfl; omega) (by have q0 : (v5 : Int32).toInt = v5.toInt := rfl; have q1 : ((v6 + 1) : Int32).toInt = (v6.toInt + 1) := e47; omega)
      · skip
        intro v3 v5 v6 M JM hB hq_0 hq_1 hi hm
        have i_v1 := i32 v1
        have i_v2 := i32 v2
        have i_v3 := i64 v3
        have i_v5 := i32 v5
        have i_v6 := i32 v6
        refine sg_X12_mean_144 hc _ _ _ _ _ _ _ _ ?_
        refine ⟨fun c49 => ?_, fun c49 => ?_⟩
        · skip
          have d50 : ((52) : Int) ≤ (v6.toInt) := ci_le rfl rfl c49
          have e51 : ((v5 + 1) : Int32).toInt = (v5.toInt) + (1) := ti_add rfl rfl (by omega)
          have hv52 : BEq M 52 := (by rw [show (52 : Int) = v6.toInt by omega]; exact hq_1)
          exact ih.2.1 _ _ _ _ hB hv52 (by have q0 : ((v5 + 1) : Int32).toInt = (v5.toInt + 1) := e51; have q1 : ((M 102 52) : Int32).toInt = (M 102 52).toInt := rfl; omega) (by have q0 : ((v5 + 1) : Int32).toInt = (v5.toInt + 1) := e51; omega)
        · skip
          have d53 : ((v6.toInt) : Int) < (52) := ci_nle rfl rfl c49
          refine ⟨vp_of (a := v6.toInt) rfl (by omega) (by omega), ?_⟩
          refine ⟨vp_of (a := v6.toInt) rfl (by omega) (by omega), ?_⟩
          have hB54 : Bd (uI M 102 (Int32.toNatClampNeg v6) (M 103 (Int32.toNatClampNeg v6))) := Bd.rest hB hq_0 (by omega)
          have e55 : ((v6 + 1) : Int32).toInt = (v6.toInt) + (1) := ti_add rfl rfl (by omega)
          have e56 : (((uI M 102 (Int32.toNatClampNeg v6) (M 103 (Int32.toNatClampNeg v6))) 102 52) : Int32).toInt = (M 102 52).toInt := Eq.trans (congrArg Int32.toInt (rd_k (fun z => by have z1 := tn_of (show (52 : Int32).toInt = 52 from rfl) (by omega); have z2 := tn_of (show (v6 : Int32).toInt = v6.toInt from rfl) (by omega); have z0 : (52 : Nat) = (Int32.toNatClampNeg v6) := z; have z4 : Int32.toNatClampNeg 52 = 52 := rfl; omega))) rfl
          have hv57 : BD (uI M 102 (Int32.toNatClampNeg v6) (M 103 (Int32.toNatClampNeg v6))) := (BD.w hq_0 (by omega))
          have hv58 : BEq (uI M 102 (Int32.toNatClampNeg v6) (M 103 (Int32.toNatClampNeg v6))) (v6 + 1).toInt := (BEq.w hq_1 (by omega) (ti_add rfl rfl (by omega)))
          exact ih.2.2.2 _ _ _ _ _ hB54 hv57 hv58 (by have q0 : (v5 : Int32).toInt = v5.toInt := rfl; have q1 : ((v6 + 1) : Int32).toInt = (v6.toInt + 1) := e55; have q2 : (((uI M 102 (Int32.toNatClampNeg v6) (M 103 (Int32.toNatClampNeg v6))) 102 52) : Int32).toInt = (M 102 52).toInt := e56; omega) (by have q0 : (v5 : Int32).toInt = v5.toInt := rfl; have q1 : ((v6 + 1) : Int32).toInt = (v6.toInt + 1) := e55; omega)
  refine sg_X12_mean_0 hc _ _ _ _ _ ?_
  have hB59 : Bd (uI I 97 1 0) := Bd.o0 hB0 (show isO 112 97 12 = true from rfl) (by omega) (show bnd 12 1 = none from rfl)
  have hB60 : Bd (uI (uI I 97 1 0) 97 0 0) := Bd.o0 hB59 (show isO 112 97 12 = true from rfl) (by omega) (show bnd 12 0 = none from rfl)
  refine w_X12_isIn ?_
  refine ⟨fun c61 => ?_, fun c61 => ?_⟩
  · skip
    rw [lg_cmp_lt] at c61
    have d62 : ((v2.toInt) : Int) < (1) := cl_lt (tl_i2l rfl) rfl c61
    refine ⟨Or.inl rfl, ?_⟩
    intro o63
    refine ⟨fun c64 => ?_, fun c64 => ?_⟩
    · skip
      refine w_X12_no ?_
      have hB65 : Bd (uI (uI (uI I 97 1 0) 97 0 0) 97 0 5) := Bd.o0 hB60 (show isO 112 97 12 = true from rfl) (by omega) (show bnd 12 0 = none from rfl)
      refine ⟨Or.inl rfl, ?_⟩
      intro o66
      refine ⟨Or.inl rfl, ?_⟩
      exact hQ _ _ _ _ hB65 trivial
    · exact absurd c64 (by decide)
  · skip
    rw [lg_cmp_lt] at c61
    have d67 : ((1) : Int) ≤ (v2.toInt) := cl_nlt (tl_i2l rfl) rfl c61
    refine ⟨fun c68 => ?_, fun c68 => ?_⟩
    · skip
      rw [lg_cmp_gt] at c68
      have d69 : ((20) : Int) < (v2.toInt) := cl_lt rfl (tl_i2l rfl) c68
      refine ⟨Or.inl rfl, ?_⟩
      intro o70
      refine ⟨fun c71 => ?_, fun c71 => ?_⟩
      · skip
        refine w_X12_no ?_
        have hB72 : Bd (uI (uI (uI I 97 1 0) 97 0 0) 97 0 5) := Bd.o0 hB60 (show isO 112 97 12 = true from rfl) (by omega) (show bnd 12 0 = none from rfl)
        refine ⟨Or.inl rfl, ?_⟩
        intro o73
        refine ⟨Or.inl rfl, ?_⟩
        exact hQ _ _ _ _ hB72 trivial
      · exact absurd c71 (by decide)
    · skip
      rw [lg_cmp_gt] at c68
      have d74 : ((v2.toInt) : Int) ≤ (20) := cl_nlt rfl (tl_i2l rfl) c68
      refine ⟨Or.inr rfl, ?_⟩
      intro o75
      refine ⟨fun c76 => ?_, fun c76 => ?_⟩
      · exact absurd c76 (by decide)
      · skip
        refine w_X12_isIn ?_
        refine ⟨fun c77 => ?_, fun c77 => ?_⟩
        · skip
          rw [lg_cmp_lt] at c77
          have d78 : ((v1.toInt) : Int) < (0) := cl_lt (tl_i2l rfl) rfl c77
          refine ⟨Or.inl rfl, ?_⟩
          intro o79
          refine ⟨fun c80 => ?_, fun c80 => ?_⟩
          · exact absurd c80 (by decide)
          · skip
            refine w_X12_no ?_
            have hB81 : Bd (uI (uI (uI I 97 1 0) 97 0 0) 97 0 5) := Bd.o0 hB60 (show isO 112 97 12 = true from rfl) (by omega) (show bnd 12 0 = none from rfl)
            refine ⟨Or.inl rfl, ?_⟩
            intro o82
            refine ⟨Or.inl rfl, ?_⟩
            exact hQ _ _ _ _ hB81 trivial
        · skip
          rw [lg_cmp_lt] at c77
          have d83 : ((0) : Int) ≤ (v1.toInt) := cl_nlt (tl_i2l rfl) rfl c77
          refine ⟨fun c84 => ?_, fun c84 => ?_⟩
          · skip
            rw [lg_cmp_gt] at c84
            have e85 : ((10000 - v2) : Int32).toInt = (10000) - (v2.toInt) := ti_sub rfl rfl (by omega)
            have i86 := i32 ((10000 - v2))
            have d87 : (((10000 - v2.toInt)) : Int) < (v1.toInt) := cl_lt (tl_i2l e85) (tl_i2l rfl) c84
            refine ⟨Or.inl rfl, ?_⟩
            intro o88
            refine ⟨fun c89 => ?_, fun c89 => ?_⟩
            · exact absurd c89 (by decide)
            · skip
              refine w_X12_no ?_
              have hB90 : Bd (uI (uI (uI I 97 1 0) 97 0 0) 97 0 5) := Bd.o0 hB60 (show isO 112 97 12 = true from rfl) (by omega) (show bnd 12 0 = none from rfl)
              refine ⟨Or.inl rfl, ?_⟩
              intro o91
              refine ⟨Or.inl rfl, ?_⟩
              exact hQ _ _ _ _ hB90 trivial
          · skip
            rw [lg_cmp_gt] at c84
            have e92 : ((10000 - v2) : Int32).toInt = (10000) - (v2.toInt) := ti_sub rfl rfl (by omega)
            have i93 := i32 ((10000 - v2))
            have d94 : ((v1.toInt) : Int) ≤ ((10000 - v2.toInt)) := cl_nlt (tl_i2l e92) (tl_i2l rfl) c84
            refine ⟨Or.inr rfl, ?_⟩
            intro o95
            refine ⟨fun c96 => ?_, fun c96 => ?_⟩
            · skip
              refine ⟨vp_of (a := 52) rfl (by omega) (by omega), ?_⟩
              refine ⟨fun c97 => ?_, fun c97 => ?_⟩
              · skip
                have e98 : (((uI (uI I 97 1 0) 97 0 0) 102 (Int32.toNatClampNeg 52)) : Int32).toInt = (I 102 52).toInt := Eq.trans (congrArg Int32.toInt (Eq.trans (Eq.trans (rd_ne (by omega)) (rd_ne (by omega))) rfl)) rfl
                have d99 : ¬ (((I 102 52).toInt) : Int) = (0) := ci_ne e98 rfl c97
                have e100 : (((uI (uI I 97 1 0) 97 0 0) 102 52) : Int32).toInt = (I 102 52).toInt := Eq.trans (congrArg Int32.toInt (Eq.trans (rd_ne (by omega)) (rd_ne (by omega)))) rfl
                have hv101 : BEq (uI (uI I 97 1 0) 97 0 0) (0 : Int32).toInt := (BEq.zero (Int.le_refl 0))
                exact (L 1000000).1 _ _ _ hB60 hv101 (by have q0 : (0 : Int32).toInt = 0 := rfl; have q1 : (((uI (uI I 97 1 0) 97 0 0) 102 52) : Int32).toInt = (I 102 52).toInt := e100; omega) (by have q0 : (0 : Int32).toInt = 0 := rfl; omega)
              · skip
                have e102 : (((uI (uI I 97 1 0) 97 0 0) 102 (Int32.toNatClampNeg 52)) : Int32).toInt = (I 102 52).toInt := Eq.trans (congrArg Int32.toInt (Eq.trans (Eq.trans (rd_ne (by omega)) (rd_ne (by omega))) rfl)) rfl
                have d103 : (((I 102 52).toInt) : Int) = (0) := ci_eq e102 rfl c97
                refine w_X12_no ?_
                have hB104 : Bd (uI (uI (uI I 97 1 0) 97 0 0) 97 0 8) := Bd.o0 hB60 (show isO 112 97 12 = true from rfl) (by omega) (show bnd 12 0 = none from rfl)
                refine ⟨Or.inl rfl, ?_⟩
                intro o105
                refine ⟨Or.inl rfl, ?_⟩
                exact hQ _ _ _ _ hB104 trivial
            · exact absurd c96 (by decide)
