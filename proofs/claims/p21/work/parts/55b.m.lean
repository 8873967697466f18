set_option maxHeartbeats 2000000 in
theorem sp_X12_draw {d : Nat} {Q : Qt} {v1 : Int32} {I : Im} {J : Jm} {R : Rm} (hB0 : Bd I) (hR0 : RI R) (hv1 : 1 ≤ v1.toInt) (hQ : ∀ (x : Int32) (y : Int64) (I2 : Im) (J2 : Jm), Bd I2 → (I2 97 43 = I 97 43 ∧ Fr pT I I2 ∧ (0 ≤ x.toInt ∧ x.toInt < v1.toInt)) → Q x y I2 J2 R) : AM (d + 1) 304 112 [.ref 97, .int v1] I J R Q := by
  have i_v1 := i32 v1
  refine w_X12_draw ?_
  refine ⟨by decide, ?_⟩
  have b2 := Bd.o hB0 (show isO 112 97 12 = true from rfl) (show bnd 12 42 = some _ from rfl)
  have e3 : (((I 97 42) * 2971) : Int32).toInt = ((I 97 42).toInt) * (2971) := ti_mul rfl rfl (by omega)
  have e4 : ((((I 97 42) * 2971) + 10993) : Int32).toInt = (((I 97 42).toInt * 2971)) + (10993) := ti_add e3 rfl (by omega)
  have s5 := ti_rem (show ((((I 97 42) * 2971) + 10993) : Int32).toInt = (((I 97 42).toInt * 2971) + 10993) from e4) (show (65536 : Int32).toInt = 65536 from rfl) (by omega) (by omega)
  have hB1 : Bd (uI I 97 42 ((((I 97 42) * 2971) + 10993) - (((I 97 42) * 2971) + 10993) / 65536 * 65536)) := Bd.o1 hB0 (show isO 112 97 12 = true from rfl) (by omega) (show bnd 12 42 = some _ from rfl) (show (((((I 97 42) * 2971) + 10993) - (((I 97 42) * 2971) + 10993) / 65536 * 65536) : Int32).toInt = (((((I 97 42) * 2971) + 10993) - (((I 97 42) * 2971) + 10993) / 65536 * 65536) : Int32).toInt from rfl) (by omega)
  have f6 : Fr pT I (uI I 97 42 ((((I 97 42) * 2971) + 10993) - (((I 97 42) * 2971) + 10993) / 65536 * 65536)) := Fr.o (Fr.refl _ _) (by decide) (by decide)
  refine ⟨by decide, ?_⟩
  refine ⟨(fun z => by have z2 : (v1.toInt : Int) = 0 := ci_eq rfl rfl z; omega), ?_⟩
  have e7 : (((uI I 97 42 ((((I 97 42) * 2971) + 10993) - (((I 97 42) * 2971) + 10993) / 65536 * 65536)) 97 42) : Int32).toInt = (((((I 97 42) * 2971) + 10993) - (((I 97 42) * 2971) + 10993) / 65536 * 65536) : Int32).toInt := Eq.trans (congrArg Int32.toInt rd_eq) rfl
  have e8 : ((((uI I 97 42 ((((I 97 42) * 2971) + 10993) - (((I 97 42) * 2971) + 10993) / 65536 * 65536)) 97 42) / 8) : Int32).toInt = ((((((I 97 42) * 2971) + 10993) - (((I 97 42) * 2971) + 10993) / 65536 * 65536) : Int32).toInt) / (8) := ti_div (show (((uI I 97 42 ((((I 97 42) * 2971) + 10993) - (((I 97 42) * 2971) + 10993) / 65536 * 65536)) 97 42) : Int32).toInt = (((((I 97 42) * 2971) + 10993) - (((I 97 42) * 2971) + 10993) / 65536 * 65536) : Int32).toInt from e7) (show (8 : Int32).toInt = 8 from rfl) (by omega) (by omega)
  have s9 := ti_rem (show ((((uI I 97 42 ((((I 97 42) * 2971) + 10993) - (((I 97 42) * 2971) + 10993) / 65536 * 65536)) 97 42) / 8) : Int32).toInt = (((((((I 97 42) * 2971) + 10993) - (((I 97 42) * 2971) + 10993) / 65536 * 65536) : Int32).toInt) / (8)) from e8) (show (v1 : Int32).toInt = v1.toInt from rfl) (by omega) (by omega)
  exact hQ _ _ _ _ hB1 ⟨(rd_k (by decide)), f6, (by have q0 : (((((uI I 97 42 ((((I 97 42) * 2971) + 10993) - (((I 97 42) * 2971) + 10993) / 65536 * 65536)) 97 42) / 8) - (((uI I 97 42 ((((I 97 42) * 2971) + 10993) - (((I 97 42) * 2971) + 10993) / 65536 * 65536)) 97 42) / 8) / v1 * v1) : Int32).toInt = (((((uI I 97 42 ((((I 97 42) * 2971) + 10993) - (((I 97 42) * 2971) + 10993) / 65536 * 65536)) 97 42) / 8) - (((uI I 97 42 ((((I 97 42) * 2971) + 10993) - (((I 97 42) * 2971) + 10993) / 65536 * 65536)) 97 42) / 8) / v1 * v1) : Int32).toInt := rfl; omega)⟩
set_option maxHeartbeats 2000000 in
theorem sp_X12_isGiven {d : Nat} {Q : Qt} {v1 : Int32} {v2 : Int32} {I : Im} {J : Jm} {R : Rm} (hB0 : Bd I) (hR0 : RI R) (hv1 : 0 ≤ v1.toInt ∧ v1.toInt ≤ 5) (hv2 : 1 ≤ v2.toInt ∧ v2.toInt ≤ 30) (hQ : ∀ (x : Int32) (y : Int64) (I2 : Im) (J2 : Jm), Bd I2 → (I2 97 43 = I 97 43 ∧ Fr pD I I2) → Q x y I2 J2 R) : AM (d + 3) 305 112 [.ref 97, .int v1, .int v2] I J R Q := by
  have i_v1 := i32 v1
  have i_v2 := i32 v2
  refine w_X12_isGiven ?_
  refine sp_X12_gives hB0 hR0 (by have z1 : (v1 : Int32).toInt = v1.toInt := rfl; omega) (by have z2 : (v2 : Int32).toInt = v2.toInt := rfl; omega) (fun x1 y6 I2 J3 hB4 p5 => ?_)
  intro o7
  have f8 : Fr pD I I2 := p5.2
  have f9 : Fr pD I I2 := Fr.tr (Fr.refl _ _) f8 (fun _ z => z)
  have i10 := i32 x1
  refine ⟨fun c11 => ?_, fun c11 => ?_⟩
  · skip
    have d12 : ((x1.toInt) : Int) = (0) := ci_eq rfl rfl c11
    have hB13 : Bd (uI I2 97 46 ((I2 97 46) + 0)) := Bd.o0 hB4 (show isO 112 97 12 = true from rfl) (by omega) (show bnd 12 46 = none from rfl)
    have f14 : Fr pD I (uI I2 97 46 ((I2 97 46) + 0)) := Fr.o f9 (by decide) (by decide)
    refine ⟨o7, ?_⟩
    exact hQ _ _ _ _ hB13 ⟨(Eq.trans (rd_k (by decide)) p5.1), f14⟩
  · skip
    have d15 : ¬ ((x1.toInt) : Int) = (0) := ci_ne rfl rfl c11
    have hB16 : Bd (uI I2 97 46 ((I2 97 46) + 1)) := Bd.o0 hB4 (show isO 112 97 12 = true from rfl) (by omega) (show bnd 12 46 = none from rfl)
    have f17 : Fr pD I (uI I2 97 46 ((I2 97 46) + 1)) := Fr.o f9 (by decide) (by decide)
    refine ⟨o7, ?_⟩
    exact hQ _ _ _ _ hB16 ⟨(Eq.trans (rd_k (by decide)) p5.1), f17⟩
set_option maxHeartbeats 2000000 in
theorem sp_X12_isBaked {d : Nat} {Q : Qt} {v1 : Int32} {I : Im} {J : Jm} {R : Rm} (hB0 : Bd I) (hR0 : RI R) (hQ : ∀ (x : Int32) (y : Int64) (I2 : Im) (J2 : Jm), Bd I2 → (I2 97 43 = I 97 43 ∧ Fr pD I I2) → Q x y I2 J2 R) : AM (d + 2) 306 112 [.ref 97, .int v1] I J R Q := by
  have i_v1 := i32 v1
  refine w_X12_isBaked ?_
  refine sp_X12_bakes hB0 hR0 (fun x1 y6 I2 J3 hB4 p5 => ?_)
  intro o7
  have f8 : Fr pD I I2 := p5.2
  have f9 : Fr pD I I2 := Fr.tr (Fr.refl _ _) f8 (fun _ z => z)
  have i10 := i32 x1
  refine ⟨fun c11 => ?_, fun c11 => ?_⟩
  · skip
    have d12 : ((x1.toInt) : Int) = (0) := ci_eq rfl rfl c11
    have hB13 : Bd (uI I2 97 47 ((I2 97 47) + 0)) := Bd.o0 hB4 (show isO 112 97 12 = true from rfl) (by omega) (show bnd 12 47 = none from rfl)
    have f14 : Fr pD I (uI I2 97 47 ((I2 97 47) + 0)) := Fr.o f9 (by decide) (by decide)
    refine ⟨o7, ?_⟩
    exact hQ _ _ _ _ hB13 ⟨(Eq.trans (rd_k (by decide)) p5.1), f14⟩
  · skip
    have d15 : ¬ ((x1.toInt) : Int) = (0) := ci_ne rfl rfl c11
    have hB16 : Bd (uI I2 97 47 ((I2 97 47) + v1)) := Bd.o0 hB4 (show isO 112 97 12 = true from rfl) (by omega) (show bnd 12 47 = none from rfl)
    have f17 : Fr pD I (uI I2 97 47 ((I2 97 47) + v1)) := Fr.o f9 (by decide) (by decide)
    refine ⟨o7, ?_⟩
    exact hQ _ _ _ _ hB16 ⟨(Eq.trans (rd_k (by decide)) p5.1), f17⟩
set_option maxHeartbeats 2000000 in
theorem sp_X12_isAny {d : Nat} {Q : Qt} {I : Im} {J : Jm} {R : Rm} (hB0 : Bd I) (hR0 : RI R) (hQ : ∀ (x : Int32) (y : Int64) (I2 : Im) (J2 : Jm), Bd I2 → (I2 97 43 = I 97 43 ∧ Fr pD I I2) → Q x y I2 J2 R) : AM (d + 4) 307 112 [.ref 97] I J R Q := by
  refine w_X12_isAny ?_
  refine ⟨vp_of (a := 0) rfl (by omega) (by omega), ?_⟩
  refine ⟨fun c1 => ?_, fun c1 => ?_⟩
  · skip
    have b2 := (Bd.c hB0 (j := 0) (z := 0) rfl).1 (by decide)
    have e3 : ((I 102 (Int32.toNatClampNeg 0)) : Int32).toInt = (I 102 0).toInt := Eq.trans (congrArg Int32.toInt rfl) rfl
    have d4 : ¬ (((I 102 0).toInt) : Int) = (0) := ci_ne e3 rfl c1
    refine ⟨vp_of (a := 0) rfl (by omega) (by omega), ?_⟩
    refine sp_X12_draw hB0 hR0 (by have z1 : ((I 102 (Int32.toNatClampNeg 0)) : Int32).toInt = (I 102 0).toInt := e3; omega) (fun x5 y10 I6 J7 hB8 p9 => ?_)
    have f11 : Fr pT I I6 := p9.2.1
    have f12 : Fr pD I I6 := Fr.tr (Fr.refl _ _) f11 (fun _ _ => trivial)
    have q13 : ((I 102 (Int32.toNatClampNeg 0)) : Int32).toInt = (I 102 0).toInt := e3
    have i14 := i32 x5
    refine sp_X12_draw hB8 hR0 (by have z1 : (30 : Int32).toInt = 30 := rfl; omega) (fun x15 y20 I16 J17 hB18 p19 => ?_)
    have f21 : Fr pT I6 I16 := p19.2.1
    have f22 : Fr pD I I16 := Fr.tr f12 f21 (fun _ _ => trivial)
    have q23 : (30 : Int32).toInt = 30 := rfl
    have i24 := i32 x15
    refine sp_X12_draw hB18 hR0 (by have z1 : (16 : Int32).toInt = 16 := rfl; omega) (fun x25 y30 I26 J27 hB28 p29 => ?_)
    have f31 : Fr pT I16 I26 := p29.2.1
    have f32 : Fr pD I I26 := Fr.tr f22 f31 (fun _ _ => trivial)
    have q33 : (16 : Int32).toInt = 16 := rfl
    have i34 := i32 x25
    refine ⟨vp_of (a := 1) rfl (by omega) (by omega), ?_⟩
    refine ⟨fun c35 => ?_, fun c35 => ?_⟩
    · skip
      have e36 : ((I26 102 (Int32.toNatClampNeg 1)) : Int32).toInt = (I 102 1).toInt := Eq.trans (congrArg Int32.toInt (Eq.trans (Eq.trans (Eq.trans (f31.1 (Int32.toNatClampNeg 1) trivial) (f21.1 (Int32.toNatClampNeg 1) trivial)) (f11.1 (Int32.toNatClampNeg 1) trivial)) rfl)) rfl
      have d37 : (((I 102 1).toInt) : Int) ≤ (x25.toInt) := ci_le e36 rfl c35
      have e38 : ((x15 + 1) : Int32).toInt = (x15.toInt) + (1) := ti_add rfl rfl (by omega)
      refine sp_X12_isGiven hB28 hR0 (by have z1 : (x5 : Int32).toInt = x5.toInt := rfl; omega) (by have z2 : ((x15 + 1) : Int32).toInt = (x15.toInt + 1) := e38; omega) (fun x39 y44 I40 J41 hB42 p43 => ?_)
      intro o45
      have f46 : Fr pD I26 I40 := p43.2
      have f47 : Fr pD I I40 := Fr.tr f32 f46 (fun _ z => z)
      have i48 := i32 x39
      refine ⟨o45, ?_⟩
      exact hQ _ _ _ _ hB42 ⟨(Eq.trans (Eq.trans (Eq.trans p43.1 p29.1) p19.1) p9.1), f47⟩
    · skip
      have e49 : ((I26 102 (Int32.toNatClampNeg 1)) : Int32).toInt = (I 102 1).toInt := Eq.trans (congrArg Int32.toInt (Eq.trans (Eq.trans (Eq.trans (f31.1 (Int32.toNatClampNeg 1) trivial) (f21.1 (Int32.toNatClampNeg 1) trivial)) (f11.1 (Int32.toNatClampNeg 1) trivial)) rfl)) rfl
      have d50 : ((x25.toInt) : Int) < ((I 102 1).toInt) := ci_nle e49 rfl c35
      have e51 : ((x15 + 1) : Int32).toInt = (x15.toInt) + (1) := ti_add rfl rfl (by omega)
      refine sp_X12_splits hB28 hR0 (by have z1 : ((x15 + 1) : Int32).toInt = (x15.toInt + 1) := e51; omega) (by have z2 : (2 : Int32).toInt = 2 := rfl; omega) (fun x52 y57 I53 J54 hB55 p56 => ?_)
      intro o58
      have f59 : Fr pD I26 I53 := p56.2
      have f60 : Fr pD I I53 := Fr.tr f32 f59 (fun _ z => z)
      have i61 := i32 x52
      refine ⟨o58, ?_⟩
      exact hQ _ _ _ _ hB55 ⟨(Eq.trans (Eq.trans (Eq.trans p56.1 p29.1) p19.1) p9.1), f60⟩
  · skip
    have b62 := (Bd.c hB0 (j := 0) (z := 0) rfl).1 (by decide)
    have e63 : ((I 102 (Int32.toNatClampNeg 0)) : Int32).toInt = (I 102 0).toInt := Eq.trans (congrArg Int32.toInt rfl) rfl
    have d64 : (((I 102 0).toInt) : Int) = (0) := ci_eq e63 rfl c1
    refine ⟨Or.inl rfl, ?_⟩
    exact hQ _ _ _ _ hB0 ⟨rfl, (Fr.refl _ _)⟩
set_option maxHeartbeats 2000000 in
theorem sp_X12_does {d : Nat} {Q : Qt} {v1 : Int32} {I : Im} {J : Jm} {R : Rm} (hB0 : Bd I) (hR0 : RI R) (hRF : RF (I 102) v1 (I 102 0).toInt) (hv1 : 54 ≤ v1.toInt ∧ v1.toInt ≤ 315 ∧ (v1.toInt - 54) % 9 = 0) (hQ : ∀ (x : Int32) (y : Int64) (I2 : Im) (J2 : Jm), Bd I2 → (I2 97 43 = I 97 43 ∧ Fr pD I I2) → Q x y I2 J2 R) : AM (d + 5) 308 112 [.ref 97, .int v1] I J R Q := by
  have i_v1 := i32 v1
  refine w_X12_does ?_
  refine ⟨vp_of (a := v1.toInt) rfl (by omega) (by omega), ?_⟩
  have e1 : ((v1 + 1) : Int32).toInt = (v1.toInt) + (1) := ti_add rfl rfl (by omega)
  refine ⟨vp_of (a := (v1.toInt + 1)) e1 (by omega) (by omega), ?_⟩
  refine ⟨fun c2 => ?_, fun c2 => ?_⟩
  · skip
    have d3 : ¬ (((I 102 (Int32.toNatClampNeg v1)).toInt) : Int) = (0) := ci_ne rfl rfl c2
    refine ⟨fun c4 => ?_, fun c4 => ?_⟩
    · skip
      have d5 : ¬ (((I 102 (Int32.toNatClampNeg v1)).toInt) : Int) = (1) := ci_ne rfl rfl c4
      refine ⟨fun c6 => ?_, fun c6 => ?_⟩
      · skip
        have d7 : ¬ (((I 102 (Int32.toNatClampNeg v1)).toInt) : Int) = (2) := ci_ne rfl rfl c6
        refine ⟨fun c8 => ?_, fun c8 => ?_⟩
        · skip
          have d9 : ¬ (((I 102 (Int32.toNatClampNeg v1)).toInt) : Int) = (3) := ci_ne rfl rfl c8
          refine ⟨fun c10 => ?_, fun c10 => ?_⟩
          · skip
            have d11 : ¬ (((I 102 (Int32.toNatClampNeg v1)).toInt) : Int) = (4) := ci_ne rfl rfl c10
            refine sp_X12_isAny hB0 hR0 (fun x12 y17 I13 J14 hB15 p16 => ?_)
            intro o18
            have f19 : Fr pD I I13 := p16.2
            have f20 : Fr pD I I13 := Fr.tr (Fr.refl _ _) f19 (fun _ z => z)
            have i21 := i32 x12
            refine ⟨o18, ?_⟩
            exact hQ _ _ _ _ hB15 ⟨p16.1, f20⟩
          · skip
            have d22 : (((I 102 (Int32.toNatClampNeg v1)).toInt) : Int) = (4) := ci_eq rfl rfl c10
            have rf23 := hRF.2.2.2.1 (by omega)
            have mn24 := Bd.men hB0
            refine sp_X12_isBaked hB0 hR0 (fun x25 y30 I26 J27 hB28 p29 => ?_)
            intro o31
            have f32 : Fr pD I I26 := p29.2
            have f33 : Fr pD I I26 := Fr.tr (Fr.refl _ _) f32 (fun _ z => z)
            have i34 := i32 x25
            refine ⟨o31, ?_⟩
            exact hQ _ _ _ _ hB28 ⟨p29.1, f33⟩
        · skip
          have d35 : (((I 102 (Int32.toNatClampNeg v1)).toInt) : Int) = (3) := ci_eq rfl rfl c8
          have e36 : ((v1 + 2) : Int32).toInt = (v1.toInt) + (2) := ti_add rfl rfl (by omega)
          refine ⟨vp_of (a := (v1.toInt + 2)) e36 (by omega) (by omega), ?_⟩
          have rf37 := hRF.2.2.1 (Or.inr (by omega))
          have mn38 := Bd.men hB0
          refine sp_X12_takes hB0 hR0 (by have z1 : ((I 102 (Int32.toNatClampNeg (v1 + 1))) : Int32).toInt = (I 102 (Int32.toNatClampNeg (v1 + 1))).toInt := rfl; omega) (by have z2 : ((I 102 (Int32.toNatClampNeg (v1 + 2))) : Int32).toInt = (I 102 (Int32.toNatClampNeg (v1 + 2))).toInt := rfl; omega) (fun x39 y44 I40 J41 hB42 p43 => ?_)
          intro o45
          have f46 : Fr pD I I40 := p43.2
          have f47 : Fr pD I I40 := Fr.tr (Fr.refl _ _) f46 (fun _ z => z)
          have i48 := i32 x39
          refine ⟨o45, ?_⟩
          exact hQ _ _ _ _ hB42 ⟨p43.1, f47⟩
      · skip
        have d49 : (((I 102 (Int32.toNatClampNeg v1)).toInt) : Int) = (2) := ci_eq rfl rfl c6
        have e50 : ((v1 + 2) : Int32).toInt = (v1.toInt) + (2) := ti_add rfl rfl (by omega)
        refine ⟨vp_of (a := (v1.toInt + 2)) e50 (by omega) (by omega), ?_⟩
        have rf51 := hRF.2.2.1 (Or.inl (by omega))
        have mn52 := Bd.men hB0
        refine sp_X12_isGiven hB0 hR0 (by have z1 : ((I 102 (Int32.toNatClampNeg (v1 + 1))) : Int32).toInt = (I 102 (Int32.toNatClampNeg (v1 + 1))).toInt := rfl; omega) (by have z2 : ((I 102 (Int32.toNatClampNeg (v1 + 2))) : Int32).toInt = (I 102 (Int32.toNatClampNeg (v1 + 2))).toInt := rfl; omega) (fun x53 y58 I54 J55 hB56 p57 => ?_)
        intro o59
        have f60 : Fr pD I I54 := p57.2
        have f61 : Fr pD I I54 := Fr.tr (Fr.refl _ _) f60 (fun _ z => z)
        have i62 := i32 x53
        refine ⟨o59, ?_⟩
        exact hQ _ _ _ _ hB56 ⟨p57.1, f61⟩
    · skip
      have d63 : (((I 102 (Int32.toNatClampNeg v1)).toInt) : Int) = (1) := ci_eq rfl rfl c4
      have e64 : ((v1 + 2) : Int32).toInt = (v1.toInt) + (2) := ti_add rfl rfl (by omega)
      refine ⟨vp_of (a := (v1.toInt + 2)) e64 (by omega) (by omega), ?_⟩
      have rf65 := hRF.2.1 (by omega)
      have mn66 := Bd.men hB0
      refine sp_X12_splits hB0 hR0 (by have z1 : ((I 102 (Int32.toNatClampNeg (v1 + 1))) : Int32).toInt = (I 102 (Int32.toNatClampNeg (v1 + 1))).toInt := rfl; omega) (by have z2 : ((I 102 (Int32.toNatClampNeg (v1 + 2))) : Int32).toInt = (I 102 (Int32.toNatClampNeg (v1 + 2))).toInt := rfl; omega) (fun x67 y72 I68 J69 hB70 p71 => ?_)
      intro o73
      have f74 : Fr pD I I68 := p71.2
      have f75 : Fr pD I I68 := Fr.tr (Fr.refl _ _) f74 (fun _ z => z)
      have i76 := i32 x67
      refine ⟨o73, ?_⟩
      exact hQ _ _ _ _ hB70 ⟨p71.1, f75⟩
  · skip
    have d77 : (((I 102 (Int32.toNatClampNeg v1)).toInt) : Int) = (0) := ci_eq rfl rfl c2
    have e78 : ((v1 + 2) : Int32).toInt = (v1.toInt) + (2) := ti_add rfl rfl (by omega)
    refine ⟨vp_of (a := (v1.toInt + 2)) e78 (by omega) (by omega), ?_⟩
    have e79 : ((v1 + 3) : Int32).toInt = (v1.toInt) + (3) := ti_add rfl rfl (by omega)
    refine ⟨vp_of (a := (v1.toInt + 3)) e79 (by omega) (by omega), ?_⟩
    have rf80 := hRF.1 (by omega)
    have mn81 := Bd.men hB0
    refine sp_X12_cuts hB0 hR0 (by have z1 : ((I 102 (Int32.toNatClampNeg (v1 + 1))) : Int32).toInt = (I 102 (Int32.toNatClampNeg (v1 + 1))).toInt := rfl; omega) (by have z2 : ((I 102 (Int32.toNatClampNeg (v1 + 2))) : Int32).toInt = (I 102 (Int32.toNatClampNeg (v1 + 2))).toInt := rfl; omega) (by have z3 : ((I 102 (Int32.toNatClampNeg (v1 + 3))) : Int32).toInt = (I 102 (Int32.toNatClampNeg (v1 + 3))).toInt := rfl; omega) (fun x82 y87 I83 J84 hB85 p86 => ?_)
    intro o88
    have f89 : Fr pD I I83 := p86.2
    have f90 : Fr pD I I83 := Fr.tr (Fr.refl _ _) f89 (fun _ z => z)
    have i91 := i32 x82
    refine ⟨o88, ?_⟩
    exact hQ _ _ _ _ hB85 ⟨p86.1, f90⟩
set_option maxHeartbeats 2000000 in
theorem sp_X12_holds {d : Nat} {Q : Qt} {v1 : Int32} {I : Im} {J : Jm} {R : Rm} (hB0 : Bd I) (hR0 : RI R) (hRF : RF (I 102) v1 (I 102 0).toInt) (hv1 : 54 ≤ v1.toInt ∧ v1.toInt ≤ 315 ∧ (v1.toInt - 54) % 9 = 0) (hk : (I 102 v1.toNatClampNeg).toInt = 6) (hQ : ∀ (x : Int32) (y : Int64) (I2 : Im) (J2 : Jm), Bd I2 → (I = I2) → Q x y I2 J2 R) : AM (d + 4) 309 112 [.ref 97, .int v1] I J R Q := by
  have i_v1 := i32 v1
  refine w_X12_holds ?_
  have rf1 := hRF.2.2.2.2 hk
  have mn2 := Bd.men hB0
  have e3 : ((v1 + 5) : Int32).toInt = (v1.toInt) + (5) := ti_add rfl rfl (by omega)
  refine ⟨vp_of (a := (v1.toInt + 5)) e3 (by omega) (by omega), ?_⟩
  have e4 : ((v1 + 1) : Int32).toInt = (v1.toInt) + (1) := ti_add rfl rfl (by omega)
  refine ⟨vp_of (a := (v1.toInt + 1)) e4 (by omega) (by omega), ?_⟩
  refine ⟨fun c5 => ?_, fun c5 => ?_⟩
  · skip
    have d6 : ¬ (((I 102 (Int32.toNatClampNeg (v1 + 5))).toInt) : Int) = (0) := ci_ne rfl rfl c5
    refine ⟨fun c7 => ?_, fun c7 => ?_⟩
    · skip
      have d8 : ¬ (((I 102 (Int32.toNatClampNeg (v1 + 5))).toInt) : Int) = (1) := ci_ne rfl rfl c7
      have b9 := (Bd.c hB0 (j := 0) (z := 0) rfl).1 (by decide)
      refine sp_X12_lackOf hB0 hR0 (by have z : ((I 102 (Int32.toNatClampNeg (v1 + 1))) : Int32).toInt = (I 102 (Int32.toNatClampNeg (v1 + 1))).toInt := rfl; have z2 : ((I 102 0) : Int32).toInt = (I 102 0).toInt := rfl; have z3 := Bd.men hB0; omega) (fun x10 y15 I11 J12 hB13 p14 => ?_)
      subst p14
      refine ⟨fun c16 => ?_, fun c16 => ?_⟩
      · skip
        have d17 : ¬ (((I 102 (Int32.toNatClampNeg (v1 + 5))).toInt) : Int) = (1) := ci_ne rfl rfl c16
        have e18 : ((v1 + 6) : Int32).toInt = (v1.toInt) + (6) := ti_add rfl rfl (by omega)
        refine ⟨vp_of (a := (v1.toInt + 6)) e18 (by omega) (by omega), ?_⟩
        have e19 : ((v1 + 7) : Int32).toInt = (v1.toInt) + (7) := ti_add rfl rfl (by omega)
        refine ⟨vp_of (a := (v1.toInt + 7)) e19 (by omega) (by omega), ?_⟩
        refine ⟨fun c20 => ?_, fun c20 => ?_⟩
        · skip
          have d21 : ¬ (((I 102 (Int32.toNatClampNeg (v1 + 7))).toInt) : Int) = (60) := ci_ne rfl rfl c20
          refine ⟨vp_of (a := (v1.toInt + 7)) e19 (by omega) (by omega), ?_⟩
          refine ⟨fun c22 => ?_, fun c22 => ?_⟩
          · skip
            have d23 : ¬ (((I 102 (Int32.toNatClampNeg (v1 + 7))).toInt) : Int) = (62) := ci_ne rfl rfl c22
            refine ⟨fun c24 => ?_, fun c24 => ?_⟩
            · skip
              rw [lg_cmp_eq] at c24
              have d25 : ¬ (((y15 : Int64).toInt) : Int) = ((((Int32.toInt64 (I 102 (Int32.toNatClampNeg (v1 + 6)))) * 2329089562800) : Int64).toInt) := cl_ne rfl rfl c24
              refine ⟨Or.inl rfl, ?_⟩
              exact hQ _ _ _ _ hB0 rfl
            · skip
              rw [lg_cmp_eq] at c24
              have d26 : (((y15 : Int64).toInt) : Int) = ((((Int32.toInt64 (I 102 (Int32.toNatClampNeg (v1 + 6)))) * 2329089562800) : Int64).toInt) := cl_eq rfl rfl c24
              refine ⟨Or.inr rfl, ?_⟩
              exact hQ _ _ _ _ hB0 rfl
          · skip
            have d27 : (((I 102 (Int32.toNatClampNeg (v1 + 7))).toInt) : Int) = (62) := ci_eq rfl rfl c22
            refine ⟨fun c28 => ?_, fun c28 => ?_⟩
            · skip
              rw [lg_cmp_le] at c28
              have d29 : (((y15 : Int64).toInt) : Int) ≤ ((((Int32.toInt64 (I 102 (Int32.toNatClampNeg (v1 + 6)))) * 2329089562800) : Int64).toInt) := cl_le rfl rfl c28
              refine ⟨Or.inl rfl, ?_⟩
              exact hQ _ _ _ _ hB0 rfl
            · skip
              rw [lg_cmp_le] at c28
              have d30 : (((((Int32.toInt64 (I 102 (Int32.toNatClampNeg (v1 + 6)))) * 2329089562800) : Int64).toInt) : Int) < ((y15 : Int64).toInt) := cl_nle rfl rfl c28
              refine ⟨Or.inr rfl, ?_⟩
              exact hQ _ _ _ _ hB0 rfl
        · skip
          have d31 : (((I 102 (Int32.toNatClampNeg (v1 + 7))).toInt) : Int) = (60) := ci_eq rfl rfl c20
          refine ⟨fun c32 => ?_, fun c32 => ?_⟩
          · skip
            rw [lg_cmp_ge] at c32
            have d33 : (((((Int32.toInt64 (I 102 (Int32.toNatClampNeg (v1 + 6)))) * 2329089562800) : Int64).toInt) : Int) ≤ ((y15 : Int64).toInt) := cl_le rfl rfl c32
            refine ⟨Or.inl rfl, ?_⟩
            exact hQ _ _ _ _ hB0 rfl
          · skip
            rw [lg_cmp_ge] at c32
            have d34 : (((y15 : Int64).toInt) : Int) < ((((Int32.toInt64 (I 102 (Int32.toNatClampNeg (v1 + 6)))) * 2329089562800) : Int64).toInt) := cl_nle rfl rfl c32
            refine ⟨Or.inr rfl, ?_⟩
            exact hQ _ _ _ _ hB0 rfl
      · skip
        have d35 : (((I 102 (Int32.toNatClampNeg (v1 + 5))).toInt) : Int) = (1) := ci_eq rfl rfl c16
        have e36 : ((v1 + 6) : Int32).toInt = (v1.toInt) + (6) := ti_add rfl rfl (by omega)
        refine ⟨vp_of (a := (v1.toInt + 6)) e36 (by omega) (by omega), ?_⟩
        have e37 : ((v1 + 7) : Int32).toInt = (v1.toInt) + (7) := ti_add rfl rfl (by omega)
        refine ⟨vp_of (a := (v1.toInt + 7)) e37 (by omega) (by omega), ?_⟩
        refine ⟨fun c38 => ?_, fun c38 => ?_⟩
        · skip
          have d39 : ¬ (((I 102 (Int32.toNatClampNeg (v1 + 7))).toInt) : Int) = (60) := ci_ne rfl rfl c38
          refine ⟨vp_of (a := (v1.toInt + 7)) e37 (by omega) (by omega), ?_⟩
          refine ⟨fun c40 => ?_, fun c40 => ?_⟩
          · skip
            have d41 : ¬ (((I 102 (Int32.toNatClampNeg (v1 + 7))).toInt) : Int) = (62) := ci_ne rfl rfl c40
            refine ⟨fun c42 => ?_, fun c42 => ?_⟩
            · skip
              rw [lg_cmp_eq] at c42
              have i43 := i32 ((I 102 (Int32.toNatClampNeg (v1 + 6))))
              have d44 : ¬ (((y15 : Int64).toInt) : Int) = ((I 102 (Int32.toNatClampNeg (v1 + 6))).toInt) := cl_ne rfl (tl_i2l rfl) c42
              refine ⟨Or.inl rfl, ?_⟩
              exact hQ _ _ _ _ hB0 rfl
            · skip
              rw [lg_cmp_eq] at c42
              have i45 := i32 ((I 102 (Int32.toNatClampNeg (v1 + 6))))
              have d46 : (((y15 : Int64).toInt) : Int) = ((I 102 (Int32.toNatClampNeg (v1 + 6))).toInt) := cl_eq rfl (tl_i2l rfl) c42
              refine ⟨Or.inr rfl, ?_⟩
              exact hQ _ _ _ _ hB0 rfl
          · skip
            have d47 : (((I 102 (Int32.toNatClampNeg (v1 + 7))).toInt) : Int) = (62) := ci_eq rfl rfl c40
            refine ⟨fun c48 => ?_, fun c48 => ?_⟩
            · skip
              rw [lg_cmp_le] at c48
              have i49 := i32 ((I 102 (Int32.toNatClampNeg (v1 + 6))))
              have d50 : (((y15 : Int64).toInt) : Int) ≤ ((I 102 (Int32.toNatClampNeg (v1 + 6))).toInt) := cl_le rfl (tl_i2l rfl) c48
              refine ⟨Or.inl rfl, ?_⟩
              exact hQ _ _ _ _ hB0 rfl
            · skip
              rw [lg_cmp_le] at c48
              have i51 := i32 ((I 102 (Int32.toNatClampNeg (v1 + 6))))
              have d52 : (((I 102 (Int32.toNatClampNeg (v1 + 6))).toInt) : Int) < ((y15 : Int64).toInt) := cl_nle rfl (tl_i2l rfl) c48
              refine ⟨Or.inr rfl, ?_⟩
              exact hQ _ _ _ _ hB0 rfl
        · skip
          have d53 : (((I 102 (Int32.toNatClampNeg (v1 + 7))).toInt) : Int) = (60) := ci_eq rfl rfl c38
          refine ⟨fun c54 => ?_, fun c54 => ?_⟩
          · skip
            rw [lg_cmp_ge] at c54
            have i55 := i32 ((I 102 (Int32.toNatClampNeg (v1 + 6))))
            have d56 : (((I 102 (Int32.toNatClampNeg (v1 + 6))).toInt) : Int) ≤ ((y15 : Int64).toInt) := cl_le (tl_i2l rfl) rfl c54
            refine ⟨Or.inl rfl, ?_⟩
            exact hQ _ _ _ _ hB0 rfl
          · skip
            rw [lg_cmp_ge] at c54
            have i57 := i32 ((I 102 (Int32.toNatClampNeg (v1 + 6))))
            have d58 : (((y15 : Int64).toInt) : Int) < ((I 102 (Int32.toNatClampNeg (v1 + 6))).toInt) := cl_nle (tl_i2l rfl) rfl c54
            refine ⟨Or.inr rfl, ?_⟩
            exact hQ _ _ _ _ hB0 rfl
    · skip
      have d59 : (((I 102 (Int32.toNatClampNeg (v1 + 5))).toInt) : Int) = (1) := ci_eq rfl rfl c7
      have e60 : ((4 + (I 102 (Int32.toNatClampNeg (v1 + 1)))) : Int32).toInt = (4) + ((I 102 (Int32.toNatClampNeg (v1 + 1))).toInt) := ti_add rfl rfl (by omega)
      have e61 : (((4 + (I 102 (Int32.toNatClampNeg (v1 + 1)))) - 1) : Int32).toInt = ((4 + (I 102 (Int32.toNatClampNeg (v1 + 1))).toInt)) - (1) := ti_sub e60 rfl (by omega)
      refine ⟨vp_of (a := ((4 + (I 102 (Int32.toNatClampNeg (v1 + 1))).toInt) - 1)) e61 (by omega) (by omega), ?_⟩
      refine ⟨fun c62 => ?_, fun c62 => ?_⟩
      · skip
        have d63 : ¬ (((I 102 (Int32.toNatClampNeg (v1 + 5))).toInt) : Int) = (1) := ci_ne rfl rfl c62
        have e64 : ((v1 + 6) : Int32).toInt = (v1.toInt) + (6) := ti_add rfl rfl (by omega)
        refine ⟨vp_of (a := (v1.toInt + 6)) e64 (by omega) (by omega), ?_⟩
        have e65 : ((v1 + 7) : Int32).toInt = (v1.toInt) + (7) := ti_add rfl rfl (by omega)
        refine ⟨vp_of (a := (v1.toInt + 7)) e65 (by omega) (by omega), ?_⟩
        refine ⟨fun c66 => ?_, fun c66 => ?_⟩
        · skip
          have d67 : ¬ (((I 102 (Int32.toNatClampNeg (v1 + 7))).toInt) : Int) = (60) := ci_ne rfl rfl c66
          refine ⟨vp_of (a := (v1.toInt + 7)) e65 (by omega) (by omega), ?_⟩
          refine ⟨fun c68 => ?_, fun c68 => ?_⟩
          · skip
            have d69 : ¬ (((I 102 (Int32.toNatClampNeg (v1 + 7))).toInt) : Int) = (62) := ci_ne rfl rfl c68
            refine ⟨fun c70 => ?_, fun c70 => ?_⟩
            · skip
              rw [lg_cmp_eq] at c70
              have i71 := i32 ((I 102 (Int32.toNatClampNeg ((4 + (I 102 (Int32.toNatClampNeg (v1 + 1)))) - 1))))
              have d72 : ¬ (((I 102 (Int32.toNatClampNeg ((4 + (I 102 (Int32.toNatClampNeg (v1 + 1)))) - 1))).toInt) : Int) = ((((Int32.toInt64 (I 102 (Int32.toNatClampNeg (v1 + 6)))) * 2329089562800) : Int64).toInt) := cl_ne (tl_i2l rfl) rfl c70
              refine ⟨Or.inl rfl, ?_⟩
              exact hQ _ _ _ _ hB0 rfl
            · skip
              rw [lg_cmp_eq] at c70
              have i73 := i32 ((I 102 (Int32.toNatClampNeg ((4 + (I 102 (Int32.toNatClampNeg (v1 + 1)))) - 1))))
              have d74 : (((I 102 (Int32.toNatClampNeg ((4 + (I 102 (Int32.toNatClampNeg (v1 + 1)))) - 1))).toInt) : Int) = ((((Int32.toInt64 (I 102 (Int32.toNatClampNeg (v1 + 6)))) * 2329089562800) : Int64).toInt) := cl_eq (tl_i2l rfl) rfl c70
              refine ⟨Or.inr rfl, ?_⟩
              exact hQ _ _ _ _ hB0 rfl
          · skip
            have d75 : (((I 102 (Int32.toNatClampNeg (v1 + 7))).toInt) : Int) = (62) := ci_eq rfl rfl c68
            refine ⟨fun c76 => ?_, fun c76 => ?_⟩
            · skip
              rw [lg_cmp_le] at c76
              have i77 := i32 ((I 102 (Int32.toNatClampNeg ((4 + (I 102 (Int32.toNatClampNeg (v1 + 1)))) - 1))))
              have d78 : (((I 102 (Int32.toNatClampNeg ((4 + (I 102 (Int32.toNatClampNeg (v1 + 1)))) - 1))).toInt) : Int) ≤ ((((Int32.toInt64 (I 102 (Int32.toNatClampNeg (v1 + 6)))) * 2329089562800) : Int64).toInt) := cl_le (tl_i2l rfl) rfl c76
              refine ⟨Or.inl rfl, ?_⟩
              exact hQ _ _ _ _ hB0 rfl
            · skip
              rw [lg_cmp_le] at c76
              have i79 := i32 ((I 102 (Int32.toNatClampNeg ((4 + (I 102 (Int32.toNatClampNeg (v1 + 1)))) - 1))))
              have d80 : (((((Int32.toInt64 (I 102 (Int32.toNatClampNeg (v1 + 6)))) * 2329089562800) : Int64).toInt) : Int) < ((I 102 (Int32.toNatClampNeg ((4 + (I 102 (Int32.toNatClampNeg (v1 + 1)))) - 1))).toInt) := cl_nle (tl_i2l rfl) rfl c76
              refine ⟨Or.inr rfl, ?_⟩
              exact hQ _ _ _ _ hB0 rfl
        · skip
          have d81 : (((I 102 (Int32.toNatClampNeg (v1 + 7))).toInt) : Int) = (60) := ci_eq rfl rfl c66
          refine ⟨fun c82 => ?_, fun c82 => ?_⟩
          · skip
            rw [lg_cmp_ge] at c82
            have i83 := i32 ((I 102 (Int32.toNatClampNeg ((4 + (I 102 (Int32.toNatClampNeg (v1 + 1)))) - 1))))
            have d84 : (((((Int32.toInt64 (I 102 (Int32.toNatClampNeg (v1 + 6)))) * 2329089562800) : Int64).toInt) : Int) ≤ ((I 102 (Int32.toNatClampNeg ((4 + (I 102 (Int32.toNatClampNeg (v1 + 1)))) - 1))).toInt) := cl_le rfl (tl_i2l rfl) c82
            refine ⟨Or.inl rfl, ?_⟩
            exact hQ _ _ _ _ hB0 rfl
          · skip
            rw [lg_cmp_ge] at c82
            have i85 := i32 ((I 102 (Int32.toNatClampNeg ((4 + (I 102 (Int32.toNatClampNeg (v1 + 1)))) - 1))))
            have d86 : (((I 102 (Int32.toNatClampNeg ((4 + (I 102 (Int32.toNatClampNeg (v1 + 1)))) - 1))).toInt) : Int) < ((((Int32.toInt64 (I 102 (Int32.toNatClampNeg (v1 + 6)))) * 2329089562800) : Int64).toInt) := cl_nle rfl (tl_i2l rfl) c82
            refine ⟨Or.inr rfl, ?_⟩
            exact hQ _ _ _ _ hB0 rfl
      · skip
        have d87 : (((I 102 (Int32.toNatClampNeg (v1 + 5))).toInt) : Int) = (1) := ci_eq rfl rfl c62
        have e88 : ((v1 + 6) : Int32).toInt = (v1.toInt) + (6) := ti_add rfl rfl (by omega)
        refine ⟨vp_of (a := (v1.toInt + 6)) e88 (by omega) (by omega), ?_⟩
        have e89 : ((v1 + 7) : Int32).toInt = (v1.toInt) + (7) := ti_add rfl rfl (by omega)
        refine ⟨vp_of (a := (v1.toInt + 7)) e89 (by omega) (by omega), ?_⟩
        refine ⟨fun c90 => ?_, fun c90 => ?_⟩
        · skip
          have d91 : ¬ (((I 102 (Int32.toNatClampNeg (v1 + 7))).toInt) : Int) = (60) := ci_ne rfl rfl c90
          refine ⟨vp_of (a := (v1.toInt + 7)) e89 (by omega) (by omega), ?_⟩
          refine ⟨fun c92 => ?_, fun c92 => ?_⟩
          · skip
            have d93 : ¬ (((I 102 (Int32.toNatClampNeg (v1 + 7))).toInt) : Int) = (62) := ci_ne rfl rfl c92
            refine ⟨fun c94 => ?_, fun c94 => ?_⟩
            · skip
              rw [lg_cmp_eq] at c94
              have i95 := i32 ((I 102 (Int32.toNatClampNeg ((4 + (I 102 (Int32.toNatClampNeg (v1 + 1)))) - 1))))
              have i96 := i32 ((I 102 (Int32.toNatClampNeg (v1 + 6))))
              have d97 : ¬ (((I 102 (Int32.toNatClampNeg ((4 + (I 102 (Int32.toNatClampNeg (v1 + 1)))) - 1))).toInt) : Int) = ((I 102 (Int32.toNatClampNeg (v1 + 6))).toInt) := cl_ne (tl_i2l rfl) (tl_i2l rfl) c94
              refine ⟨Or.inl rfl, ?_⟩
              exact hQ _ _ _ _ hB0 rfl
            · skip
              rw [lg_cmp_eq] at c94
              have i98 := i32 ((I 102 (Int32.toNatClampNeg ((4 + (I 102 (Int32.toNatClampNeg (v1 + 1)))) - 1))))
              have i99 := i32 ((I 102 (Int32.toNatClampNeg (v1 + 6))))
              have d100 : (((I 102 (Int32.toNatClampNeg ((4 + (I 102 (Int32.toNatClampNeg (v1 + 1)))) - 1))).toInt) : Int) = ((I 102 (Int32.toNatClampNeg (v1 + 6))).toInt) := cl_eq (tl_i2l rfl) (tl_i2l rfl) c94
              refine ⟨Or.inr rfl, ?_⟩
              exact hQ _ _ _ _ hB0 rfl
          · skip
            have d101 : (((I 102 (Int32.toNatClampNeg (v1 + 7))).toInt) : Int) = (62) := ci_eq rfl rfl c92
            refine ⟨fun c102 => ?_, fun c102 => ?_⟩
            · skip
              rw [lg_cmp_le] at c102
              have i103 := i32 ((I 102 (Int32.toNatClampNeg ((4 + (I 102 (Int32.toNatClampNeg (v1 + 1)))) - 1))))
              have i104 := i32 ((I 102 (Int32.toNatClampNeg (v1 + 6))))
              have d105 : (((I 102 (Int32.toNatClampNeg ((4 + (I 102 (Int32.toNatClampNeg (v1 + 1)))) - 1))).toInt) : Int) ≤ ((I 102 (Int32.toNatClampNeg (v1 + 6))).toInt) := cl_le (tl_i2l rfl) (tl_i2l rfl) c102
              refine ⟨Or.inl rfl, ?_⟩
              exact hQ _ _ _ _ hB0 rfl
            · skip
              rw [lg_cmp_le] at c102
              have i106 := i32 ((I 102 (Int32.toNatClampNeg ((4 + (I 102 (Int32.toNatClampNeg (v1 + 1)))) - 1))))
              have i107 := i32 ((I 102 (Int32.toNatClampNeg (v1 + 6))))
              have d108 : (((I 102 (Int32.toNatClampNeg (v1 + 6))).toInt) : Int) < ((I 102 (Int32.toNatClampNeg ((4 + (I 102 (Int32.toNatClampNeg (v1 + 1)))) - 1))).toInt) := cl_nle (tl_i2l rfl) (tl_i2l rfl) c102
              refine ⟨Or.inr rfl, ?_⟩
              exact hQ _ _ _ _ hB0 rfl
        · skip
          have d109 : (((I 102 (Int32.toNatClampNeg (v1 + 7))).toInt) : Int) = (60) := ci_eq rfl rfl c90
          refine ⟨fun c110 => ?_, fun c110 => ?_⟩
          · skip
            rw [lg_cmp_ge] at c110
            have i111 := i32 ((I 102 (Int32.toNatClampNeg ((4 + (I 102 (Int32.toNatClampNeg (v1 + 1)))) - 1))))
            have i112 := i32 ((I 102 (Int32.toNatClampNeg (v1 + 6))))
            have d113 : (((I 102 (Int32.toNatClampNeg (v1 + 6))).toInt) : Int) ≤ ((I 102 (Int32.toNatClampNeg ((4 + (I 102 (Int32.toNatClampNeg (v1 + 1)))) - 1))).toInt) := cl_le (tl_i2l rfl) (tl_i2l rfl) c110
            refine ⟨Or.inl rfl, ?_⟩
            exact hQ _ _ _ _ hB0 rfl
          · skip
            rw [lg_cmp_ge] at c110
            have i114 := i32 ((I 102 (Int32.toNatClampNeg ((4 + (I 102 (Int32.toNatClampNeg (v1 + 1)))) - 1))))
            have i115 := i32 ((I 102 (Int32.toNatClampNeg (v1 + 6))))
            have d116 : (((I 102 (Int32.toNatClampNeg ((4 + (I 102 (Int32.toNatClampNeg (v1 + 1)))) - 1))).toInt) : Int) < ((I 102 (Int32.toNatClampNeg (v1 + 6))).toInt) := cl_nle (tl_i2l rfl) (tl_i2l rfl) c110
            refine ⟨Or.inr rfl, ?_⟩
            exact hQ _ _ _ _ hB0 rfl
  · skip
    have d117 : (((I 102 (Int32.toNatClampNeg (v1 + 5))).toInt) : Int) = (0) := ci_eq rfl rfl c5
    have b118 := (Bd.c hB0 (j := 0) (z := 0) rfl).1 (by decide)
    refine sp_X12_lackOf hB0 hR0 (by have z : ((I 102 (Int32.toNatClampNeg (v1 + 1))) : Int32).toInt = (I 102 (Int32.toNatClampNeg (v1 + 1))).toInt := rfl; have z2 : ((I 102 0) : Int32).toInt = (I 102 0).toInt := rfl; have z3 := Bd.men hB0; omega) (fun x119 y124 I120 J121 hB122 p123 => ?_)
    subst p123
    refine ⟨fun c125 => ?_, fun c125 => ?_⟩
    · skip
      rw [lg_cmp_eq] at c125
      have d126 : ¬ (((y124 : Int64).toInt) : Int) = (0) := cl_ne rfl rfl c125
      refine ⟨Or.inl rfl, ?_⟩
      exact hQ _ _ _ _ hB0 rfl
    · skip
      rw [lg_cmp_eq] at c125
      have d127 : (((y124 : Int64).toInt) : Int) = (0) := cl_eq rfl rfl c125
      refine ⟨Or.inr rfl, ?_⟩
      exact hQ _ _ _ _ hB0 rfl
