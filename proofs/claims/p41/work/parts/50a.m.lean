set_option maxHeartbeats 2000000 in
theorem sp_X12_trims {d : Nat} {Q : Qt} {v0 : Int32} {v1 : Int64} {I : Im} {J : Jm} {R : Rm} (hB0 : Bd I) (hR0 : RI R) (hQ : ∀ (x : Int32) (y : Int64) (I2 : Im) (J2 : Jm), Bd I2 → (I = I2) → Q x y I2 J2 R) : AM (d + 1) 180 112 [.int v0, .long v1] I J R Q := by
  have i_v0 := i32 v0
  have i_v1 := i64 v1
  refine w_X12_trims ?_
  refine ⟨fun c1 => ?_, fun c1 => ?_⟩
  · skip
    have d2 : ¬ ((v0.toInt) : Int) = (0) := ci_ne rfl rfl c1
    refine ⟨fun c3 => ?_, fun c3 => ?_⟩
    · skip
      have d4 : ¬ ((v0.toInt) : Int) = (1) := ci_ne rfl rfl c3
      refine ⟨fun c5 => ?_, fun c5 => ?_⟩
      · skip
        have d6 : ¬ ((v0.toInt) : Int) = (2) := ci_ne rfl rfl c5
        exact hQ _ _ _ _ hB0 rfl
      · skip
        have d7 : ((v0.toInt) : Int) = (2) := ci_eq rfl rfl c5
        exact hQ _ _ _ _ hB0 rfl
    · skip
      have d8 : ((v0.toInt) : Int) = (1) := ci_eq rfl rfl c3
      exact hQ _ _ _ _ hB0 rfl
  · skip
    have d9 : ((v0.toInt) : Int) = (0) := ci_eq rfl rfl c1
    exact hQ _ _ _ _ hB0 rfl
set_option maxHeartbeats 2000000 in
theorem sp_X12_tray {d : Nat} {Q : Qt} {v1 : Int32} {v2 : Int32} {v3 : Int32} {I : Im} {J : Jm} {R : Rm} (hB0 : Bd I) (hR0 : RI R) (hQ : ∀ (x : Int32) (y : Int64) (I2 : Im) (J2 : Jm), Bd I2 → (((0 ≤ x.toInt ∧ x.toInt ≤ 1 ∧ (x.toInt = 1 → 0 ≤ v1.toInt ∧ v1.toInt ≤ 3 ∧ 0 ≤ v2.toInt ∧ v2.toInt ≤ 3 ∧ 0 ≤ v3.toInt ∧ v3.toInt ≤ 60) ∧ (0 ≤ v1.toInt ∧ v1.toInt ≤ 3 ∧ 0 ≤ v2.toInt ∧ v2.toInt ≤ 3 ∧ 0 ≤ v3.toInt ∧ v3.toInt ≤ 60 → x.toInt = 1)) ∧ ((x.toInt = 1 ∧ TE I I2 v1 v2 v3) ∨ (x.toInt = 0 ∧ K9 I I2)))) → Q x y I2 J2 R) : AM (d + 2) 181 112 [.ref 97, .int v1, .int v2, .int v3] I J R Q := by
  have i_v1 := i32 v1
  have i_v2 := i32 v2
  have i_v3 := i32 v3
  refine am_X12_tray (fun P hc => ?_)
  have L : ∀ n : Nat, (∀ (v4 : Int32) (M : Im) (JM : Jm), Bd M → (TE I M v1 v2 v3) → (0 ≤ v2.toInt ∧ v2.toInt ≤ 3 ∧ 0 ≤ v1.toInt ∧ v1.toInt ≤ 3 ∧ 0 ≤ v3.toInt ∧ v3.toInt ≤ 60 ∧ 0 ≤ v4.toInt ∧ v4.toInt ≤ v3.toInt) → 100 - v4.toInt < (n : Int) → P 74 112 [(0, .ref 97), (1, .int v1), (3, .int v3), (4, .int v4)] [] M JM R) := by
    intro n
    induction n with
    | zero =>
      exact fun v4 M J _ _ hi hm => absurd hm (by omega)
    | succ n ih =>
      intro v4 M JM hB hq_0 hi hm
      have i_v1 := i32 v1
      have i_v3 := i32 v3
      have i_v4 := i32 v4
      refine sg_X12_tray_74 hc _ _ _ _ _ _ ?_
      refine ⟨fun c1 => ?_, fun c1 => ?_⟩
      · skip
        have d2 : ((v3.toInt) : Int) ≤ (v4.toInt) := ci_le rfl rfl c1
        refine ⟨Or.inr rfl, ?_⟩
        exact hQ _ _ _ _ hB ⟨(by have q0 : (1 : Int32).toInt = 1 := rfl; omega), Or.inl ⟨rfl, hq_0⟩⟩
      · skip
        have d3 : ((v4.toInt) : Int) < (v3.toInt) := ci_nle rfl rfl c1
        have e4 : ((60 * v1) : Int32).toInt = (60) * (v1.toInt) := ti_mul rfl rfl (by omega)
        have e5 : (((60 * v1) + v4) : Int32).toInt = ((60 * v1.toInt)) + (v4.toInt) := ti_add e4 rfl (by omega)
        refine ⟨vp_of (a := ((60 * v1.toInt) + v4.toInt)) e5 (by omega) (by omega), ?_⟩
        have e6 : ((v4 + 1) : Int32).toInt = (v4.toInt) + (1) := ti_add rfl rfl (by omega)
        have hv7 : TE I M v1 v2 v3 := hq_0
        exact ih _ _ _ hB hv7 (by have q0 : ((v4 + 1) : Int32).toInt = (v4.toInt + 1) := e6; omega) (by have q0 : ((v4 + 1) : Int32).toInt = (v4.toInt + 1) := e6; omega)
  refine sg_X12_tray_0 hc _ _ _ _ _ _ ?_
  have hB8 : Bd (uI I 97 1 0) := Bd.o0 hB0 io9_112_97_12 (by decide) bd9_12_1
  have hB9 : Bd (uI (uI I 97 1 0) 97 0 0) := Bd.o0 hB8 io9_112_97_12 (by decide) bd9_12_0
  refine ⟨fun c10 => ?_, fun c10 => ?_⟩
  · skip
    have d11 : ((v1.toInt) : Int) < (0) := ci_lt rfl rfl c10
    refine w_X12_no ?_
    have hB12 : Bd (uI (uI (uI I 97 1 0) 97 0 0) 97 0 1) := Bd.o0 hB9 io9_112_97_12 (by decide) bd9_12_0
    refine ⟨Or.inl rfl, ?_⟩
    intro o13
    refine ⟨Or.inl rfl, ?_⟩
    exact hQ _ _ _ _ hB12 ⟨(by have q0 : (0 : Int32).toInt = 0 := rfl; omega), Or.inr ⟨rfl, rfl, rfl⟩⟩
  · skip
    have d14 : ((0) : Int) ≤ (v1.toInt) := ci_nlt rfl rfl c10
    refine ⟨fun c15 => ?_, fun c15 => ?_⟩
    · skip
      have d16 : ((4) : Int) ≤ (v1.toInt) := ci_le rfl rfl c15
      refine w_X12_no ?_
      have hB17 : Bd (uI (uI (uI I 97 1 0) 97 0 0) 97 0 1) := Bd.o0 hB9 io9_112_97_12 (by decide) bd9_12_0
      refine ⟨Or.inl rfl, ?_⟩
      intro o18
      refine ⟨Or.inl rfl, ?_⟩
      exact hQ _ _ _ _ hB17 ⟨(by have q0 : (0 : Int32).toInt = 0 := rfl; omega), Or.inr ⟨rfl, rfl, rfl⟩⟩
    · skip
      have d19 : ((v1.toInt) : Int) < (4) := ci_nle rfl rfl c15
      refine ⟨fun c20 => ?_, fun c20 => ?_⟩
      · skip
        have d21 : ((v2.toInt) : Int) < (0) := ci_lt rfl rfl c20
        refine w_X12_no ?_
        have hB22 : Bd (uI (uI (uI I 97 1 0) 97 0 0) 97 0 1) := Bd.o0 hB9 io9_112_97_12 (by decide) bd9_12_0
        refine ⟨Or.inl rfl, ?_⟩
        intro o23
        refine ⟨Or.inl rfl, ?_⟩
        exact hQ _ _ _ _ hB22 ⟨(by have q0 : (0 : Int32).toInt = 0 := rfl; omega), Or.inr ⟨rfl, rfl, rfl⟩⟩
      · skip
        have d24 : ((0) : Int) ≤ (v2.toInt) := ci_nlt rfl rfl c20
        refine ⟨fun c25 => ?_, fun c25 => ?_⟩
        · skip
          have d26 : ((v2.toInt) : Int) ≤ (3) := ci_le rfl rfl c25
          refine ⟨fun c27 => ?_, fun c27 => ?_⟩
          · skip
            have d28 : ((v3.toInt) : Int) ≤ (60) := ci_le rfl rfl c27
            refine ⟨fun c29 => ?_, fun c29 => ?_⟩
            · skip
              have d30 : ((0) : Int) ≤ (v3.toInt) := ci_le rfl rfl c29
              refine ⟨vp_of (a := v1.toInt) rfl (by first | (clear d24 d26 d28 d30; omega) | omega) (by first | (clear d24 d26 d28 d30; omega) | omega), ?_⟩
              have hB31 : Bd (uI (uI (uI I 97 1 0) 97 0 0) 98 (Int32.toNatClampNeg v1) v2) := Bd.a0 hB9 (show isA 112 98 0 = true from rfl) (show bna 98 = none from rfl)
              refine ⟨vp_of (a := v1.toInt) rfl (by first | (clear d24 d26 d28 d30; omega) | omega) (by first | (clear d24 d26 d28 d30; omega) | omega), ?_⟩
              have hB32 : Bd (uI (uI (uI (uI I 97 1 0) 97 0 0) 98 (Int32.toNatClampNeg v1) v2) 99 (Int32.toNatClampNeg v1) v3) := Bd.a1 hB31 (show isA 112 99 0 = true from rfl) (show bna 99 = some _ from rfl) (show (v3 : Int32).toInt = v3.toInt from rfl) (by omega)
              have hv33 : TE I (uI (uI (uI (uI I 97 1 0) 97 0 0) 98 (Int32.toNatClampNeg v1) v2) 99 (Int32.toNatClampNeg v1) v3) v1 v2 v3 := ⟨rfl, rfl⟩
              exact (L 1000000) _ _ _ hB32 hv33 (by have q0 : (0 : Int32).toInt = 0 := rfl; omega) (by have q0 : (0 : Int32).toInt = 0 := rfl; omega)
            · skip
              have d34 : ((v3.toInt) : Int) < (0) := ci_nle rfl rfl c29
              refine w_X12_no ?_
              have hB35 : Bd (uI (uI (uI I 97 1 0) 97 0 0) 97 0 6) := Bd.o0 hB9 io9_112_97_12 (by decide) bd9_12_0
              refine ⟨Or.inl rfl, ?_⟩
              intro o36
              refine ⟨Or.inl rfl, ?_⟩
              exact hQ _ _ _ _ hB35 ⟨(by have q0 : (0 : Int32).toInt = 0 := rfl; omega), Or.inr ⟨rfl, rfl, rfl⟩⟩
          · skip
            have d37 : ((60) : Int) < (v3.toInt) := ci_nle rfl rfl c27
            refine w_X12_no ?_
            have hB38 : Bd (uI (uI (uI I 97 1 0) 97 0 0) 97 0 5) := Bd.o0 hB9 io9_112_97_12 (by decide) bd9_12_0
            refine ⟨Or.inl rfl, ?_⟩
            intro o39
            refine ⟨Or.inl rfl, ?_⟩
            exact hQ _ _ _ _ hB38 ⟨(by have q0 : (0 : Int32).toInt = 0 := rfl; omega), Or.inr ⟨rfl, rfl, rfl⟩⟩
        · skip
          have d40 : ((3) : Int) < (v2.toInt) := ci_nle rfl rfl c25
          refine w_X12_no ?_
          have hB41 : Bd (uI (uI (uI I 97 1 0) 97 0 0) 97 0 1) := Bd.o0 hB9 io9_112_97_12 (by decide) bd9_12_0
          refine ⟨Or.inl rfl, ?_⟩
          intro o42
          refine ⟨Or.inl rfl, ?_⟩
          exact hQ _ _ _ _ hB41 ⟨(by have q0 : (0 : Int32).toInt = 0 := rfl; omega), Or.inr ⟨rfl, rfl, rfl⟩⟩
set_option maxHeartbeats 2000000 in
theorem sp_X12_write {d : Nat} {Q : Qt} {v1 : Int32} {v2 : Int32} {v3 : Int64} {I : Im} {J : Jm} {R : Rm} (hB0 : Bd I) (hR0 : RI R) (hQ : ∀ (x : Int32) (y : Int64) (I2 : Im) (J2 : Jm), Bd I2 → ((((x.toInt = 1 ∧ 0 ≤ v1.toInt ∧ v1.toInt ≤ 3 ∧ 0 ≤ v2.toInt ∧ v2.toInt < (I 99 (Int32.toNatClampNeg v1)).toInt) ∨ (x.toInt = 0 ∧ (v1.toInt < 0 ∨ 3 < v1.toInt ∨ v2.toInt < 0 ∨ (I 99 (Int32.toNatClampNeg v1)).toInt ≤ v2.toInt))) ∧ K9 I I2)) → Q x y I2 J2 R) : AM (d + 3) 184 112 [.ref 97, .int v1, .int v2, .long v3] I J R Q := by
  have i_v1 := i32 v1
  have i_v2 := i32 v2
  have i_v3 := i64 v3
  refine w_X12_write ?_
  have hB1 : Bd (uI I 97 1 0) := Bd.o0 hB0 io9_112_97_12 (by decide) bd9_12_1
  refine w_X12_placed ?_
  refine w_X12_trayed ?_
  refine ⟨fun c2 => ?_, fun c2 => ?_⟩
  · skip
    have d3 : ((v1.toInt) : Int) < (0) := ci_lt rfl rfl c2
    refine ⟨fun c4 => ?_, fun c4 => ?_⟩
    · exact absurd c4 (by decide)
    · skip
      have hB5 : Bd (uI (uI I 97 1 0) 97 0 1) := Bd.o0 hB1 io9_112_97_12 (by decide) bd9_12_0
      refine ⟨fun c6 => ?_, fun c6 => ?_⟩
      · skip
        have e7 : (((uI (uI I 97 1 0) 97 0 1) 97 0) : Int32).toInt = 1 := Eq.trans (congrArg Int32.toInt rd_eq) rfl
        have d8 : ((1) : Int) ≤ (0) := ci_le e7 rfl c6
        refine ⟨vp_of (a := v1.toInt) rfl (by omega) (by omega), ?_⟩
        refine sp_X12_trims hB5 hR0 (fun x9 y14 I10 J11 hB12 p13 => ?_)
        subst p13
        have e15 : ((60 * v1) : Int32).toInt = (60) * (v1.toInt) := ti_mul rfl rfl (by omega)
        have e16 : (((60 * v1) + v2) : Int32).toInt = ((60 * v1.toInt)) + (v2.toInt) := ti_add e15 rfl (by omega)
        refine ⟨vp_of (a := ((60 * v1.toInt) + v2.toInt)) e16 (by omega) (by omega), ?_⟩
        refine ⟨Or.inr rfl, ?_⟩
        exact hQ _ _ _ _ hB5 ⟨(by have q0 : (1 : Int32).toInt = 1 := rfl; omega), ⟨rfl, rfl⟩⟩
      · skip
        have e17 : (((uI (uI I 97 1 0) 97 0 1) 97 0) : Int32).toInt = 1 := Eq.trans (congrArg Int32.toInt rd_eq) rfl
        have d18 : ((0) : Int) < (1) := ci_nle e17 rfl c6
        refine ⟨Or.inl rfl, ?_⟩
        exact hQ _ _ _ _ hB5 ⟨(by have q0 : (0 : Int32).toInt = 0 := rfl; omega), ⟨rfl, rfl⟩⟩
  · skip
    have d19 : ((0) : Int) ≤ (v1.toInt) := ci_nlt rfl rfl c2
    refine ⟨fun c20 => ?_, fun c20 => ?_⟩
    · skip
      have d21 : ((v1.toInt) : Int) < (4) := ci_lt rfl rfl c20
      refine ⟨vp_of (a := v1.toInt) rfl (by omega) (by omega), ?_⟩
      refine ⟨fun c22 => ?_, fun c22 => ?_⟩
      · skip
        have b23 := Bd.a hB0 (Int32.toNatClampNeg v1) (show bna 99 = some _ from rfl)
        have e24 : (((uI I 97 1 0) 99 (Int32.toNatClampNeg v1)) : Int32).toInt = (I 99 (Int32.toNatClampNeg v1)).toInt := Eq.trans (congrArg Int32.toInt (rd_ne (by first | decide | omega))) rfl
        have d25 : ((0) : Int) ≤ ((I 99 (Int32.toNatClampNeg v1)).toInt) := ci_le rfl e24 c22
        refine ⟨fun c26 => ?_, fun c26 => ?_⟩
        · skip
          refine ⟨fun c27 => ?_, fun c27 => ?_⟩
          · skip
            have d28 : ((v2.toInt) : Int) < (0) := ci_lt rfl rfl c27
            have hB29 : Bd (uI (uI I 97 1 0) 97 0 4) := Bd.o0 hB1 io9_112_97_12 (by decide) bd9_12_0
            refine ⟨fun c30 => ?_, fun c30 => ?_⟩
            · skip
              have e31 : (((uI (uI I 97 1 0) 97 0 4) 97 0) : Int32).toInt = 4 := Eq.trans (congrArg Int32.toInt rd_eq) rfl
              have d32 : ((4) : Int) ≤ (0) := ci_le e31 rfl c30
              refine ⟨vp_of (a := v1.toInt) rfl (by omega) (by omega), ?_⟩
              refine sp_X12_trims hB29 hR0 (fun x33 y38 I34 J35 hB36 p37 => ?_)
              subst p37
              have e39 : ((60 * v1) : Int32).toInt = (60) * (v1.toInt) := ti_mul rfl rfl (by first | (clear b23 d28 e31 p37; omega) | omega)
              have e40 : (((60 * v1) + v2) : Int32).toInt = ((60 * v1.toInt)) + (v2.toInt) := ti_add e39 rfl (by omega)
              refine ⟨vp_of (a := ((60 * v1.toInt) + v2.toInt)) e40 (by omega) (by omega), ?_⟩
              refine ⟨Or.inr rfl, ?_⟩
              exact hQ _ _ _ _ hB29 ⟨(by have q0 : (1 : Int32).toInt = 1 := rfl; omega), ⟨rfl, rfl⟩⟩
            · skip
              have e41 : (((uI (uI I 97 1 0) 97 0 4) 97 0) : Int32).toInt = 4 := Eq.trans (congrArg Int32.toInt rd_eq) rfl
              have d42 : ((0) : Int) < (4) := ci_nle e41 rfl c30
              refine ⟨Or.inl rfl, ?_⟩
              exact hQ _ _ _ _ hB29 ⟨(by have q0 : (0 : Int32).toInt = 0 := rfl; omega), ⟨rfl, rfl⟩⟩
          · skip
            have d43 : ((0) : Int) ≤ (v2.toInt) := ci_nlt rfl rfl c27
            refine ⟨vp_of (a := v1.toInt) rfl (by omega) (by omega), ?_⟩
            refine ⟨fun c44 => ?_, fun c44 => ?_⟩
            · skip
              have d45 : ((v2.toInt) : Int) < ((I 99 (Int32.toNatClampNeg v1)).toInt) := ci_lt rfl e24 c44
              have hB46 : Bd (uI (uI I 97 1 0) 97 0 0) := Bd.o0 hB1 io9_112_97_12 (by decide) bd9_12_0
              refine ⟨fun c47 => ?_, fun c47 => ?_⟩
              · skip
                have e48 : (((uI (uI I 97 1 0) 97 0 0) 97 0) : Int32).toInt = 0 := Eq.trans (congrArg Int32.toInt rd_eq) rfl
                have d49 : ((0) : Int) ≤ (0) := ci_le e48 rfl c47
                refine ⟨vp_of (a := v1.toInt) rfl (by omega) (by omega), ?_⟩
                refine sp_X12_trims hB46 hR0 (fun x50 y55 I51 J52 hB53 p54 => ?_)
                subst p54
                have e56 : ((60 * v1) : Int32).toInt = (60) * (v1.toInt) := ti_mul rfl rfl (by first | (clear b23 d43 e48 p54; omega) | omega)
                have e57 : (((60 * v1) + v2) : Int32).toInt = ((60 * v1.toInt)) + (v2.toInt) := ti_add e56 rfl (by omega)
                refine ⟨vp_of (a := ((60 * v1.toInt) + v2.toInt)) e57 (by omega) (by omega), ?_⟩
                refine ⟨Or.inr rfl, ?_⟩
                exact hQ _ _ _ _ hB46 ⟨(by have q0 : (1 : Int32).toInt = 1 := rfl; omega), ⟨rfl, rfl⟩⟩
              · skip
                have e58 : (((uI (uI I 97 1 0) 97 0 0) 97 0) : Int32).toInt = 0 := Eq.trans (congrArg Int32.toInt rd_eq) rfl
                have d59 : ((0) : Int) < (0) := ci_nle e58 rfl c47
                refine ⟨Or.inl rfl, ?_⟩
                exact hQ _ _ _ _ hB46 ⟨(by have q0 : (0 : Int32).toInt = 0 := rfl; omega), ⟨rfl, rfl⟩⟩
            · skip
              have d60 : (((I 99 (Int32.toNatClampNeg v1)).toInt) : Int) ≤ (v2.toInt) := ci_nlt rfl e24 c44
              have hB61 : Bd (uI (uI I 97 1 0) 97 0 4) := Bd.o0 hB1 io9_112_97_12 (by decide) bd9_12_0
              refine ⟨fun c62 => ?_, fun c62 => ?_⟩
              · skip
                have e63 : (((uI (uI I 97 1 0) 97 0 4) 97 0) : Int32).toInt = 4 := Eq.trans (congrArg Int32.toInt rd_eq) rfl
                have d64 : ((4) : Int) ≤ (0) := ci_le e63 rfl c62
                refine ⟨vp_of (a := v1.toInt) rfl (by omega) (by omega), ?_⟩
                refine sp_X12_trims hB61 hR0 (fun x65 y70 I66 J67 hB68 p69 => ?_)
                subst p69
                have e71 : ((60 * v1) : Int32).toInt = (60) * (v1.toInt) := ti_mul rfl rfl (by first | (clear b23 d43 e63 p69; omega) | omega)
                have e72 : (((60 * v1) + v2) : Int32).toInt = ((60 * v1.toInt)) + (v2.toInt) := ti_add e71 rfl (by omega)
                refine ⟨vp_of (a := ((60 * v1.toInt) + v2.toInt)) e72 (by omega) (by omega), ?_⟩
                refine ⟨Or.inr rfl, ?_⟩
                exact hQ _ _ _ _ hB61 ⟨(by have q0 : (1 : Int32).toInt = 1 := rfl; omega), ⟨rfl, rfl⟩⟩
              · skip
                have e73 : (((uI (uI I 97 1 0) 97 0 4) 97 0) : Int32).toInt = 4 := Eq.trans (congrArg Int32.toInt rd_eq) rfl
                have d74 : ((0) : Int) < (4) := ci_nle e73 rfl c62
                refine ⟨Or.inl rfl, ?_⟩
                exact hQ _ _ _ _ hB61 ⟨(by have q0 : (0 : Int32).toInt = 0 := rfl; omega), ⟨rfl, rfl⟩⟩
        · exact absurd c26 (by decide)
      · skip
        have b75 := Bd.a hB0 (Int32.toNatClampNeg v1) (show bna 99 = some _ from rfl)
        have e76 : (((uI I 97 1 0) 99 (Int32.toNatClampNeg v1)) : Int32).toInt = (I 99 (Int32.toNatClampNeg v1)).toInt := Eq.trans (congrArg Int32.toInt (rd_ne (by first | decide | omega))) rfl
        have d77 : (((I 99 (Int32.toNatClampNeg v1)).toInt) : Int) < (0) := ci_nle rfl e76 c22
        refine ⟨fun c78 => ?_, fun c78 => ?_⟩
        · exact absurd c78 (by decide)
        · skip
          have hB79 : Bd (uI (uI I 97 1 0) 97 0 3) := Bd.o0 hB1 io9_112_97_12 (by decide) bd9_12_0
          refine ⟨fun c80 => ?_, fun c80 => ?_⟩
          · skip
            have e81 : (((uI (uI I 97 1 0) 97 0 3) 97 0) : Int32).toInt = 3 := Eq.trans (congrArg Int32.toInt rd_eq) rfl
            have d82 : ((3) : Int) ≤ (0) := ci_le e81 rfl c80
            refine ⟨vp_of (a := v1.toInt) rfl (by omega) (by omega), ?_⟩
            refine sp_X12_trims hB79 hR0 (fun x83 y88 I84 J85 hB86 p87 => ?_)
            subst p87
            have e89 : ((60 * v1) : Int32).toInt = (60) * (v1.toInt) := ti_mul rfl rfl (by omega)
            have e90 : (((60 * v1) + v2) : Int32).toInt = ((60 * v1.toInt)) + (v2.toInt) := ti_add e89 rfl (by omega)
            refine ⟨vp_of (a := ((60 * v1.toInt) + v2.toInt)) e90 (by omega) (by omega), ?_⟩
            refine ⟨Or.inr rfl, ?_⟩
            exact hQ _ _ _ _ hB79 ⟨(by have q0 : (1 : Int32).toInt = 1 := rfl; omega), ⟨rfl, rfl⟩⟩
          · skip
            have e91 : (((uI (uI I 97 1 0) 97 0 3) 97 0) : Int32).toInt = 3 := Eq.trans (congrArg Int32.toInt rd_eq) rfl
            have d92 : ((0) : Int) < (3) := ci_nle e91 rfl c80
            refine ⟨Or.inl rfl, ?_⟩
            exact hQ _ _ _ _ hB79 ⟨(by have q0 : (0 : Int32).toInt = 0 := rfl; omega), ⟨rfl, rfl⟩⟩
    · skip
      have d93 : ((4) : Int) ≤ (v1.toInt) := ci_nlt rfl rfl c20
      refine ⟨fun c94 => ?_, fun c94 => ?_⟩
      · exact absurd c94 (by decide)
      · skip
        have hB95 : Bd (uI (uI I 97 1 0) 97 0 1) := Bd.o0 hB1 io9_112_97_12 (by decide) bd9_12_0
        refine ⟨fun c96 => ?_, fun c96 => ?_⟩
        · skip
          have e97 : (((uI (uI I 97 1 0) 97 0 1) 97 0) : Int32).toInt = 1 := Eq.trans (congrArg Int32.toInt rd_eq) rfl
          have d98 : ((1) : Int) ≤ (0) := ci_le e97 rfl c96
          refine ⟨vp_of (a := v1.toInt) rfl (by omega) (by omega), ?_⟩
          refine sp_X12_trims hB95 hR0 (fun x99 y104 I100 J101 hB102 p103 => ?_)
          subst p103
          have e105 : ((60 * v1) : Int32).toInt = (60) * (v1.toInt) := ti_mul rfl rfl (by omega)
          have e106 : (((60 * v1) + v2) : Int32).toInt = ((60 * v1.toInt)) + (v2.toInt) := ti_add e105 rfl (by omega)
          refine ⟨vp_of (a := ((60 * v1.toInt) + v2.toInt)) e106 (by omega) (by omega), ?_⟩
          refine ⟨Or.inr rfl, ?_⟩
          exact hQ _ _ _ _ hB95 ⟨(by have q0 : (1 : Int32).toInt = 1 := rfl; omega), ⟨rfl, rfl⟩⟩
        · skip
          have e107 : (((uI (uI I 97 1 0) 97 0 1) 97 0) : Int32).toInt = 1 := Eq.trans (congrArg Int32.toInt rd_eq) rfl
          have d108 : ((0) : Int) < (1) := ci_nle e107 rfl c96
          refine ⟨Or.inl rfl, ?_⟩
          exact hQ _ _ _ _ hB95 ⟨(by have q0 : (0 : Int32).toInt = 0 := rfl; omega), ⟨rfl, rfl⟩⟩
set_option maxHeartbeats 2000000 in
theorem sp_X12_read {d : Nat} {Q : Qt} {v1 : Int32} {v2 : Int32} {I : Im} {J : Jm} {R : Rm} (hB0 : Bd I) (hR0 : RI R) (hQ : ∀ (x : Int32) (y : Int64) (I2 : Im) (J2 : Jm), Bd I2 → (True) → Q x y I2 J2 R) : AM (d + 3) 185 112 [.ref 97, .int v1, .int v2] I J R Q := by
  have i_v1 := i32 v1
  have i_v2 := i32 v2
  refine w_X12_read ?_
  have hB1 : Bd (uI I 97 1 0) := Bd.o0 hB0 io9_112_97_12 (by decide) bd9_12_1
  refine w_X12_placed ?_
  refine w_X12_trayed ?_
  refine ⟨fun c2 => ?_, fun c2 => ?_⟩
  · skip
    have d3 : ((v1.toInt) : Int) < (0) := ci_lt rfl rfl c2
    refine ⟨fun c4 => ?_, fun c4 => ?_⟩
    · exact absurd c4 (by decide)
    · skip
      have hB5 : Bd (uI (uI I 97 1 0) 97 0 1) := Bd.o0 hB1 io9_112_97_12 (by decide) bd9_12_0
      refine ⟨fun c6 => ?_, fun c6 => ?_⟩
      · skip
        have e7 : (((uI (uI I 97 1 0) 97 0 1) 97 0) : Int32).toInt = 1 := Eq.trans (congrArg Int32.toInt rd_eq) rfl
        have d8 : ((1) : Int) ≤ (0) := ci_le e7 rfl c6
        have e9 : ((60 * v1) : Int32).toInt = (60) * (v1.toInt) := ti_mul rfl rfl (by omega)
        have e10 : (((60 * v1) + v2) : Int32).toInt = ((60 * v1.toInt)) + (v2.toInt) := ti_add e9 rfl (by omega)
        refine ⟨vp_of (a := ((60 * v1.toInt) + v2.toInt)) e10 (by omega) (by omega), ?_⟩
        exact hQ _ _ _ _ hB5 trivial
      · skip
        have e11 : (((uI (uI I 97 1 0) 97 0 1) 97 0) : Int32).toInt = 1 := Eq.trans (congrArg Int32.toInt rd_eq) rfl
        have d12 : ((0) : Int) < (1) := ci_nle e11 rfl c6
        exact hQ _ _ _ _ hB5 trivial
  · skip
    have d13 : ((0) : Int) ≤ (v1.toInt) := ci_nlt rfl rfl c2
    refine ⟨fun c14 => ?_, fun c14 => ?_⟩
    · skip
      have d15 : ((v1.toInt) : Int) < (4) := ci_lt rfl rfl c14
      refine ⟨vp_of (a := v1.toInt) rfl (by omega) (by omega), ?_⟩
      refine ⟨fun c16 => ?_, fun c16 => ?_⟩
      · skip
        have b17 := Bd.a hB0 (Int32.toNatClampNeg v1) (show bna 99 = some _ from rfl)
        have e18 : (((uI I 97 1 0) 99 (Int32.toNatClampNeg v1)) : Int32).toInt = (I 99 (Int32.toNatClampNeg v1)).toInt := Eq.trans (congrArg Int32.toInt (rd_ne (by first | decide | omega))) rfl
        have d19 : ((0) : Int) ≤ ((I 99 (Int32.toNatClampNeg v1)).toInt) := ci_le rfl e18 c16
        refine ⟨fun c20 => ?_, fun c20 => ?_⟩
        · skip
          refine ⟨fun c21 => ?_, fun c21 => ?_⟩
          · skip
            have d22 : ((v2.toInt) : Int) < (0) := ci_lt rfl rfl c21
            have hB23 : Bd (uI (uI I 97 1 0) 97 0 4) := Bd.o0 hB1 io9_112_97_12 (by decide) bd9_12_0
            refine ⟨fun c24 => ?_, fun c24 => ?_⟩
            · skip
              have e25 : (((uI (uI I 97 1 0) 97 0 4) 97 0) : Int32).toInt = 4 := Eq.trans (congrArg Int32.toInt rd_eq) rfl
              have d26 : ((4) : Int) ≤ (0) := ci_le e25 rfl c24
              have e27 : ((60 * v1) : Int32).toInt = (60) * (v1.toInt) := ti_mul rfl rfl (by omega)
              have e28 : (((60 * v1) + v2) : Int32).toInt = ((60 * v1.toInt)) + (v2.toInt) := ti_add e27 rfl (by omega)
              refine ⟨vp_of (a := ((60 * v1.toInt) + v2.toInt)) e28 (by omega) (by omega), ?_⟩
              exact hQ _ _ _ _ hB23 trivial
            · skip
              have e29 : (((uI (uI I 97 1 0) 97 0 4) 97 0) : Int32).toInt = 4 := Eq.trans (congrArg Int32.toInt rd_eq) rfl
              have d30 : ((0) : Int) < (4) := ci_nle e29 rfl c24
              exact hQ _ _ _ _ hB23 trivial
          · skip
            have d31 : ((0) : Int) ≤ (v2.toInt) := ci_nlt rfl rfl c21
            refine ⟨vp_of (a := v1.toInt) rfl (by omega) (by omega), ?_⟩
            refine ⟨fun c32 => ?_, fun c32 => ?_⟩
            · skip
              have d33 : ((v2.toInt) : Int) < ((I 99 (Int32.toNatClampNeg v1)).toInt) := ci_lt rfl e18 c32
              have hB34 : Bd (uI (uI I 97 1 0) 97 0 0) := Bd.o0 hB1 io9_112_97_12 (by decide) bd9_12_0
              refine ⟨fun c35 => ?_, fun c35 => ?_⟩
              · skip
                have e36 : (((uI (uI I 97 1 0) 97 0 0) 97 0) : Int32).toInt = 0 := Eq.trans (congrArg Int32.toInt rd_eq) rfl
                have d37 : ((0) : Int) ≤ (0) := ci_le e36 rfl c35
                have e38 : ((60 * v1) : Int32).toInt = (60) * (v1.toInt) := ti_mul rfl rfl (by omega)
                have e39 : (((60 * v1) + v2) : Int32).toInt = ((60 * v1.toInt)) + (v2.toInt) := ti_add e38 rfl (by omega)
                refine ⟨vp_of (a := ((60 * v1.toInt) + v2.toInt)) e39 (by omega) (by omega), ?_⟩
                exact hQ _ _ _ _ hB34 trivial
              · skip
                have e40 : (((uI (uI I 97 1 0) 97 0 0) 97 0) : Int32).toInt = 0 := Eq.trans (congrArg Int32.toInt rd_eq) rfl
                have d41 : ((0) : Int) < (0) := ci_nle e40 rfl c35
                exact hQ _ _ _ _ hB34 trivial
            · skip
              have d42 : (((I 99 (Int32.toNatClampNeg v1)).toInt) : Int) ≤ (v2.toInt) := ci_nlt rfl e18 c32
              have hB43 : Bd (uI (uI I 97 1 0) 97 0 4) := Bd.o0 hB1 io9_112_97_12 (by decide) bd9_12_0
              refine ⟨fun c44 => ?_, fun c44 => ?_⟩
              · skip
                have e45 : (((uI (uI I 97 1 0) 97 0 4) 97 0) : Int32).toInt = 4 := Eq.trans (congrArg Int32.toInt rd_eq) rfl
                have d46 : ((4) : Int) ≤ (0) := ci_le e45 rfl c44
                have e47 : ((60 * v1) : Int32).toInt = (60) * (v1.toInt) := ti_mul rfl rfl (by omega)
                have e48 : (((60 * v1) + v2) : Int32).toInt = ((60 * v1.toInt)) + (v2.toInt) := ti_add e47 rfl (by omega)
                refine ⟨vp_of (a := ((60 * v1.toInt) + v2.toInt)) e48 (by omega) (by omega), ?_⟩
                exact hQ _ _ _ _ hB43 trivial
              · skip
                have e49 : (((uI (uI I 97 1 0) 97 0 4) 97 0) : Int32).toInt = 4 := Eq.trans (congrArg Int32.toInt rd_eq) rfl
                have d50 : ((0) : Int) < (4) := ci_nle e49 rfl c44
                exact hQ _ _ _ _ hB43 trivial
        · exact absurd c20 (by decide)
      · skip
        have b51 := Bd.a hB0 (Int32.toNatClampNeg v1) (show bna 99 = some _ from rfl)
        have e52 : (((uI I 97 1 0) 99 (Int32.toNatClampNeg v1)) : Int32).toInt = (I 99 (Int32.toNatClampNeg v1)).toInt := Eq.trans (congrArg Int32.toInt (rd_ne (by first | decide | omega))) rfl
        have d53 : (((I 99 (Int32.toNatClampNeg v1)).toInt) : Int) < (0) := ci_nle rfl e52 c16
        refine ⟨fun c54 => ?_, fun c54 => ?_⟩
        · exact absurd c54 (by decide)
        · skip
          have hB55 : Bd (uI (uI I 97 1 0) 97 0 3) := Bd.o0 hB1 io9_112_97_12 (by decide) bd9_12_0
          refine ⟨fun c56 => ?_, fun c56 => ?_⟩
          · skip
            have e57 : (((uI (uI I 97 1 0) 97 0 3) 97 0) : Int32).toInt = 3 := Eq.trans (congrArg Int32.toInt rd_eq) rfl
            have d58 : ((3) : Int) ≤ (0) := ci_le e57 rfl c56
            have e59 : ((60 * v1) : Int32).toInt = (60) * (v1.toInt) := ti_mul rfl rfl (by omega)
            have e60 : (((60 * v1) + v2) : Int32).toInt = ((60 * v1.toInt)) + (v2.toInt) := ti_add e59 rfl (by omega)
            refine ⟨vp_of (a := ((60 * v1.toInt) + v2.toInt)) e60 (by omega) (by omega), ?_⟩
            exact hQ _ _ _ _ hB55 trivial
          · skip
            have e61 : (((uI (uI I 97 1 0) 97 0 3) 97 0) : Int32).toInt = 3 := Eq.trans (congrArg Int32.toInt rd_eq) rfl
            have d62 : ((0) : Int) < (3) := ci_nle e61 rfl c56
            exact hQ _ _ _ _ hB55 trivial
    · skip
      have d63 : ((4) : Int) ≤ (v1.toInt) := ci_nlt rfl rfl c14
      refine ⟨fun c64 => ?_, fun c64 => ?_⟩
      · exact absurd c64 (by decide)
      · skip
        have hB65 : Bd (uI (uI I 97 1 0) 97 0 1) := Bd.o0 hB1 io9_112_97_12 (by decide) bd9_12_0
        refine ⟨fun c66 => ?_, fun c66 => ?_⟩
        · skip
          have e67 : (((uI (uI I 97 1 0) 97 0 1) 97 0) : Int32).toInt = 1 := Eq.trans (congrArg Int32.toInt rd_eq) rfl
          have d68 : ((1) : Int) ≤ (0) := ci_le e67 rfl c66
          have e69 : ((60 * v1) : Int32).toInt = (60) * (v1.toInt) := ti_mul rfl rfl (by omega)
          have e70 : (((60 * v1) + v2) : Int32).toInt = ((60 * v1.toInt)) + (v2.toInt) := ti_add e69 rfl (by omega)
          refine ⟨vp_of (a := ((60 * v1.toInt) + v2.toInt)) e70 (by omega) (by omega), ?_⟩
          exact hQ _ _ _ _ hB65 trivial
        · skip
          have e71 : (((uI (uI I 97 1 0) 97 0 1) 97 0) : Int32).toInt = 1 := Eq.trans (congrArg Int32.toInt rd_eq) rfl
          have d72 : ((0) : Int) < (1) := ci_nle e71 rfl c66
          exact hQ _ _ _ _ hB65 trivial
set_option maxHeartbeats 2000000 in
theorem sp_X12_pour {d : Nat} {Q : Qt} {v1 : Int32} {v2 : Int32} {v3 : Int32} {v4 : Int32} {v5 : Int32} {I : Im} {J : Jm} {R : Rm} (hB0 : Bd I) (hR0 : RI R) (hQ : ∀ (x : Int32) (y : Int64) (I2 : Im) (J2 : Jm), Bd I2 → ((((x.toInt = 1 ∧ 0 ≤ v1.toInt ∧ v1.toInt ≤ 3 ∧ 0 ≤ v3.toInt ∧ v3.toInt ≤ 3 ∧ 0 ≤ (I 99 (Int32.toNatClampNeg v1)).toInt ∧ 0 ≤ (I 99 (Int32.toNatClampNeg v3)).toInt ∧ (I 98 (Int32.toNatClampNeg v1)).toInt = (I 98 (Int32.toNatClampNeg v3)).toInt ∧ 0 ≤ v5.toInt ∧ 0 ≤ v2.toInt ∧ 0 ≤ v4.toInt ∧ v2.toInt + v5.toInt ≤ (I 99 (Int32.toNatClampNeg v1)).toInt ∧ v4.toInt + v5.toInt ≤ (I 99 (Int32.toNatClampNeg v3)).toInt) ∨ (x.toInt = 0 ∧ (v1.toInt < 0 ∨ 3 < v1.toInt ∨ v3.toInt < 0 ∨ 3 < v3.toInt ∨ (I 99 (Int32.toNatClampNeg v1)).toInt < 0 ∨ (I 99 (Int32.toNatClampNeg v3)).toInt < 0 ∨ ¬ (I 98 (Int32.toNatClampNeg v1)).toInt = (I 98 (Int32.toNatClampNeg v3)).toInt ∨ v5.toInt < 0 ∨ v2.toInt < 0 ∨ v4.toInt < 0 ∨ (I 99 (Int32.toNatClampNeg v1)).toInt < v2.toInt + v5.toInt ∨ (I 99 (Int32.toNatClampNeg v3)).toInt < v4.toInt + v5.toInt))) ∧ K9 I I2)) → Q x y I2 J2 R) : AM (d + 2) 186 112 [.ref 97, .int v1, .int v2, .int v3, .int v4, .int v5] I J R Q := by
  have i_v1 := i32 v1
  have i_v2 := i32 v2
  have i_v3 := i32 v3
  have i_v4 := i32 v4
  have i_v5 := i32 v5
  refine am_X12_pour (fun P hc => ?_)
  have L : ∀ n : Nat, (∀ (v6 : Int32) (v7 : Int32) (M : Im) (JM : Jm), Bd M → (K9 I M) → (0 ≤ (I 99 (Int32.toNatClampNeg v1)).toInt ∧ 0 ≤ (I 99 (Int32.toNatClampNeg v3)).toInt ∧ (I 98 (Int32.toNatClampNeg v1)).toInt = (I 98 (Int32.toNatClampNeg v3)).toInt ∧ v2.toInt + v5.toInt ≤ (I 99 (Int32.toNatClampNeg v1)).toInt ∧ v4.toInt + v5.toInt ≤ (I 99 (Int32.toNatClampNeg v3)).toInt ∧ 0 ≤ v1.toInt ∧ v1.toInt ≤ 3 ∧ 0 ≤ v3.toInt ∧ v3.toInt ≤ 3 ∧ 0 ≤ v2.toInt ∧ 0 ≤ v4.toInt ∧ v2.toInt + v5.toInt ≤ 60 ∧ v4.toInt + v5.toInt ≤ 60 ∧ 0 ≤ v5.toInt ∧ 0 ≤ v7.toInt ∧ v7.toInt ≤ v5.toInt) → 100 - v7.toInt < (n : Int) → P 158 112 [(0, .ref 97), (1, .int v1), (2, .int v2), (3, .int v3), (4, .int v4), (5, .int v5), (6, .int v6), (7, .int v7)] [] M JM R) := by
    intro n
    induction n with
    | zero =>
      exact fun v6 v7 M J _ _ hi hm => absurd hm (by omega)
    | succ n ih =>
      intro v6 v7 M JM hB hq_0 hi hm
      have i_v1 := i32 v1
      have i_v2 := i32 v2
      have i_v3 := i32 v3
      have i_v4 := i32 v4
      have i_v5 := i32 v5
      have i_v6 := i32 v6
      have i_v7 := i32 v7
      refine sg_X12_pour_158 hc _ _ _ _ _ _ _ _ _ _ ?_
      refine ⟨fun c1 => ?_, fun c1 => ?_⟩
      · skip
        have d2 : ((v5.toInt) : Int) ≤ (v7.toInt) := ci_le rfl rfl c1
        refine ⟨Or.inr rfl, ?_⟩
        exact hQ _ _ _ _ hB ⟨(by have q0 : (1 : Int32).toInt = 1 := rfl; omega), hq_0⟩
      · skip
        have d3 : ((v7.toInt) : Int) < (v5.toInt) := ci_nle rfl rfl c1
        refine ⟨fun c4 => ?_, fun c4 => ?_⟩
        · skip
          have d5 : ((v6.toInt) : Int) = (0) := ci_eq rfl rfl c4
          have e6 : ((60 * v1) : Int32).toInt = (60) * (v1.toInt) := ti_mul rfl rfl (by omega)
          have e7 : (((60 * v1) + v2) : Int32).toInt = ((60 * v1.toInt)) + (v2.toInt) := ti_add e6 rfl (by omega)
          have e8 : ((((60 * v1) + v2) + v7) : Int32).toInt = (((60 * v1.toInt) + v2.toInt)) + (v7.toInt) := ti_add e7 rfl (by omega)
          refine ⟨vp_of (a := (((60 * v1.toInt) + v2.toInt) + v7.toInt)) e8 (by omega) (by omega), ?_⟩
          have e9 : ((60 * v3) : Int32).toInt = (60) * (v3.toInt) := ti_mul rfl rfl (by first | (clear d3 d5 e6 e7 e8; omega) | omega)
          have e10 : (((60 * v3) + v4) : Int32).toInt = ((60 * v3.toInt)) + (v4.toInt) := ti_add e9 rfl (by first | (clear d3 d5 e6 e7 e8; omega) | omega)
          have e11 : ((((60 * v3) + v4) + v7) : Int32).toInt = (((60 * v3.toInt) + v4.toInt)) + (v7.toInt) := ti_add e10 rfl (by omega)
          refine ⟨vp_of (a := (((60 * v3.toInt) + v4.toInt) + v7.toInt)) e11 (by omega) (by omega), ?_⟩
          have e12 : ((v7 + 1) : Int32).toInt = (v7.toInt) + (1) := ti_add rfl rfl (by first | (clear d5 e6 e7 e9 e10; omega) | omega)
          have hv13 : K9 I M := hq_0
          exact ih _ _ _ _ hB hv13 (by have q0 : ((v7 + 1) : Int32).toInt = (v7.toInt + 1) := e12; omega) (by have q0 : ((v7 + 1) : Int32).toInt = (v7.toInt + 1) := e12; omega)
        · skip
          have d14 : ¬ ((v6.toInt) : Int) = (0) := ci_ne rfl rfl c4
          have e15 : ((60 * v1) : Int32).toInt = (60) * (v1.toInt) := ti_mul rfl rfl (by omega)
          have e16 : (((60 * v1) + v2) : Int32).toInt = ((60 * v1.toInt)) + (v2.toInt) := ti_add e15 rfl (by omega)
          have e17 : ((v5 - 1) : Int32).toInt = (v5.toInt) - (1) := ti_sub rfl rfl (by omega)
          have e18 : (((v5 - 1) - v7) : Int32).toInt = ((v5.toInt - 1)) - (v7.toInt) := ti_sub e17 rfl (by omega)
          have e19 : ((((60 * v1) + v2) + ((v5 - 1) - v7)) : Int32).toInt = (((60 * v1.toInt) + v2.toInt)) + (((v5.toInt - 1) - v7.toInt)) := ti_add e16 e18 (by omega)
          refine ⟨vp_of (a := (((60 * v1.toInt) + v2.toInt) + ((v5.toInt - 1) - v7.toInt))) e19 (by omega) (by omega), ?_⟩
          have e20 : ((60 * v3) : Int32).toInt = (60) * (v3.toInt) := ti_mul rfl rfl (by first | (clear d3 d14 e15 e16 e17 e18 e19; omega) | omega)
          have e21 : (((60 * v3) + v4) : Int32).toInt = ((60 * v3.toInt)) + (v4.toInt) := ti_add e20 rfl (by first | (clear d3 d14 e15 e16 e17 e18 e19; omega) | omega)
          have e22 : ((((60 * v3) + v4) + ((v5 - 1) - v7)) : Int32).toInt = (((60 * v3.toInt) + v4.toInt)) + (((v5.toInt - 1) - v7.toInt)) := ti_add e21 e18 (by omega)
          refine ⟨vp_of (a := (((60 * v3.toInt) + v4.toInt) + ((v5.toInt - 1) - v7.toInt))) e22 (by omega) (by omega), ?_⟩
          have e23 : ((v7 + 1) : Int32).toInt = (v7.toInt) + (1) := ti_add rfl rfl (by first | (clear d14 e15 e16 e17 e20 e21; omega) | omega)
          have hv24 : K9 I M := hq_0
          exact ih _ _ _ _ hB hv24 (by have q0 : ((v7 + 1) : Int32).toInt = (v7.toInt + 1) := e23; omega) (by have q0 : ((v7 + 1) : Int32).toInt = (v7.toInt + 1) := e23; omega)
  refine sg_X12_pour_0 hc _ _ _ _ _ _ _ _ ?_
  have hB25 : Bd (uI I 97 1 0) := Bd.o0 hB0 io9_112_97_12 (by decide) bd9_12_1
  have hB26 : Bd (uI (uI I 97 1 0) 97 0 0) := Bd.o0 hB25 io9_112_97_12 (by decide) bd9_12_0
  refine ⟨fun c27 => ?_, fun c27 => ?_⟩
  · skip
    have d28 : ((v1.toInt) : Int) < (0) := ci_lt rfl rfl c27
    refine w_X12_no ?_
    have hB29 : Bd (uI (uI (uI I 97 1 0) 97 0 0) 97 0 1) := Bd.o0 hB26 io9_112_97_12 (by decide) bd9_12_0
    refine ⟨Or.inl rfl, ?_⟩
    intro o30
    refine ⟨Or.inl rfl, ?_⟩
    exact hQ _ _ _ _ hB29 ⟨(by have q0 : (0 : Int32).toInt = 0 := rfl; omega), ⟨rfl, rfl⟩⟩
  · skip
    have d31 : ((0) : Int) ≤ (v1.toInt) := ci_nlt rfl rfl c27
    refine ⟨fun c32 => ?_, fun c32 => ?_⟩
    · skip
      have d33 : ((4) : Int) ≤ (v1.toInt) := ci_le rfl rfl c32
      refine w_X12_no ?_
      have hB34 : Bd (uI (uI (uI I 97 1 0) 97 0 0) 97 0 1) := Bd.o0 hB26 io9_112_97_12 (by decide) bd9_12_0
      refine ⟨Or.inl rfl, ?_⟩
      intro o35
      refine ⟨Or.inl rfl, ?_⟩
      exact hQ _ _ _ _ hB34 ⟨(by have q0 : (0 : Int32).toInt = 0 := rfl; omega), ⟨rfl, rfl⟩⟩
    · skip
      have d36 : ((v1.toInt) : Int) < (4) := ci_nle rfl rfl c32
      refine ⟨fun c37 => ?_, fun c37 => ?_⟩
      · skip
        have d38 : ((v3.toInt) : Int) < (0) := ci_lt rfl rfl c37
        refine w_X12_no ?_
        have hB39 : Bd (uI (uI (uI I 97 1 0) 97 0 0) 97 0 1) := Bd.o0 hB26 io9_112_97_12 (by decide) bd9_12_0
        refine ⟨Or.inl rfl, ?_⟩
        intro o40
        refine ⟨Or.inl rfl, ?_⟩
        exact hQ _ _ _ _ hB39 ⟨(by have q0 : (0 : Int32).toInt = 0 := rfl; omega), ⟨rfl, rfl⟩⟩
      · skip
        have d41 : ((0) : Int) ≤ (v3.toInt) := ci_nlt rfl rfl c37
        refine ⟨fun c42 => ?_, fun c42 => ?_⟩
        · skip
          have d43 : ((v3.toInt) : Int) < (4) := ci_lt rfl rfl c42
          refine ⟨vp_of (a := v1.toInt) rfl (by omega) (by omega), ?_⟩
          refine ⟨fun c44 => ?_, fun c44 => ?_⟩
          · skip
            have b45 := Bd.a hB0 (Int32.toNatClampNeg v1) (show bna 99 = some _ from rfl)
            have e46 : (((uI (uI I 97 1 0) 97 0 0) 99 (Int32.toNatClampNeg v1)) : Int32).toInt = (I 99 (Int32.toNatClampNeg v1)).toInt := Eq.trans (congrArg Int32.toInt (Eq.trans (rd_ne (by first | decide | omega)) (rd_ne (by first | decide | omega)))) rfl
            have d47 : (((I 99 (Int32.toNatClampNeg v1)).toInt) : Int) < (0) := ci_lt e46 rfl c44
            refine w_X12_no ?_
            have hB48 : Bd (uI (uI (uI I 97 1 0) 97 0 0) 97 0 3) := Bd.o0 hB26 io9_112_97_12 (by decide) bd9_12_0
            refine ⟨Or.inl rfl, ?_⟩
            intro o49
            refine ⟨Or.inl rfl, ?_⟩
            exact hQ _ _ _ _ hB48 ⟨(by have q0 : (0 : Int32).toInt = 0 := rfl; omega), ⟨rfl, rfl⟩⟩
          · skip
            have b50 := Bd.a hB0 (Int32.toNatClampNeg v1) (show bna 99 = some _ from rfl)
            have e51 : (((uI (uI I 97 1 0) 97 0 0) 99 (Int32.toNatClampNeg v1)) : Int32).toInt = (I 99 (Int32.toNatClampNeg v1)).toInt := Eq.trans (congrArg Int32.toInt (Eq.trans (rd_ne (by first | decide | omega)) (rd_ne (by first | decide | omega)))) rfl
            have d52 : ((0) : Int) ≤ ((I 99 (Int32.toNatClampNeg v1)).toInt) := ci_nlt e51 rfl c44
            refine ⟨vp_of (a := v3.toInt) rfl (by first | (clear d31 d36 b50 e51 d52; omega) | omega) (by first | (clear d31 d36 b50 e51 d52; omega) | omega), ?_⟩
            refine ⟨fun c53 => ?_, fun c53 => ?_⟩
            · skip
              have b54 := Bd.a hB0 (Int32.toNatClampNeg v3) (show bna 99 = some _ from rfl)
              have e55 : (((uI (uI I 97 1 0) 97 0 0) 99 (Int32.toNatClampNeg v3)) : Int32).toInt = (I 99 (Int32.toNatClampNeg v3)).toInt := Eq.trans (congrArg Int32.toInt (Eq.trans (rd_ne (by first | decide | omega)) (rd_ne (by first | decide | omega)))) rfl
              have d56 : ((0) : Int) ≤ ((I 99 (Int32.toNatClampNeg v3)).toInt) := ci_le rfl e55 c53
              refine ⟨vp_of (a := v1.toInt) rfl (by first | (clear d41 d43 b50 b54 e55 d56; omega) | omega) (by first | (clear d41 d43 b50 b54 e55 d56; omega) | omega), ?_⟩
              refine ⟨vp_of (a := v3.toInt) rfl (by first | (clear d31 d36 b50 e51 d52 b54; omega) | omega) (by first | (clear d31 d36 b50 e51 d52 b54; omega) | omega), ?_⟩
              refine ⟨fun c57 => ?_, fun c57 => ?_⟩
              · skip
                have e58 : (((uI (uI I 97 1 0) 97 0 0) 98 (Int32.toNatClampNeg v1)) : Int32).toInt = (I 98 (Int32.toNatClampNeg v1)).toInt := Eq.trans (congrArg Int32.toInt (Eq.trans (rd_ne (by first | decide | omega)) (rd_ne (by first | decide | omega)))) rfl
                have e59 : (((uI (uI I 97 1 0) 97 0 0) 98 (Int32.toNatClampNeg v3)) : Int32).toInt = (I 98 (Int32.toNatClampNeg v3)).toInt := Eq.trans (congrArg Int32.toInt (Eq.trans (rd_ne (by first | decide | omega)) (rd_ne (by first | decide | omega)))) rfl
                have d60 : (((I 98 (Int32.toNatClampNeg v1)).toInt) : Int) = ((I 98 (Int32.toNatClampNeg v3)).toInt) := ci_eq e58 e59 c57
                refine ⟨fun c61 => ?_, fun c61 => ?_⟩
                · skip
                  have d62 : ((0) : Int) ≤ (v5.toInt) := ci_le rfl rfl c61
                  refine ⟨fun c63 => ?_, fun c63 => ?_⟩
                  · skip
                    have d64 : ((v2.toInt) : Int) < (0) := ci_lt rfl rfl c63
                    refine w_X12_no ?_
                    have hB65 : Bd (uI (uI (uI I 97 1 0) 97 0 0) 97 0 4) := Bd.o0 hB26 io9_112_97_12 (by decide) bd9_12_0
                    refine ⟨Or.inl rfl, ?_⟩
                    intro o66
                    refine ⟨Or.inl rfl, ?_⟩
                    exact hQ _ _ _ _ hB65 ⟨(by have q0 : (0 : Int32).toInt = 0 := rfl; omega), ⟨rfl, rfl⟩⟩
                  · skip
                    have d67 : ((0) : Int) ≤ (v2.toInt) := ci_nlt rfl rfl c63
                    refine ⟨fun c68 => ?_, fun c68 => ?_⟩
                    · skip
                      have d69 : ((v4.toInt) : Int) < (0) := ci_lt rfl rfl c68
                      refine w_X12_no ?_
                      have hB70 : Bd (uI (uI (uI I 97 1 0) 97 0 0) 97 0 4) := Bd.o0 hB26 io9_112_97_12 (by decide) bd9_12_0
                      refine ⟨Or.inl rfl, ?_⟩
                      intro o71
                      refine ⟨Or.inl rfl, ?_⟩
                      exact hQ _ _ _ _ hB70 ⟨(by have q0 : (0 : Int32).toInt = 0 := rfl; omega), ⟨rfl, rfl⟩⟩
                    · skip
                      have d72 : ((0) : Int) ≤ (v4.toInt) := ci_nlt rfl rfl c68
                      refine ⟨vp_of (a := v1.toInt) rfl (by first | (clear d41 d43 b50 b54 e55 d56 e59 d62 d67 d72; omega) | omega) (by first | (clear d41 d43 b50 b54 e55 d56 e59 d62 d67 d72; omega) | omega), ?_⟩
                      refine ⟨fun c73 => ?_, fun c73 => ?_⟩
                      · skip
                        rw [lg_cmp_gt] at c73
                        have e74 : (((Int32.toInt64 v2) + (Int32.toInt64 v5)) : Int64).toInt = (v2.toInt) + (v5.toInt) := tl_add (tl_i2l rfl) (tl_i2l rfl) (by first | (clear d31 d36 d41 d43 b50 e51 d52 b54 e55 d56 e58 e59 d60 d72; omega) | omega)
                        have i75 := i32 (((uI (uI I 97 1 0) 97 0 0) 99 (Int32.toNatClampNeg v1)))
                        have d76 : (((I 99 (Int32.toNatClampNeg v1)).toInt) : Int) < ((v2.toInt + v5.toInt)) := cl_lt (tl_i2l e51) e74 c73
                        refine w_X12_no ?_
                        have hB77 : Bd (uI (uI (uI I 97 1 0) 97 0 0) 97 0 4) := Bd.o0 hB26 io9_112_97_12 (by decide) bd9_12_0
                        refine ⟨Or.inl rfl, ?_⟩
                        intro o78
                        refine ⟨Or.inl rfl, ?_⟩
                        exact hQ _ _ _ _ hB77 ⟨(by have q0 : (0 : Int32).toInt = 0 := rfl; omega), ⟨rfl, rfl⟩⟩
                      · skip
                        rw [lg_cmp_gt] at c73
                        have e79 : (((Int32.toInt64 v2) + (Int32.toInt64 v5)) : Int64).toInt = (v2.toInt) + (v5.toInt) := tl_add (tl_i2l rfl) (tl_i2l rfl) (by first | (clear d31 d36 d41 d43 b50 e51 d52 b54 e55 d56 e58 e59 d60 d72; omega) | omega)
                        have i80 := i32 (((uI (uI I 97 1 0) 97 0 0) 99 (Int32.toNatClampNeg v1)))
                        have d81 : (((v2.toInt + v5.toInt)) : Int) ≤ ((I 99 (Int32.toNatClampNeg v1)).toInt) := cl_nlt (tl_i2l e51) e79 c73
                        refine ⟨vp_of (a := v3.toInt) rfl (by first | (clear d31 d36 b50 e51 d52 b54 e58 d62 d67 d72 e79 i80 d81; omega) | omega) (by first | (clear d31 d36 b50 e51 d52 b54 e58 d62 d67 d72 e79 i80 d81; omega) | omega), ?_⟩
                        refine ⟨fun c82 => ?_, fun c82 => ?_⟩
                        · skip
                          rw [lg_cmp_le] at c82
                          have e83 : (((Int32.toInt64 v4) + (Int32.toInt64 v5)) : Int64).toInt = (v4.toInt) + (v5.toInt) := tl_add (tl_i2l rfl) (tl_i2l rfl) (by first | (clear d31 d36 d41 d43 b50 e51 d52 b54 e55 d56 e58 e59 d60 d67 i80; omega) | omega)
                          have i84 := i32 (((uI (uI I 97 1 0) 97 0 0) 99 (Int32.toNatClampNeg v3)))
                          have d85 : (((v4.toInt + v5.toInt)) : Int) ≤ ((I 99 (Int32.toNatClampNeg v3)).toInt) := cl_le e83 (tl_i2l e55) c82
                          refine ⟨fun c86 => ?_, fun c86 => ?_⟩
                          · skip
                            have d87 : ((v4.toInt) : Int) ≤ (v2.toInt) := ci_le rfl rfl c86
                            have hv88 : K9 I (uI (uI I 97 1 0) 97 0 0) := ⟨rfl, rfl⟩
                            exact (L 1000000) _ _ _ _ hB26 hv88 (by have q0 : (0 : Int32).toInt = 0 := rfl; omega) (by have q0 : (0 : Int32).toInt = 0 := rfl; omega)
                          · skip
                            have d89 : ((v2.toInt) : Int) < (v4.toInt) := ci_nle rfl rfl c86
                            have hv90 : K9 I (uI (uI I 97 1 0) 97 0 0) := ⟨rfl, rfl⟩
                            exact (L 1000000) _ _ _ _ hB26 hv90 (by have q0 : (0 : Int32).toInt = 0 := rfl; omega) (by have q0 : (0 : Int32).toInt = 0 := rfl; omega)
                        · skip
                          rw [lg_cmp_le] at c82
                          have e91 : (((Int32.toInt64 v4) + (Int32.toInt64 v5)) : Int64).toInt = (v4.toInt) + (v5.toInt) := tl_add (tl_i2l rfl) (tl_i2l rfl) (by first | (clear d31 d36 d41 d43 b50 e51 d52 b54 e55 d56 e58 e59 d60 d67 i80; omega) | omega)
                          have i92 := i32 (((uI (uI I 97 1 0) 97 0 0) 99 (Int32.toNatClampNeg v3)))
                          have d93 : (((I 99 (Int32.toNatClampNeg v3)).toInt) : Int) < ((v4.toInt + v5.toInt)) := cl_nle e91 (tl_i2l e55) c82
                          refine w_X12_no ?_
                          have hB94 : Bd (uI (uI (uI I 97 1 0) 97 0 0) 97 0 4) := Bd.o0 hB26 io9_112_97_12 (by decide) bd9_12_0
                          refine ⟨Or.inl rfl, ?_⟩
                          intro o95
                          refine ⟨Or.inl rfl, ?_⟩
                          exact hQ _ _ _ _ hB94 ⟨(by have q0 : (0 : Int32).toInt = 0 := rfl; omega), ⟨rfl, rfl⟩⟩
                · skip
                  have d96 : ((v5.toInt) : Int) < (0) := ci_nle rfl rfl c61
                  refine w_X12_no ?_
                  have hB97 : Bd (uI (uI (uI I 97 1 0) 97 0 0) 97 0 6) := Bd.o0 hB26 io9_112_97_12 (by decide) bd9_12_0
                  refine ⟨Or.inl rfl, ?_⟩
                  intro o98
                  refine ⟨Or.inl rfl, ?_⟩
                  exact hQ _ _ _ _ hB97 ⟨(by have q0 : (0 : Int32).toInt = 0 := rfl; omega), ⟨rfl, rfl⟩⟩
              · skip
                have e99 : (((uI (uI I 97 1 0) 97 0 0) 98 (Int32.toNatClampNeg v1)) : Int32).toInt = (I 98 (Int32.toNatClampNeg v1)).toInt := Eq.trans (congrArg Int32.toInt (Eq.trans (rd_ne (by first | decide | omega)) (rd_ne (by first | decide | omega)))) rfl
                have e100 : (((uI (uI I 97 1 0) 97 0 0) 98 (Int32.toNatClampNeg v3)) : Int32).toInt = (I 98 (Int32.toNatClampNeg v3)).toInt := Eq.trans (congrArg Int32.toInt (Eq.trans (rd_ne (by first | decide | omega)) (rd_ne (by first | decide | omega)))) rfl
                have d101 : ¬ (((I 98 (Int32.toNatClampNeg v1)).toInt) : Int) = ((I 98 (Int32.toNatClampNeg v3)).toInt) := ci_ne e99 e100 c57
                refine w_X12_no ?_
                have hB102 : Bd (uI (uI (uI I 97 1 0) 97 0 0) 97 0 11) := Bd.o0 hB26 io9_112_97_12 (by decide) bd9_12_0
                refine ⟨Or.inl rfl, ?_⟩
                intro o103
                refine ⟨Or.inl rfl, ?_⟩
                exact hQ _ _ _ _ hB102 ⟨(by have q0 : (0 : Int32).toInt = 0 := rfl; omega), ⟨rfl, rfl⟩⟩
            · skip
              have b104 := Bd.a hB0 (Int32.toNatClampNeg v3) (show bna 99 = some _ from rfl)
              have e105 : (((uI (uI I 97 1 0) 97 0 0) 99 (Int32.toNatClampNeg v3)) : Int32).toInt = (I 99 (Int32.toNatClampNeg v3)).toInt := Eq.trans (congrArg Int32.toInt (Eq.trans (rd_ne (by first | decide | omega)) (rd_ne (by first | decide | omega)))) rfl
              have d106 : (((I 99 (Int32.toNatClampNeg v3)).toInt) : Int) < (0) := ci_nle rfl e105 c53
              refine w_X12_no ?_
              have hB107 : Bd (uI (uI (uI I 97 1 0) 97 0 0) 97 0 3) := Bd.o0 hB26 io9_112_97_12 (by decide) bd9_12_0
              refine ⟨Or.inl rfl, ?_⟩
              intro o108
              refine ⟨Or.inl rfl, ?_⟩
              exact hQ _ _ _ _ hB107 ⟨(by have q0 : (0 : Int32).toInt = 0 := rfl; omega), ⟨rfl, rfl⟩⟩
        · skip
          have d109 : ((4) : Int) ≤ (v3.toInt) := ci_nlt rfl rfl c42
          refine w_X12_no ?_
          have hB110 : Bd (uI (uI (uI I 97 1 0) 97 0 0) 97 0 1) := Bd.o0 hB26 io9_112_97_12 (by decide) bd9_12_0
          refine ⟨Or.inl rfl, ?_⟩
          intro o111
          refine ⟨Or.inl rfl, ?_⟩
          exact hQ _ _ _ _ hB110 ⟨(by have q0 : (0 : Int32).toInt = 0 := rfl; omega), ⟨rfl, rfl⟩⟩
set_option maxHeartbeats 2000000 in
theorem sp_X12_sizeOf {d : Nat} {Q : Qt} {v0 : Int32} {I : Im} {J : Jm} {R : Rm} (hB0 : Bd I) (hR0 : RI R) (hQ : ∀ (x : Int32) (y : Int64) (I2 : Im) (J2 : Jm), Bd I2 → (I = I2 ∧ (0 ≤ x.toInt ∧ x.toInt ≤ 30 ∧ x.toInt = pcn v0 30)) → Q x y I2 J2 R) : AM (d + 2) 190 112 [.int v0] I J R Q := by
  have i_v0 := i32 v0
  refine am_X12_sizeOf (fun P hc => ?_)
  have L : ∀ n : Nat, (∀ (v1 : Int32) (v2 : Int32) (M : Im) (JM : Jm), Bd M → I = M → (v1.toInt = pcn v0 v2.toInt.toNat) → (0 ≤ v2.toInt ∧ v2.toInt ≤ 30 ∧ 0 ≤ v1.toInt ∧ v1.toInt ≤ v2.toInt) → 40 - v2.toInt < (n : Int) → P 4 112 [(0, .int v0), (1, .int v1), (2, .int v2)] [] M JM R) := by
    intro n
    induction n with
    | zero =>
      exact fun v1 v2 M J _ _ _ hi hm => absurd hm (by omega)
    | succ n ih =>
      intro v1 v2 M JM hB hM hq_0 hi hm
      have i_v0 := i32 v0
      have i_v1 := i32 v1
      have i_v2 := i32 v2
      refine sg_X12_sizeOf_4 hc _ _ _ _ _ _ ?_
      subst hM
      refine ⟨fun c1 => ?_, fun c1 => ?_⟩
      · skip
        have d2 : ((30) : Int) ≤ (v2.toInt) := ci_le rfl rfl c1
        exact hQ _ _ _ _ hB0 ⟨rfl, ⟨by omega, by omega, by rw [hq_0, show v2.toInt.toNat = 30 by omega]⟩⟩
      · skip
        have d3 : ((v2.toInt) : Int) < (30) := ci_nle rfl rfl c1
        refine w_X12_isOf ?_
        refine ⟨fun c4 => ?_, fun c4 => ?_⟩
        · skip
          have d5 : ¬ (((((v0 >>> (v2 &&& 31)) &&& 1) : Int32).toInt) : Int) = (1) := ci_ne rfl rfl c4
          refine ⟨Or.inl rfl, ?_⟩
          intro o6
          refine ⟨fun c7 => ?_, fun c7 => ?_⟩
          · skip
            have e8 : ((v1 + 0) : Int32).toInt = (v1.toInt) + (0) := ti_add rfl rfl (by omega)
            have e9 : ((v2 + 1) : Int32).toInt = (v2.toInt) + (1) := ti_add rfl rfl (by omega)
            have hv10 : (v1 + 0).toInt = pcn v0 (v2 + 1).toInt.toNat := (by have z1 : ((v1 + 0) : Int32).toInt = v1.toInt + 0 := ti_add rfl rfl (by omega); rw [z1]; exact pcn_step hq_0 (by omega) (ti_add rfl rfl (by omega)) (pcb0 c4))
            exact ih _ _ _ _ hB0 rfl hv10 (by have q0 : ((v1 + 0) : Int32).toInt = (v1.toInt + 0) := e8; have q1 : ((v2 + 1) : Int32).toInt = (v2.toInt + 1) := e9; omega) (by have q0 : ((v2 + 1) : Int32).toInt = (v2.toInt + 1) := e9; omega)
          · exact absurd c7 (by decide)
        · skip
          have d11 : (((((v0 >>> (v2 &&& 31)) &&& 1) : Int32).toInt) : Int) = (1) := ci_eq rfl rfl c4
          refine ⟨Or.inr rfl, ?_⟩
          intro o12
          refine ⟨fun c13 => ?_, fun c13 => ?_⟩
          · exact absurd c13 (by decide)
          · skip
            have e14 : ((v1 + 1) : Int32).toInt = (v1.toInt) + (1) := ti_add rfl rfl (by omega)
            have e15 : ((v2 + 1) : Int32).toInt = (v2.toInt) + (1) := ti_add rfl rfl (by omega)
            have hv16 : (v1 + 1).toInt = pcn v0 (v2 + 1).toInt.toNat := (by have z1 : ((v1 + 1) : Int32).toInt = v1.toInt + 1 := ti_add rfl rfl (by omega); rw [z1]; exact pcn_step hq_0 (by omega) (ti_add rfl rfl (by omega)) (pcb1 c4))
            exact ih _ _ _ _ hB0 rfl hv16 (by have q0 : ((v1 + 1) : Int32).toInt = (v1.toInt + 1) := e14; have q1 : ((v2 + 1) : Int32).toInt = (v2.toInt + 1) := e15; omega) (by have q0 : ((v2 + 1) : Int32).toInt = (v2.toInt + 1) := e15; omega)
  refine sg_X12_sizeOf_0 hc _ _ _ _ ?_
  have hv17 : (0 : Int32).toInt = pcn v0 (0 : Int32).toInt.toNat := rfl
  exact (L 1000000) _ _ _ _ hB0 rfl hv17 (by have q0 : (0 : Int32).toInt = 0 := rfl; have q1 : (0 : Int32).toInt = 0 := rfl; omega) (by have q0 : (0 : Int32).toInt = 0 := rfl; omega)
set_option maxHeartbeats 2000000 in
theorem sp_X12_advance {d : Nat} {Q : Qt} {I : Im} {J : Jm} {R : Rm} (hB0 : Bd I) (hR0 : RI R) (hQ : ∀ (x : Int32) (y : Int64) (I2 : Im) (J2 : Jm), Bd I2 → (I2 97 12 = I 97 12 ∧ I2 97 27 = I 97 27 ∧ Fr pT I I2 ∧ ((2 * (901 - (I2 97 16).toInt) + min (I2 97 14).toInt 1) ≤ (2 * (901 - (I 97 16).toInt) + min (I 97 14).toInt 1) ∧ ((I 97 14).toInt = 0 ∨ (2 * (901 - (I2 97 16).toInt) + min (I2 97 14).toInt 1) < (2 * (901 - (I 97 16).toInt) + min (I 97 14).toInt 1)))) → Q x y I2 J2 R) : AM (d + 2) 195 112 [.ref 97] I J R Q := by
  refine am_X12_advance (fun P hc => ?_)
  have L : ∀ n : Nat, (∀ (M : Im) (JM : Jm), Bd M → (M 97 12 = I 97 12) → (M 97 27 = I 97 27) → Fr pT I M → ((I 97 16).toInt ≤ (M 97 15).toInt ∧ (M 97 15).toInt ≤ 900) → 5000 - (M 97 15).toInt < (n : Int) → P 8 112 [(0, .ref 97)] [] M JM R) ∧ (∀ (M : Im) (JM : Jm), Bd M → (M 97 12 = I 97 12) → (M 97 27 = I 97 27) → Fr pT I M → ((I 97 16).toInt ≤ (M 97 15).toInt) → 3000 < (n : Int) → P 58 112 [(0, .ref 97)] [] M JM R) ∧ (∀ (M : Im) (JM : Jm), Bd M → (M 97 12 = I 97 12) → (M 97 27 = I 97 27) → Fr pT I M → ((I 97 16).toInt ≤ (M 97 15).toInt ∧ (M 97 15).toInt ≤ (M 97 16).toInt ∧ (M 97 15).toInt < (M 97 16).toInt ∧ (M 97 16).toInt ≤ 900) → 1000 - (M 97 16).toInt < (n : Int) → P 109 112 [(0, .ref 97)] [] M JM R) ∧ (∀ (M : Im) (JM : Jm), Bd M → (M 97 12 = I 97 12) → (M 97 27 = I 97 27) → Fr pT I M → ((I 97 16).toInt ≤ (M 97 15).toInt ∧ (M 97 15).toInt < (M 97 16).toInt ∧ (M 97 16).toInt ≤ 900) → 1000 - (M 97 16).toInt < (n : Int) → P 210 112 [(0, .ref 97)] [] M JM R) := by
    intro n
    induction n with
    | zero =>
      exact ⟨fun  M J _ _ _ _ hi hm => absurd hm (by omega), fun  M J _ _ _ _ hi hm => absurd hm (by omega), fun  M J _ _ _ _ hi hm => absurd hm (by omega), fun  M J _ _ _ _ hi hm => absurd hm (by omega)⟩
    | succ n ih =>
      refine ⟨?_, ?_, ?_, ?_⟩
      · skip
        intro  M JM hB hk_97_12 hk_97_27 hf hi hm
        refine sg_X12_advance_8 hc _ _ _ ?_
        have b1 := Bd.o hB io9_112_97_12 bd9_12_15
        refine ⟨fun c2 => ?_, fun c2 => ?_⟩
        · skip
          have b3 := Bd.o hB io9_112_97_12 bd9_12_9
          have d4 : (((M 97 9).toInt) : Int) ≤ ((M 97 15).toInt) := ci_le rfl rfl c2
          exact ih.2.1 _ _ hB hk_97_12 hk_97_27 hf (by have q0 : ((M 97 15) : Int32).toInt = (M 97 15).toInt := rfl; omega) (by omega)
        · skip
          have b5 := Bd.o hB io9_112_97_12 bd9_12_9
          have d6 : (((M 97 15).toInt) : Int) < ((M 97 9).toInt) := ci_nle rfl rfl c2
          refine w_X12_look2 ?_
          refine ⟨fun c7 => ?_, fun c7 => ?_⟩
          · skip
            have d8 : (((M 97 9).toInt) : Int) ≤ ((M 97 15).toInt) := ci_le rfl rfl c7
            refine ⟨fun c9 => ?_, fun c9 => ?_⟩
            · exact absurd c9 (by decide)
            · skip
              refine w_X12_look2 ?_
              refine ⟨fun c10 => ?_, fun c10 => ?_⟩
              · skip
                have d11 : (((M 97 9).toInt) : Int) ≤ ((M 97 15).toInt) := ci_le rfl rfl c10
                refine ⟨fun c12 => ?_, fun c12 => ?_⟩
                · skip
                  exact ih.2.1 _ _ hB hk_97_12 hk_97_27 hf (by have q0 : ((M 97 15) : Int32).toInt = (M 97 15).toInt := rfl; omega) (by omega)
                · exact absurd c12 (by decide)
              · skip
                have d13 : (((M 97 15).toInt) : Int) < ((M 97 9).toInt) := ci_nle rfl rfl c10
                refine ⟨vp_of (a := (M 97 15).toInt) rfl (by omega) (by omega), ?_⟩
                refine ⟨fun c14 => ?_, fun c14 => ?_⟩
                · skip
                  have d15 : ¬ (((((M 101 (Int32.toNatClampNeg (M 97 15))) &&& 255) : Int32).toInt) : Int) = (32) := ci_ne rfl rfl c14
                  exact ih.2.1 _ _ hB hk_97_12 hk_97_27 hf (by have q0 : ((M 97 15) : Int32).toInt = (M 97 15).toInt := rfl; omega) (by omega)
                · skip
                  have d16 : (((((M 101 (Int32.toNatClampNeg (M 97 15))) &&& 255) : Int32).toInt) : Int) = (32) := ci_eq rfl rfl c14
                  have e18 : (((M 97 15) + 1) : Int32).toInt = ((M 97 15).toInt) + (1) := ti_add rfl rfl (by omega)
                  have hB17 : Bd (uI M 97 15 ((M 97 15) + 1)) := Bd.o1 hB io9_112_97_12 (by decide) bd9_12_15 (show (((M 97 15) + 1) : Int32).toInt = ((M 97 15).toInt + 1) from e18) (by omega)
                  have f19 : Fr pT I (uI M 97 15 ((M 97 15) + 1)) := Fr.o hf (by decide) (by decide)
                  have e20 : (((uI M 97 15 ((M 97 15) + 1)) 97 15) : Int32).toInt = ((M 97 15).toInt + 1) := Eq.trans (congrArg Int32.toInt rd_eq) e18
                  exact ih.1 _ _ hB17 (Eq.trans (rd_k (by decide)) hk_97_12) (Eq.trans (rd_k (by decide)) hk_97_27) f19 (by have q0 : (((uI M 97 15 ((M 97 15) + 1)) 97 15) : Int32).toInt = ((M 97 15).toInt + 1) := e20; have q1 : (((uI M 97 15 ((M 97 15) + 1)) 97 15) : Int32).toInt = ((M 97 15).toInt + 1) := e20; omega) (by have q0 : (((uI M 97 15 ((M 97 15) + 1)) 97 15) : Int32).toInt = ((M 97 15).toInt + 1) := e20; omega)
          · skip
            have d21 : (((M 97 15).toInt) : Int) < ((M 97 9).toInt) := ci_nle rfl rfl c7
            refine ⟨vp_of (a := (M 97 15).toInt) rfl (by omega) (by omega), ?_⟩
            refine ⟨fun c22 => ?_, fun c22 => ?_⟩
            · skip
              have d23 : (((((M 101 (Int32.toNatClampNeg (M 97 15))) &&& 255) : Int32).toInt) : Int) = (10) := ci_eq rfl rfl c22
              have e25 : (((M 97 15) + 1) : Int32).toInt = ((M 97 15).toInt) + (1) := ti_add rfl rfl (by omega)
              have hB24 : Bd (uI M 97 15 ((M 97 15) + 1)) := Bd.o1 hB io9_112_97_12 (by decide) bd9_12_15 (show (((M 97 15) + 1) : Int32).toInt = ((M 97 15).toInt + 1) from e25) (by omega)
              have f26 : Fr pT I (uI M 97 15 ((M 97 15) + 1)) := Fr.o hf (by decide) (by decide)
              have e27 : (((uI M 97 15 ((M 97 15) + 1)) 97 15) : Int32).toInt = ((M 97 15).toInt + 1) := Eq.trans (congrArg Int32.toInt rd_eq) e25
              exact ih.1 _ _ hB24 (Eq.trans (rd_k (by decide)) hk_97_12) (Eq.trans (rd_k (by decide)) hk_97_27) f26 (by have q0 : (((uI M 97 15 ((M 97 15) + 1)) 97 15) : Int32).toInt = ((M 97 15).toInt + 1) := e27; have q1 : (((uI M 97 15 ((M 97 15) + 1)) 97 15) : Int32).toInt = ((M 97 15).toInt + 1) := e27; omega) (by have q0 : (((uI M 97 15 ((M 97 15) + 1)) 97 15) : Int32).toInt = ((M 97 15).toInt + 1) := e27; omega)
            · skip
              have d28 : ¬ (((((M 101 (Int32.toNatClampNeg (M 97 15))) &&& 255) : Int32).toInt) : Int) = (10) := ci_ne rfl rfl c22
              refine w_X12_look2 ?_
              refine ⟨fun c29 => ?_, fun c29 => ?_⟩
              · skip
                have d30 : (((M 97 9).toInt) : Int) ≤ ((M 97 15).toInt) := ci_le rfl rfl c29
                refine ⟨fun c31 => ?_, fun c31 => ?_⟩
                · skip
                  exact ih.2.1 _ _ hB hk_97_12 hk_97_27 hf (by have q0 : ((M 97 15) : Int32).toInt = (M 97 15).toInt := rfl; omega) (by omega)
                · exact absurd c31 (by decide)
              · skip
                have d32 : (((M 97 15).toInt) : Int) < ((M 97 9).toInt) := ci_nle rfl rfl c29
                refine ⟨vp_of (a := (M 97 15).toInt) rfl (by omega) (by omega), ?_⟩
                refine ⟨fun c33 => ?_, fun c33 => ?_⟩
                · skip
                  have d34 : ¬ (((((M 101 (Int32.toNatClampNeg (M 97 15))) &&& 255) : Int32).toInt) : Int) = (32) := ci_ne rfl rfl c33
                  exact ih.2.1 _ _ hB hk_97_12 hk_97_27 hf (by have q0 : ((M 97 15) : Int32).toInt = (M 97 15).toInt := rfl; omega) (by omega)
                · skip
                  have d35 : (((((M 101 (Int32.toNatClampNeg (M 97 15))) &&& 255) : Int32).toInt) : Int) = (32) := ci_eq rfl rfl c33
                  have e37 : (((M 97 15) + 1) : Int32).toInt = ((M 97 15).toInt) + (1) := ti_add rfl rfl (by omega)
                  have hB36 : Bd (uI M 97 15 ((M 97 15) + 1)) := Bd.o1 hB io9_112_97_12 (by decide) bd9_12_15 (show (((M 97 15) + 1) : Int32).toInt = ((M 97 15).toInt + 1) from e37) (by omega)
                  have f38 : Fr pT I (uI M 97 15 ((M 97 15) + 1)) := Fr.o hf (by decide) (by decide)
                  have e39 : (((uI M 97 15 ((M 97 15) + 1)) 97 15) : Int32).toInt = ((M 97 15).toInt + 1) := Eq.trans (congrArg Int32.toInt rd_eq) e37
                  exact ih.1 _ _ hB36 (Eq.trans (rd_k (by decide)) hk_97_12) (Eq.trans (rd_k (by decide)) hk_97_27) f38 (by have q0 : (((uI M 97 15 ((M 97 15) + 1)) 97 15) : Int32).toInt = ((M 97 15).toInt + 1) := e39; have q1 : (((uI M 97 15 ((M 97 15) + 1)) 97 15) : Int32).toInt = ((M 97 15).toInt + 1) := e39; omega) (by have q0 : (((uI M 97 15 ((M 97 15) + 1)) 97 15) : Int32).toInt = ((M 97 15).toInt + 1) := e39; omega)
      · skip
        intro  M JM hB hk_97_12 hk_97_27 hf hi hm
        refine sg_X12_advance_58 hc _ _ _ ?_
        have b40 := Bd.o hB io9_112_97_12 bd9_12_15
        have hB41 : Bd (uI M 97 16 (M 97 15)) := Bd.o1 hB io9_112_97_12 (by decide) bd9_12_16 (show ((M 97 15) : Int32).toInt = (M 97 15).toInt from rfl) (by omega)
        have f42 : Fr pT I (uI M 97 16 (M 97 15)) := Fr.o hf (by decide) (by decide)
        refine ⟨fun c43 => ?_, fun c43 => ?_⟩
        · skip
          have e44 : (((uI M 97 16 (M 97 15)) 97 15) : Int32).toInt = (M 97 15).toInt := Eq.trans (congrArg Int32.toInt (rd_k (by decide))) rfl
          have b45 := Bd.o hB io9_112_97_12 bd9_12_9
          have e46 : (((uI M 97 16 (M 97 15)) 97 9) : Int32).toInt = (M 97 9).toInt := Eq.trans (congrArg Int32.toInt (rd_k (by decide))) rfl
          have d47 : (((M 97 15).toInt) : Int) < ((M 97 9).toInt) := ci_lt e44 e46 c43
          refine w_X12_look2 ?_
          refine ⟨fun c48 => ?_, fun c48 => ?_⟩
          · skip
            have d49 : (((M 97 9).toInt) : Int) ≤ ((M 97 15).toInt) := ci_le e46 e44 c48
            refine w_X12_isLetter ?_
            refine ⟨fun c50 => ?_, fun c50 => ?_⟩
            · skip
              refine ⟨Or.inl rfl, ?_⟩
              intro o51
              refine ⟨fun c52 => ?_, fun c52 => ?_⟩
              · skip
                refine w_X12_isDigit ?_
                refine ⟨fun c53 => ?_, fun c53 => ?_⟩
                · skip
                  refine ⟨Or.inl rfl, ?_⟩
                  intro o54
                  refine ⟨fun c55 => ?_, fun c55 => ?_⟩
                  · skip
                    have e57 : ((((uI M 97 16 (M 97 15)) 97 15) + 1) : Int32).toInt = ((M 97 15).toInt) + (1) := ti_add e44 rfl (by omega)
                    have hB56 : Bd (uI (uI M 97 16 (M 97 15)) 97 16 (((uI M 97 16 (M 97 15)) 97 15) + 1)) := Bd.o1 hB41 io9_112_97_12 (by decide) bd9_12_16 (show ((((uI M 97 16 (M 97 15)) 97 15) + 1) : Int32).toInt = ((M 97 15).toInt + 1) from e57) (by omega)
                    have f58 : Fr pT I (uI (uI M 97 16 (M 97 15)) 97 16 (((uI M 97 16 (M 97 15)) 97 15) + 1)) := Fr.o f42 (by decide) (by decide)
                    have hB59 : Bd (uI (uI (uI M 97 16 (M 97 15)) 97 16 (((uI M 97 16 (M 97 15)) 97 15) + 1)) 97 17 0) := Bd.o0 hB56 io9_112_97_12 (by decide) bd9_12_17
                    have f60 : Fr pT I (uI (uI (uI M 97 16 (M 97 15)) 97 16 (((uI M 97 16 (M 97 15)) 97 15) + 1)) 97 17 0) := Fr.o f58 (by decide) (by decide)
                    refine w_X12_isSignByte ?_
                    refine ⟨fun c61 => ?_, fun c61 => ?_⟩
                    · exact absurd c61 (by decide)
                    · skip
                      refine ⟨fun c62 => ?_, fun c62 => ?_⟩
                      · exact absurd c62 (by decide)
                      · skip
                        refine ⟨fun c63 => ?_, fun c63 => ?_⟩
                        · exact absurd c63 (by decide)
                        · skip
                          refine ⟨fun c64 => ?_, fun c64 => ?_⟩
                          · skip
                            refine ⟨Or.inl rfl, ?_⟩
                            intro o65
                            refine ⟨fun c66 => ?_, fun c66 => ?_⟩
                            · skip
                              have hB67 : Bd (uI (uI (uI (uI M 97 16 (M 97 15)) 97 16 (((uI M 97 16 (M 97 15)) 97 15) + 1)) 97 17 0) 97 14 4) := Bd.o1 hB59 io9_112_97_12 (by decide) bd9_12_14 (show (4 : Int32).toInt = 4 from rfl) (by omega)
                              have f68 : Fr pT I (uI (uI (uI (uI M 97 16 (M 97 15)) 97 16 (((uI M 97 16 (M 97 15)) 97 15) + 1)) 97 17 0) 97 14 4) := Fr.o f60 (by decide) (by decide)
                              have b69 := Bd.o hB0 io9_112_97_12 bd9_12_14
                              have b70 := Bd.o hB0 io9_112_97_12 bd9_12_16
                              have e71 : (((uI (uI (uI (uI M 97 16 (M 97 15)) 97 16 (((uI M 97 16 (M 97 15)) 97 15) + 1)) 97 17 0) 97 14 4) 97 14) : Int32).toInt = 4 := Eq.trans (congrArg Int32.toInt rd_eq) rfl
                              have e72 : (((uI (uI (uI (uI M 97 16 (M 97 15)) 97 16 (((uI M 97 16 (M 97 15)) 97 15) + 1)) 97 17 0) 97 14 4) 97 16) : Int32).toInt = ((M 97 15).toInt + 1) := Eq.trans (congrArg Int32.toInt (Eq.trans (Eq.trans (rd_k (by decide)) (rd_k (by decide))) rd_eq)) e57
                              exact hQ _ _ _ _ hB67 ⟨(Eq.trans (Eq.trans (Eq.trans (Eq.trans (rd_k (by decide)) (rd_k (by decide))) (rd_k (by decide))) (rd_k (by decide))) hk_97_12), (Eq.trans (Eq.trans (Eq.trans (Eq.trans (rd_k (by decide)) (rd_k (by decide))) (rd_k (by decide))) (rd_k (by decide))) hk_97_27), f68, (by have q3 : (((uI (uI (uI (uI M 97 16 (M 97 15)) 97 16 (((uI M 97 16 (M 97 15)) 97 15) + 1)) 97 17 0) 97 14 4) 97 14) : Int32).toInt = 4 := e71; have q4 : (((uI (uI (uI (uI M 97 16 (M 97 15)) 97 16 (((uI M 97 16 (M 97 15)) 97 15) + 1)) 97 17 0) 97 14 4) 97 16) : Int32).toInt = ((M 97 15).toInt + 1) := e72; omega)⟩
                            · exact absurd c66 (by decide)
                          · exact absurd c64 (by decide)
                  · exact absurd c55 (by decide)
                · exact absurd c53 (by decide)
              · exact absurd c52 (by decide)
            · exact absurd c50 (by decide)
          · skip
            have d73 : (((M 97 15).toInt) : Int) < ((M 97 9).toInt) := ci_nle e46 e44 c48
            refine ⟨vp_of (a := (M 97 15).toInt) e44 (by omega) (by omega), ?_⟩
            refine w_X12_isLetter ?_
            refine ⟨fun c74 => ?_, fun c74 => ?_⟩
            · skip
              have e75 : ((((uI M 97 16 (M 97 15)) 101 (Int32.toNatClampNeg ((uI M 97 16 (M 97 15)) 97 15))) &&& 255) : Int32).toInt = (((M 101 (Int32.toNatClampNeg (M 97 15))) &&& 255) : Int32).toInt := congrArg (fun z => (z &&& 255 : Int32).toInt) (Eq.trans (rd_ne (by first | decide | omega)) (congrArg (fun z => M 101 (Int32.toNatClampNeg z)) (rd_k (by decide))))
              have d76 : (((((M 101 (Int32.toNatClampNeg (M 97 15))) &&& 255) : Int32).toInt) : Int) < (97) := ci_lt e75 rfl c74
              refine ⟨Or.inl rfl, ?_⟩
              intro o77
              refine ⟨fun c78 => ?_, fun c78 => ?_⟩
              · skip
                refine w_X12_isDigit ?_
                refine ⟨fun c79 => ?_, fun c79 => ?_⟩
                · skip
                  have d80 : (((((M 101 (Int32.toNatClampNeg (M 97 15))) &&& 255) : Int32).toInt) : Int) < (48) := ci_lt e75 rfl c79
                  refine ⟨Or.inl rfl, ?_⟩
                  intro o81
                  refine ⟨fun c82 => ?_, fun c82 => ?_⟩
                  · skip
                    have e84 : ((((uI M 97 16 (M 97 15)) 97 15) + 1) : Int32).toInt = ((M 97 15).toInt) + (1) := ti_add e44 rfl (by omega)
                    have hB83 : Bd (uI (uI M 97 16 (M 97 15)) 97 16 (((uI M 97 16 (M 97 15)) 97 15) + 1)) := Bd.o1 hB41 io9_112_97_12 (by decide) bd9_12_16 (show ((((uI M 97 16 (M 97 15)) 97 15) + 1) : Int32).toInt = ((M 97 15).toInt + 1) from e84) (by omega)
                    have f85 : Fr pT I (uI (uI M 97 16 (M 97 15)) 97 16 (((uI M 97 16 (M 97 15)) 97 15) + 1)) := Fr.o f42 (by decide) (by decide)
                    have hB86 : Bd (uI (uI (uI M 97 16 (M 97 15)) 97 16 (((uI M 97 16 (M 97 15)) 97 15) + 1)) 97 17 (((uI M 97 16 (M 97 15)) 101 (Int32.toNatClampNeg ((uI M 97 16 (M 97 15)) 97 15))) &&& 255)) := Bd.o0 hB83 io9_112_97_12 (by decide) bd9_12_17
                    have f87 : Fr pT I (uI (uI (uI M 97 16 (M 97 15)) 97 16 (((uI M 97 16 (M 97 15)) 97 15) + 1)) 97 17 (((uI M 97 16 (M 97 15)) 101 (Int32.toNatClampNeg ((uI M 97 16 (M 97 15)) 97 15))) &&& 255)) := Fr.o f85 (by decide) (by decide)
                    refine w_X12_isSignByte ?_
                    refine ⟨fun c88 => ?_, fun c88 => ?_⟩
                    · skip
                      have d89 : (((((M 101 (Int32.toNatClampNeg (M 97 15))) &&& 255) : Int32).toInt) : Int) = (59) := ci_eq e75 rfl c88
                      refine ⟨Or.inr rfl, ?_⟩
                      intro o90
                      refine ⟨fun c91 => ?_, fun c91 => ?_⟩
                      · exact absurd c91 (by decide)
                      · skip
                        have hB92 : Bd (uI (uI (uI (uI M 97 16 (M 97 15)) 97 16 (((uI M 97 16 (M 97 15)) 97 15) + 1)) 97 17 (((uI M 97 16 (M 97 15)) 101 (Int32.toNatClampNeg ((uI M 97 16 (M 97 15)) 97 15))) &&& 255)) 97 14 3) := Bd.o1 hB86 io9_112_97_12 (by decide) bd9_12_14 (show (3 : Int32).toInt = 3 from rfl) (by omega)
                        have f93 : Fr pT I (uI (uI (uI (uI M 97 16 (M 97 15)) 97 16 (((uI M 97 16 (M 97 15)) 97 15) + 1)) 97 17 (((uI M 97 16 (M 97 15)) 101 (Int32.toNatClampNeg ((uI M 97 16 (M 97 15)) 97 15))) &&& 255)) 97 14 3) := Fr.o f87 (by decide) (by decide)
                        have b94 := Bd.o hB0 io9_112_97_12 bd9_12_14
                        have b95 := Bd.o hB0 io9_112_97_12 bd9_12_16
                        have e96 : (((uI (uI (uI (uI M 97 16 (M 97 15)) 97 16 (((uI M 97 16 (M 97 15)) 97 15) + 1)) 97 17 (((uI M 97 16 (M 97 15)) 101 (Int32.toNatClampNeg ((uI M 97 16 (M 97 15)) 97 15))) &&& 255)) 97 14 3) 97 14) : Int32).toInt = 3 := Eq.trans (congrArg Int32.toInt rd_eq) rfl
                        have e97 : (((uI (uI (uI (uI M 97 16 (M 97 15)) 97 16 (((uI M 97 16 (M 97 15)) 97 15) + 1)) 97 17 (((uI M 97 16 (M 97 15)) 101 (Int32.toNatClampNeg ((uI M 97 16 (M 97 15)) 97 15))) &&& 255)) 97 14 3) 97 16) : Int32).toInt = ((M 97 15).toInt + 1) := Eq.trans (congrArg Int32.toInt (Eq.trans (Eq.trans (rd_k (by decide)) (rd_k (by decide))) rd_eq)) e84
                        exact hQ _ _ _ _ hB92 ⟨(Eq.trans (Eq.trans (Eq.trans (Eq.trans (rd_k (by decide)) (rd_k (by decide))) (rd_k (by decide))) (rd_k (by decide))) hk_97_12), (Eq.trans (Eq.trans (Eq.trans (Eq.trans (rd_k (by decide)) (rd_k (by decide))) (rd_k (by decide))) (rd_k (by decide))) hk_97_27), f93, (by have q3 : (((uI (uI (uI (uI M 97 16 (M 97 15)) 97 16 (((uI M 97 16 (M 97 15)) 97 15) + 1)) 97 17 (((uI M 97 16 (M 97 15)) 101 (Int32.toNatClampNeg ((uI M 97 16 (M 97 15)) 97 15))) &&& 255)) 97 14 3) 97 14) : Int32).toInt = 3 := e96; have q4 : (((uI (uI (uI (uI M 97 16 (M 97 15)) 97 16 (((uI M 97 16 (M 97 15)) 97 15) + 1)) 97 17 (((uI M 97 16 (M 97 15)) 101 (Int32.toNatClampNeg ((uI M 97 16 (M 97 15)) 97 15))) &&& 255)) 97 14 3) 97 16) : Int32).toInt = ((M 97 15).toInt + 1) := e97; omega)⟩
                    · skip
                      have d98 : ¬ (((((M 101 (Int32.toNatClampNeg (M 97 15))) &&& 255) : Int32).toInt) : Int) = (59) := ci_ne e75 rfl c88
                      refine ⟨fun c99 => ?_, fun c99 => ?_⟩
                      · skip
                        have d100 : (((((M 101 (Int32.toNatClampNeg (M 97 15))) &&& 255) : Int32).toInt) : Int) = (60) := ci_eq e75 rfl c99
                        refine ⟨Or.inr rfl, ?_⟩
                        intro o101
                        refine ⟨fun c102 => ?_, fun c102 => ?_⟩
                        · exact absurd c102 (by decide)
                        · skip
                          have hB103 : Bd (uI (uI (uI (uI M 97 16 (M 97 15)) 97 16 (((uI M 97 16 (M 97 15)) 97 15) + 1)) 97 17 (((uI M 97 16 (M 97 15)) 101 (Int32.toNatClampNeg ((uI M 97 16 (M 97 15)) 97 15))) &&& 255)) 97 14 3) := Bd.o1 hB86 io9_112_97_12 (by decide) bd9_12_14 (show (3 : Int32).toInt = 3 from rfl) (by omega)
                          have f104 : Fr pT I (uI (uI (uI (uI M 97 16 (M 97 15)) 97 16 (((uI M 97 16 (M 97 15)) 97 15) + 1)) 97 17 (((uI M 97 16 (M 97 15)) 101 (Int32.toNatClampNeg ((uI M 97 16 (M 97 15)) 97 15))) &&& 255)) 97 14 3) := Fr.o f87 (by decide) (by decide)
                          have b105 := Bd.o hB0 io9_112_97_12 bd9_12_14
                          have b106 := Bd.o hB0 io9_112_97_12 bd9_12_16
                          have e107 : (((uI (uI (uI (uI M 97 16 (M 97 15)) 97 16 (((uI M 97 16 (M 97 15)) 97 15) + 1)) 97 17 (((uI M 97 16 (M 97 15)) 101 (Int32.toNatClampNeg ((uI M 97 16 (M 97 15)) 97 15))) &&& 255)) 97 14 3) 97 14) : Int32).toInt = 3 := Eq.trans (congrArg Int32.toInt rd_eq) rfl
                          have e108 : (((uI (uI (uI (uI M 97 16 (M 97 15)) 97 16 (((uI M 97 16 (M 97 15)) 97 15) + 1)) 97 17 (((uI M 97 16 (M 97 15)) 101 (Int32.toNatClampNeg ((uI M 97 16 (M 97 15)) 97 15))) &&& 255)) 97 14 3) 97 16) : Int32).toInt = ((M 97 15).toInt + 1) := Eq.trans (congrArg Int32.toInt (Eq.trans (Eq.trans (rd_k (by decide)) (rd_k (by decide))) rd_eq)) e84
                          exact hQ _ _ _ _ hB103 ⟨(Eq.trans (Eq.trans (Eq.trans (Eq.trans (rd_k (by decide)) (rd_k (by decide))) (rd_k (by decide))) (rd_k (by decide))) hk_97_12), (Eq.trans (Eq.trans (Eq.trans (Eq.trans (rd_k (by decide)) (rd_k (by decide))) (rd_k (by decide))) (rd_k (by decide))) hk_97_27), f104, (by have q3 : (((uI (uI (uI (uI M 97 16 (M 97 15)) 97 16 (((uI M 97 16 (M 97 15)) 97 15) + 1)) 97 17 (((uI M 97 16 (M 97 15)) 101 (Int32.toNatClampNeg ((uI M 97 16 (M 97 15)) 97 15))) &&& 255)) 97 14 3) 97 14) : Int32).toInt = 3 := e107; have q4 : (((uI (uI (uI (uI M 97 16 (M 97 15)) 97 16 (((uI M 97 16 (M 97 15)) 97 15) + 1)) 97 17 (((uI M 97 16 (M 97 15)) 101 (Int32.toNatClampNeg ((uI M 97 16 (M 97 15)) 97 15))) &&& 255)) 97 14 3) 97 16) : Int32).toInt = ((M 97 15).toInt + 1) := e108; omega)⟩
                      · skip
                        have d109 : ¬ (((((M 101 (Int32.toNatClampNeg (M 97 15))) &&& 255) : Int32).toInt) : Int) = (60) := ci_ne e75 rfl c99
                        refine ⟨fun c110 => ?_, fun c110 => ?_⟩
                        · skip
                          have d111 : (((((M 101 (Int32.toNatClampNeg (M 97 15))) &&& 255) : Int32).toInt) : Int) = (62) := ci_eq e75 rfl c110
                          refine ⟨Or.inr rfl, ?_⟩
                          intro o112
                          refine ⟨fun c113 => ?_, fun c113 => ?_⟩
                          · exact absurd c113 (by decide)
                          · skip
                            have hB114 : Bd (uI (uI (uI (uI M 97 16 (M 97 15)) 97 16 (((uI M 97 16 (M 97 15)) 97 15) + 1)) 97 17 (((uI M 97 16 (M 97 15)) 101 (Int32.toNatClampNeg ((uI M 97 16 (M 97 15)) 97 15))) &&& 255)) 97 14 3) := Bd.o1 hB86 io9_112_97_12 (by decide) bd9_12_14 (show (3 : Int32).toInt = 3 from rfl) (by omega)
                            have f115 : Fr pT I (uI (uI (uI (uI M 97 16 (M 97 15)) 97 16 (((uI M 97 16 (M 97 15)) 97 15) + 1)) 97 17 (((uI M 97 16 (M 97 15)) 101 (Int32.toNatClampNeg ((uI M 97 16 (M 97 15)) 97 15))) &&& 255)) 97 14 3) := Fr.o f87 (by decide) (by decide)
                            have b116 := Bd.o hB0 io9_112_97_12 bd9_12_14
                            have b117 := Bd.o hB0 io9_112_97_12 bd9_12_16
                            have e118 : (((uI (uI (uI (uI M 97 16 (M 97 15)) 97 16 (((uI M 97 16 (M 97 15)) 97 15) + 1)) 97 17 (((uI M 97 16 (M 97 15)) 101 (Int32.toNatClampNeg ((uI M 97 16 (M 97 15)) 97 15))) &&& 255)) 97 14 3) 97 14) : Int32).toInt = 3 := Eq.trans (congrArg Int32.toInt rd_eq) rfl
                            have e119 : (((uI (uI (uI (uI M 97 16 (M 97 15)) 97 16 (((uI M 97 16 (M 97 15)) 97 15) + 1)) 97 17 (((uI M 97 16 (M 97 15)) 101 (Int32.toNatClampNeg ((uI M 97 16 (M 97 15)) 97 15))) &&& 255)) 97 14 3) 97 16) : Int32).toInt = ((M 97 15).toInt + 1) := Eq.trans (congrArg Int32.toInt (Eq.trans (Eq.trans (rd_k (by decide)) (rd_k (by decide))) rd_eq)) e84
                            exact hQ _ _ _ _ hB114 ⟨(Eq.trans (Eq.trans (Eq.trans (Eq.trans (rd_k (by decide)) (rd_k (by decide))) (rd_k (by decide))) (rd_k (by decide))) hk_97_12), (Eq.trans (Eq.trans (Eq.trans (Eq.trans (rd_k (by decide)) (rd_k (by decide))) (rd_k (by decide))) (rd_k (by decide))) hk_97_27), f115, (by have q3 : (((uI (uI (uI (uI M 97 16 (M 97 15)) 97 16 (((uI M 97 16 (M 97 15)) 97 15) + 1)) 97 17 (((uI M 97 16 (M 97 15)) 101 (Int32.toNatClampNeg ((uI M 97 16 (M 97 15)) 97 15))) &&& 255)) 97 14 3) 97 14) : Int32).toInt = 3 := e118; have q4 : (((uI (uI (uI (uI M 97 16 (M 97 15)) 97 16 (((uI M 97 16 (M 97 15)) 97 15) + 1)) 97 17 (((uI M 97 16 (M 97 15)) 101 (Int32.toNatClampNeg ((uI M 97 16 (M 97 15)) 97 15))) &&& 255)) 97 14 3) 97 16) : Int32).toInt = ((M 97 15).toInt + 1) := e119; omega)⟩
                        · skip
                          have d120 : ¬ (((((M 101 (Int32.toNatClampNeg (M 97 15))) &&& 255) : Int32).toInt) : Int) = (62) := ci_ne e75 rfl c110
                          refine ⟨fun c121 => ?_, fun c121 => ?_⟩
                          · skip
                            have d122 : ¬ (((((M 101 (Int32.toNatClampNeg (M 97 15))) &&& 255) : Int32).toInt) : Int) = (61) := ci_ne e75 rfl c121
                            refine ⟨Or.inl rfl, ?_⟩
                            intro o123
                            refine ⟨fun c124 => ?_, fun c124 => ?_⟩
                            · skip
                              have hB125 : Bd (uI (uI (uI (uI M 97 16 (M 97 15)) 97 16 (((uI M 97 16 (M 97 15)) 97 15) + 1)) 97 17 (((uI M 97 16 (M 97 15)) 101 (Int32.toNatClampNeg ((uI M 97 16 (M 97 15)) 97 15))) &&& 255)) 97 14 4) := Bd.o1 hB86 io9_112_97_12 (by decide) bd9_12_14 (show (4 : Int32).toInt = 4 from rfl) (by omega)
                              have f126 : Fr pT I (uI (uI (uI (uI M 97 16 (M 97 15)) 97 16 (((uI M 97 16 (M 97 15)) 97 15) + 1)) 97 17 (((uI M 97 16 (M 97 15)) 101 (Int32.toNatClampNeg ((uI M 97 16 (M 97 15)) 97 15))) &&& 255)) 97 14 4) := Fr.o f87 (by decide) (by decide)
                              have b127 := Bd.o hB0 io9_112_97_12 bd9_12_14
                              have b128 := Bd.o hB0 io9_112_97_12 bd9_12_16
                              have e129 : (((uI (uI (uI (uI M 97 16 (M 97 15)) 97 16 (((uI M 97 16 (M 97 15)) 97 15) + 1)) 97 17 (((uI M 97 16 (M 97 15)) 101 (Int32.toNatClampNeg ((uI M 97 16 (M 97 15)) 97 15))) &&& 255)) 97 14 4) 97 14) : Int32).toInt = 4 := Eq.trans (congrArg Int32.toInt rd_eq) rfl
                              have e130 : (((uI (uI (uI (uI M 97 16 (M 97 15)) 97 16 (((uI M 97 16 (M 97 15)) 97 15) + 1)) 97 17 (((uI M 97 16 (M 97 15)) 101 (Int32.toNatClampNeg ((uI M 97 16 (M 97 15)) 97 15))) &&& 255)) 97 14 4) 97 16) : Int32).toInt = ((M 97 15).toInt + 1) := Eq.trans (congrArg Int32.toInt (Eq.trans (Eq.trans (rd_k (by decide)) (rd_k (by decide))) rd_eq)) e84
                              exact hQ _ _ _ _ hB125 ⟨(Eq.trans (Eq.trans (Eq.trans (Eq.trans (rd_k (by decide)) (rd_k (by decide))) (rd_k (by decide))) (rd_k (by decide))) hk_97_12), (Eq.trans (Eq.trans (Eq.trans (Eq.trans (rd_k (by decide)) (rd_k (by decide))) (rd_k (by decide))) (rd_k (by decide))) hk_97_27), f126, (by have q3 : (((uI (uI (uI (uI M 97 16 (M 97 15)) 97 16 (((uI M 97 16 (M 97 15)) 97 15) + 1)) 97 17 (((uI M 97 16 (M 97 15)) 101 (Int32.toNatClampNeg ((uI M 97 16 (M 97 15)) 97 15))) &&& 255)) 97 14 4) 97 14) : Int32).toInt = 4 := e129; have q4 : (((uI (uI (uI (uI M 97 16 (M 97 15)) 97 16 (((uI M 97 16 (M 97 15)) 97 15) + 1)) 97 17 (((uI M 97 16 (M 97 15)) 101 (Int32.toNatClampNeg ((uI M 97 16 (M 97 15)) 97 15))) &&& 255)) 97 14 4) 97 16) : Int32).toInt = ((M 97 15).toInt + 1) := e130; omega)⟩
                            · exact absurd c124 (by decide)
                          · skip
                            have d131 : (((((M 101 (Int32.toNatClampNeg (M 97 15))) &&& 255) : Int32).toInt) : Int) = (61) := ci_eq e75 rfl c121
                            refine ⟨Or.inr rfl, ?_⟩
                            intro o132
                            refine ⟨fun c133 => ?_, fun c133 => ?_⟩
                            · exact absurd c133 (by decide)
                            · skip
                              have hB134 : Bd (uI (uI (uI (uI M 97 16 (M 97 15)) 97 16 (((uI M 97 16 (M 97 15)) 97 15) + 1)) 97 17 (((uI M 97 16 (M 97 15)) 101 (Int32.toNatClampNeg ((uI M 97 16 (M 97 15)) 97 15))) &&& 255)) 97 14 3) := Bd.o1 hB86 io9_112_97_12 (by decide) bd9_12_14 (show (3 : Int32).toInt = 3 from rfl) (by omega)
                              have f135 : Fr pT I (uI (uI (uI (uI M 97 16 (M 97 15)) 97 16 (((uI M 97 16 (M 97 15)) 97 15) + 1)) 97 17 (((uI M 97 16 (M 97 15)) 101 (Int32.toNatClampNeg ((uI M 97 16 (M 97 15)) 97 15))) &&& 255)) 97 14 3) := Fr.o f87 (by decide) (by decide)
                              have b136 := Bd.o hB0 io9_112_97_12 bd9_12_14
                              have b137 := Bd.o hB0 io9_112_97_12 bd9_12_16
                              have e138 : (((uI (uI (uI (uI M 97 16 (M 97 15)) 97 16 (((uI M 97 16 (M 97 15)) 97 15) + 1)) 97 17 (((uI M 97 16 (M 97 15)) 101 (Int32.toNatClampNeg ((uI M 97 16 (M 97 15)) 97 15))) &&& 255)) 97 14 3) 97 14) : Int32).toInt = 3 := Eq.trans (congrArg Int32.toInt rd_eq) rfl
                              have e139 : (((uI (uI (uI (uI M 97 16 (M 97 15)) 97 16 (((uI M 97 16 (M 97 15)) 97 15) + 1)) 97 17 (((uI M 97 16 (M 97 15)) 101 (Int32.toNatClampNeg ((uI M 97 16 (M 97 15)) 97 15))) &&& 255)) 97 14 3) 97 16) : Int32).toInt = ((M 97 15).toInt + 1) := Eq.trans (congrArg Int32.toInt (Eq.trans (Eq.trans (rd_k (by decide)) (rd_k (by decide))) rd_eq)) e84
                              exact hQ _ _ _ _ hB134 ⟨(Eq.trans (Eq.trans (Eq.trans (Eq.trans (rd_k (by decide)) (rd_k (by decide))) (rd_k (by decide))) (rd_k (by decide))) hk_97_12), (Eq.trans (Eq.trans (Eq.trans (Eq.trans (rd_k (by decide)) (rd_k (by decide))) (rd_k (by decide))) (rd_k (by decide))) hk_97_27), f135, (by have q3 : (((uI (uI (uI (uI M 97 16 (M 97 15)) 97 16 (((uI M 97 16 (M 97 15)) 97 15) + 1)) 97 17 (((uI M 97 16 (M 97 15)) 101 (Int32.toNatClampNeg ((uI M 97 16 (M 97 15)) 97 15))) &&& 255)) 97 14 3) 97 14) : Int32).toInt = 3 := e138; have q4 : (((uI (uI (uI (uI M 97 16 (M 97 15)) 97 16 (((uI M 97 16 (M 97 15)) 97 15) + 1)) 97 17 (((uI M 97 16 (M 97 15)) 101 (Int32.toNatClampNeg ((uI M 97 16 (M 97 15)) 97 15))) &&& 255)) 97 14 3) 97 16) : Int32).toInt = ((M 97 15).toInt + 1) := e139; omega)⟩
                  · exact absurd c82 (by decide)
                · skip
                  have d140 : ((48) : Int) ≤ ((((M 101 (Int32.toNatClampNeg (M 97 15))) &&& 255) : Int32).toInt) := ci_nlt e75 rfl c79
                  refine ⟨fun c141 => ?_, fun c141 => ?_⟩
                  · skip
                    have d142 : ((57) : Int) < ((((M 101 (Int32.toNatClampNeg (M 97 15))) &&& 255) : Int32).toInt) := ci_lt rfl e75 c141
                    refine ⟨Or.inl rfl, ?_⟩
                    intro o143
                    refine ⟨fun c144 => ?_, fun c144 => ?_⟩
                    · skip
                      have e146 : ((((uI M 97 16 (M 97 15)) 97 15) + 1) : Int32).toInt = ((M 97 15).toInt) + (1) := ti_add e44 rfl (by omega)
                      have hB145 : Bd (uI (uI M 97 16 (M 97 15)) 97 16 (((uI M 97 16 (M 97 15)) 97 15) + 1)) := Bd.o1 hB41 io9_112_97_12 (by decide) bd9_12_16 (show ((((uI M 97 16 (M 97 15)) 97 15) + 1) : Int32).toInt = ((M 97 15).toInt + 1) from e146) (by omega)
                      have f147 : Fr pT I (uI (uI M 97 16 (M 97 15)) 97 16 (((uI M 97 16 (M 97 15)) 97 15) + 1)) := Fr.o f42 (by decide) (by decide)
                      have hB148 : Bd (uI (uI (uI M 97 16 (M 97 15)) 97 16 (((uI M 97 16 (M 97 15)) 97 15) + 1)) 97 17 (((uI M 97 16 (M 97 15)) 101 (Int32.toNatClampNeg ((uI M 97 16 (M 97 15)) 97 15))) &&& 255)) := Bd.o0 hB145 io9_112_97_12 (by decide) bd9_12_17
                      have f149 : Fr pT I (uI (uI (uI M 97 16 (M 97 15)) 97 16 (((uI M 97 16 (M 97 15)) 97 15) + 1)) 97 17 (((uI M 97 16 (M 97 15)) 101 (Int32.toNatClampNeg ((uI M 97 16 (M 97 15)) 97 15))) &&& 255)) := Fr.o f147 (by decide) (by decide)
                      refine w_X12_isSignByte ?_
                      refine ⟨fun c150 => ?_, fun c150 => ?_⟩
                      · skip
                        have d151 : (((((M 101 (Int32.toNatClampNeg (M 97 15))) &&& 255) : Int32).toInt) : Int) = (59) := ci_eq e75 rfl c150
                        refine ⟨Or.inr rfl, ?_⟩
                        intro o152
                        refine ⟨fun c153 => ?_, fun c153 => ?_⟩
                        · exact absurd c153 (by decide)
                        · skip
                          have hB154 : Bd (uI (uI (uI (uI M 97 16 (M 97 15)) 97 16 (((uI M 97 16 (M 97 15)) 97 15) + 1)) 97 17 (((uI M 97 16 (M 97 15)) 101 (Int32.toNatClampNeg ((uI M 97 16 (M 97 15)) 97 15))) &&& 255)) 97 14 3) := Bd.o1 hB148 io9_112_97_12 (by decide) bd9_12_14 (show (3 : Int32).toInt = 3 from rfl) (by omega)
                          have f155 : Fr pT I (uI (uI (uI (uI M 97 16 (M 97 15)) 97 16 (((uI M 97 16 (M 97 15)) 97 15) + 1)) 97 17 (((uI M 97 16 (M 97 15)) 101 (Int32.toNatClampNeg ((uI M 97 16 (M 97 15)) 97 15))) &&& 255)) 97 14 3) := Fr.o f149 (by decide) (by decide)
                          have b156 := Bd.o hB0 io9_112_97_12 bd9_12_14
                          have b157 := Bd.o hB0 io9_112_97_12 bd9_12_16
                          have e158 : (((uI (uI (uI (uI M 97 16 (M 97 15)) 97 16 (((uI M 97 16 (M 97 15)) 97 15) + 1)) 97 17 (((uI M 97 16 (M 97 15)) 101 (Int32.toNatClampNeg ((uI M 97 16 (M 97 15)) 97 15))) &&& 255)) 97 14 3) 97 14) : Int32).toInt = 3 := Eq.trans (congrArg Int32.toInt rd_eq) rfl
                          have e159 : (((uI (uI (uI (uI M 97 16 (M 97 15)) 97 16 (((uI M 97 16 (M 97 15)) 97 15) + 1)) 97 17 (((uI M 97 16 (M 97 15)) 101 (Int32.toNatClampNeg ((uI M 97 16 (M 97 15)) 97 15))) &&& 255)) 97 14 3) 97 16) : Int32).toInt = ((M 97 15).toInt + 1) := Eq.trans (congrArg Int32.toInt (Eq.trans (Eq.trans (rd_k (by decide)) (rd_k (by decide))) rd_eq)) e146
                          exact hQ _ _ _ _ hB154 ⟨(Eq.trans (Eq.trans (Eq.trans (Eq.trans (rd_k (by decide)) (rd_k (by decide))) (rd_k (by decide))) (rd_k (by decide))) hk_97_12), (Eq.trans (Eq.trans (Eq.trans (Eq.trans (rd_k (by decide)) (rd_k (by decide))) (rd_k (by decide))) (rd_k (by decide))) hk_97_27), f155, (by have q3 : (((uI (uI (uI (uI M 97 16 (M 97 15)) 97 16 (((uI M 97 16 (M 97 15)) 97 15) + 1)) 97 17 (((uI M 97 16 (M 97 15)) 101 (Int32.toNatClampNeg ((uI M 97 16 (M 97 15)) 97 15))) &&& 255)) 97 14 3) 97 14) : Int32).toInt = 3 := e158; have q4 : (((uI (uI (uI (uI M 97 16 (M 97 15)) 97 16 (((uI M 97 16 (M 97 15)) 97 15) + 1)) 97 17 (((uI M 97 16 (M 97 15)) 101 (Int32.toNatClampNeg ((uI M 97 16 (M 97 15)) 97 15))) &&& 255)) 97 14 3) 97 16) : Int32).toInt = ((M 97 15).toInt + 1) := e159; omega)⟩
                      · skip
                        have d160 : ¬ (((((M 101 (Int32.toNatClampNeg (M 97 15))) &&& 255) : Int32).toInt) : Int) = (59) := ci_ne e75 rfl c150
                        refine ⟨fun c161 => ?_, fun c161 => ?_⟩
                        · skip
                          have d162 : (((((M 101 (Int32.toNatClampNeg (M 97 15))) &&& 255) : Int32).toInt) : Int) = (60) := ci_eq e75 rfl c161
                          refine ⟨Or.inr rfl, ?_⟩
                          intro o163
                          refine ⟨fun c164 => ?_, fun c164 => ?_⟩
                          · exact absurd c164 (by decide)
                          · skip
                            have hB165 : Bd (uI (uI (uI (uI M 97 16 (M 97 15)) 97 16 (((uI M 97 16 (M 97 15)) 97 15) + 1)) 97 17 (((uI M 97 16 (M 97 15)) 101 (Int32.toNatClampNeg ((uI M 97 16 (M 97 15)) 97 15))) &&& 255)) 97 14 3) := Bd.o1 hB148 io9_112_97_12 (by decide) bd9_12_14 (show (3 : Int32).toInt = 3 from rfl) (by omega)
                            have f166 : Fr pT I (uI (uI (uI (uI M 97 16 (M 97 15)) 97 16 (((uI M 97 16 (M 97 15)) 97 15) + 1)) 97 17 (((uI M 97 16 (M 97 15)) 101 (Int32.toNatClampNeg ((uI M 97 16 (M 97 15)) 97 15))) &&& 255)) 97 14 3) := Fr.o f149 (by decide) (by decide)
                            have b167 := Bd.o hB0 io9_112_97_12 bd9_12_14
                            have b168 := Bd.o hB0 io9_112_97_12 bd9_12_16
                            have e169 : (((uI (uI (uI (uI M 97 16 (M 97 15)) 97 16 (((uI M 97 16 (M 97 15)) 97 15) + 1)) 97 17 (((uI M 97 16 (M 97 15)) 101 (Int32.toNatClampNeg ((uI M 97 16 (M 97 15)) 97 15))) &&& 255)) 97 14 3) 97 14) : Int32).toInt = 3 := Eq.trans (congrArg Int32.toInt rd_eq) rfl
                            have e170 : (((uI (uI (uI (uI M 97 16 (M 97 15)) 97 16 (((uI M 97 16 (M 97 15)) 97 15) + 1)) 97 17 (((uI M 97 16 (M 97 15)) 101 (Int32.toNatClampNeg ((uI M 97 16 (M 97 15)) 97 15))) &&& 255)) 97 14 3) 97 16) : Int32).toInt = ((M 97 15).toInt + 1) := Eq.trans (congrArg Int32.toInt (Eq.trans (Eq.trans (rd_k (by decide)) (rd_k (by decide))) rd_eq)) e146
                            exact hQ _ _ _ _ hB165 ⟨(Eq.trans (Eq.trans (Eq.trans (Eq.trans (rd_k (by decide)) (rd_k (by decide))) (rd_k (by decide))) (rd_k (by decide))) hk_97_12), (Eq.trans (Eq.trans (Eq.trans (Eq.trans (rd_k (by decide)) (rd_k (by decide))) (rd_k (by decide))) (rd_k (by decide))) hk_97_27), f166, (by have q3 : (((uI (uI (uI (uI M 97 16 (M 97 15)) 97 16 (((uI M 97 16 (M 97 15)) 97 15) + 1)) 97 17 (((uI M 97 16 (M 97 15)) 101 (Int32.toNatClampNeg ((uI M 97 16 (M 97 15)) 97 15))) &&& 255)) 97 14 3) 97 14) : Int32).toInt = 3 := e169; have q4 : (((uI (uI (uI (uI M 97 16 (M 97 15)) 97 16 (((uI M 97 16 (M 97 15)) 97 15) + 1)) 97 17 (((uI M 97 16 (M 97 15)) 101 (Int32.toNatClampNeg ((uI M 97 16 (M 97 15)) 97 15))) &&& 255)) 97 14 3) 97 16) : Int32).toInt = ((M 97 15).toInt + 1) := e170; omega)⟩
                        · skip
                          have d171 : ¬ (((((M 101 (Int32.toNatClampNeg (M 97 15))) &&& 255) : Int32).toInt) : Int) = (60) := ci_ne e75 rfl c161
                          refine ⟨fun c172 => ?_, fun c172 => ?_⟩
                          · skip
                            have d173 : (((((M 101 (Int32.toNatClampNeg (M 97 15))) &&& 255) : Int32).toInt) : Int) = (62) := ci_eq e75 rfl c172
                            refine ⟨Or.inr rfl, ?_⟩
                            intro o174
                            refine ⟨fun c175 => ?_, fun c175 => ?_⟩
                            · exact absurd c175 (by decide)
                            · skip
                              have hB176 : Bd (uI (uI (uI (uI M 97 16 (M 97 15)) 97 16 (((uI M 97 16 (M 97 15)) 97 15) + 1)) 97 17 (((uI M 97 16 (M 97 15)) 101 (Int32.toNatClampNeg ((uI M 97 16 (M 97 15)) 97 15))) &&& 255)) 97 14 3) := Bd.o1 hB148 io9_112_97_12 (by decide) bd9_12_14 (show (3 : Int32).toInt = 3 from rfl) (by omega)
                              have f177 : Fr pT I (uI (uI (uI (uI M 97 16 (M 97 15)) 97 16 (((uI M 97 16 (M 97 15)) 97 15) + 1)) 97 17 (((uI M 97 16 (M 97 15)) 101 (Int32.toNatClampNeg ((uI M 97 16 (M 97 15)) 97 15))) &&& 255)) 97 14 3) := Fr.o f149 (by decide) (by decide)
                              have b178 := Bd.o hB0 io9_112_97_12 bd9_12_14
                              have b179 := Bd.o hB0 io9_112_97_12 bd9_12_16
                              have e180 : (((uI (uI (uI (uI M 97 16 (M 97 15)) 97 16 (((uI M 97 16 (M 97 15)) 97 15) + 1)) 97 17 (((uI M 97 16 (M 97 15)) 101 (Int32.toNatClampNeg ((uI M 97 16 (M 97 15)) 97 15))) &&& 255)) 97 14 3) 97 14) : Int32).toInt = 3 := Eq.trans (congrArg Int32.toInt rd_eq) rfl
                              have e181 : (((uI (uI (uI (uI M 97 16 (M 97 15)) 97 16 (((uI M 97 16 (M 97 15)) 97 15) + 1)) 97 17 (((uI M 97 16 (M 97 15)) 101 (Int32.toNatClampNeg ((uI M 97 16 (M 97 15)) 97 15))) &&& 255)) 97 14 3) 97 16) : Int32).toInt = ((M 97 15).toInt + 1) := Eq.trans (congrArg Int32.toInt (Eq.trans (Eq.trans (rd_k (by decide)) (rd_k (by decide))) rd_eq)) e146
                              exact hQ _ _ _ _ hB176 ⟨(Eq.trans (Eq.trans (Eq.trans (Eq.trans (rd_k (by decide)) (rd_k (by decide))) (rd_k (by decide))) (rd_k (by decide))) hk_97_12), (Eq.trans (Eq.trans (Eq.trans (Eq.trans (rd_k (by decide)) (rd_k (by decide))) (rd_k (by decide))) (rd_k (by decide))) hk_97_27), f177, (by have q3 : (((uI (uI (uI (uI M 97 16 (M 97 15)) 97 16 (((uI M 97 16 (M 97 15)) 97 15) + 1)) 97 17 (((uI M 97 16 (M 97 15)) 101 (Int32.toNatClampNeg ((uI M 97 16 (M 97 15)) 97 15))) &&& 255)) 97 14 3) 97 14) : Int32).toInt = 3 := e180; have q4 : (((uI (uI (uI (uI M 97 16 (M 97 15)) 97 16 (((uI M 97 16 (M 97 15)) 97 15) + 1)) 97 17 (((uI M 97 16 (M 97 15)) 101 (Int32.toNatClampNeg ((uI M 97 16 (M 97 15)) 97 15))) &&& 255)) 97 14 3) 97 16) : Int32).toInt = ((M 97 15).toInt + 1) := e181; omega)⟩
                          · skip
                            have d182 : ¬ (((((M 101 (Int32.toNatClampNeg (M 97 15))) &&& 255) : Int32).toInt) : Int) = (62) := ci_ne e75 rfl c172
                            refine ⟨fun c183 => ?_, fun c183 => ?_⟩
                            · skip
                              have d184 : ¬ (((((M 101 (Int32.toNatClampNeg (M 97 15))) &&& 255) : Int32).toInt) : Int) = (61) := ci_ne e75 rfl c183
                              refine ⟨Or.inl rfl, ?_⟩
                              intro o185
                              refine ⟨fun c186 => ?_, fun c186 => ?_⟩
                              · skip
                                have hB187 : Bd (uI (uI (uI (uI M 97 16 (M 97 15)) 97 16 (((uI M 97 16 (M 97 15)) 97 15) + 1)) 97 17 (((uI M 97 16 (M 97 15)) 101 (Int32.toNatClampNeg ((uI M 97 16 (M 97 15)) 97 15))) &&& 255)) 97 14 4) := Bd.o1 hB148 io9_112_97_12 (by decide) bd9_12_14 (show (4 : Int32).toInt = 4 from rfl) (by omega)
                                have f188 : Fr pT I (uI (uI (uI (uI M 97 16 (M 97 15)) 97 16 (((uI M 97 16 (M 97 15)) 97 15) + 1)) 97 17 (((uI M 97 16 (M 97 15)) 101 (Int32.toNatClampNeg ((uI M 97 16 (M 97 15)) 97 15))) &&& 255)) 97 14 4) := Fr.o f149 (by decide) (by decide)
                                have b189 := Bd.o hB0 io9_112_97_12 bd9_12_14
                                have b190 := Bd.o hB0 io9_112_97_12 bd9_12_16
                                have e191 : (((uI (uI (uI (uI M 97 16 (M 97 15)) 97 16 (((uI M 97 16 (M 97 15)) 97 15) + 1)) 97 17 (((uI M 97 16 (M 97 15)) 101 (Int32.toNatClampNeg ((uI M 97 16 (M 97 15)) 97 15))) &&& 255)) 97 14 4) 97 14) : Int32).toInt = 4 := Eq.trans (congrArg Int32.toInt rd_eq) rfl
                                have e192 : (((uI (uI (uI (uI M 97 16 (M 97 15)) 97 16 (((uI M 97 16 (M 97 15)) 97 15) + 1)) 97 17 (((uI M 97 16 (M 97 15)) 101 (Int32.toNatClampNeg ((uI M 97 16 (M 97 15)) 97 15))) &&& 255)) 97 14 4) 97 16) : Int32).toInt = ((M 97 15).toInt + 1) := Eq.trans (congrArg Int32.toInt (Eq.trans (Eq.trans (rd_k (by decide)) (rd_k (by decide))) rd_eq)) e146
                                exact hQ _ _ _ _ hB187 ⟨(Eq.trans (Eq.trans (Eq.trans (Eq.trans (rd_k (by decide)) (rd_k (by decide))) (rd_k (by decide))) (rd_k (by decide))) hk_97_12), (Eq.trans (Eq.trans (Eq.trans (Eq.trans (rd_k (by decide)) (rd_k (by decide))) (rd_k (by decide))) (rd_k (by decide))) hk_97_27), f188, (by have q3 : (((uI (uI (uI (uI M 97 16 (M 97 15)) 97 16 (((uI M 97 16 (M 97 15)) 97 15) + 1)) 97 17 (((uI M 97 16 (M 97 15)) 101 (Int32.toNatClampNeg ((uI M 97 16 (M 97 15)) 97 15))) &&& 255)) 97 14 4) 97 14) : Int32).toInt = 4 := e191; have q4 : (((uI (uI (uI (uI M 97 16 (M 97 15)) 97 16 (((uI M 97 16 (M 97 15)) 97 15) + 1)) 97 17 (((uI M 97 16 (M 97 15)) 101 (Int32.toNatClampNeg ((uI M 97 16 (M 97 15)) 97 15))) &&& 255)) 97 14 4) 97 16) : Int32).toInt = ((M 97 15).toInt + 1) := e192; omega)⟩
                              · exact absurd c186 (by decide)
                            · skip
                              have d193 : (((((M 101 (Int32.toNatClampNeg (M 97 15))) &&& 255) : Int32).toInt) : Int) = (61) := ci_eq e75 rfl c183
                              refine ⟨Or.inr rfl, ?_⟩
                              intro o194
                              refine ⟨fun c195 => ?_, fun c195 => ?_⟩
                              · exact absurd c195 (by decide)
                              · skip
                                have hB196 : Bd (uI (uI (uI (uI M 97 16 (M 97 15)) 97 16 (((uI M 97 16 (M 97 15)) 97 15) + 1)) 97 17 (((uI M 97 16 (M 97 15)) 101 (Int32.toNatClampNeg ((uI M 97 16 (M 97 15)) 97 15))) &&& 255)) 97 14 3) := Bd.o1 hB148 io9_112_97_12 (by decide) bd9_12_14 (show (3 : Int32).toInt = 3 from rfl) (by omega)
                                have f197 : Fr pT I (uI (uI (uI (uI M 97 16 (M 97 15)) 97 16 (((uI M 97 16 (M 97 15)) 97 15) + 1)) 97 17 (((uI M 97 16 (M 97 15)) 101 (Int32.toNatClampNeg ((uI M 97 16 (M 97 15)) 97 15))) &&& 255)) 97 14 3) := Fr.o f149 (by decide) (by decide)
                                have b198 := Bd.o hB0 io9_112_97_12 bd9_12_14
                                have b199 := Bd.o hB0 io9_112_97_12 bd9_12_16
                                have e200 : (((uI (uI (uI (uI M 97 16 (M 97 15)) 97 16 (((uI M 97 16 (M 97 15)) 97 15) + 1)) 97 17 (((uI M 97 16 (M 97 15)) 101 (Int32.toNatClampNeg ((uI M 97 16 (M 97 15)) 97 15))) &&& 255)) 97 14 3) 97 14) : Int32).toInt = 3 := Eq.trans (congrArg Int32.toInt rd_eq) rfl
                                have e201 : (((uI (uI (uI (uI M 97 16 (M 97 15)) 97 16 (((uI M 97 16 (M 97 15)) 97 15) + 1)) 97 17 (((uI M 97 16 (M 97 15)) 101 (Int32.toNatClampNeg ((uI M 97 16 (M 97 15)) 97 15))) &&& 255)) 97 14 3) 97 16) : Int32).toInt = ((M 97 15).toInt + 1) := Eq.trans (congrArg Int32.toInt (Eq.trans (Eq.trans (rd_k (by decide)) (rd_k (by decide))) rd_eq)) e146
                                exact hQ _ _ _ _ hB196 ⟨(Eq.trans (Eq.trans (Eq.trans (Eq.trans (rd_k (by decide)) (rd_k (by decide))) (rd_k (by decide))) (rd_k (by decide))) hk_97_12), (Eq.trans (Eq.trans (Eq.trans (Eq.trans (rd_k (by decide)) (rd_k (by decide))) (rd_k (by decide))) (rd_k (by decide))) hk_97_27), f197, (by have q3 : (((uI (uI (uI (uI M 97 16 (M 97 15)) 97 16 (((uI M 97 16 (M 97 15)) 97 15) + 1)) 97 17 (((uI M 97 16 (M 97 15)) 101 (Int32.toNatClampNeg ((uI M 97 16 (M 97 15)) 97 15))) &&& 255)) 97 14 3) 97 14) : Int32).toInt = 3 := e200; have q4 : (((uI (uI (uI (uI M 97 16 (M 97 15)) 97 16 (((uI M 97 16 (M 97 15)) 97 15) + 1)) 97 17 (((uI M 97 16 (M 97 15)) 101 (Int32.toNatClampNeg ((uI M 97 16 (M 97 15)) 97 15))) &&& 255)) 97 14 3) 97 16) : Int32).toInt = ((M 97 15).toInt + 1) := e201; omega)⟩
                    · exact absurd c144 (by decide)
                  · skip
                    have d202 : (((((M 101 (Int32.toNatClampNeg (M 97 15))) &&& 255) : Int32).toInt) : Int) ≤ (57) := ci_nlt rfl e75 c141
                    refine ⟨Or.inr rfl, ?_⟩
                    intro o203
                    refine ⟨fun c204 => ?_, fun c204 => ?_⟩
                    · exact absurd c204 (by decide)
                    · skip
                      have hB205 : Bd (uI (uI M 97 16 (M 97 15)) 97 17 0) := Bd.o0 hB41 io9_112_97_12 (by decide) bd9_12_17
                      have f206 : Fr pT I (uI (uI M 97 16 (M 97 15)) 97 17 0) := Fr.o f42 (by decide) (by decide)
                      refine sg_X12_advance_210 hc _ _ _ ?_
                      refine w_X12_look2 ?_
                      refine ⟨fun c207 => ?_, fun c207 => ?_⟩
                      · skip
                        have e208 : (((uI (uI M 97 16 (M 97 15)) 97 17 0) 97 16) : Int32).toInt = (M 97 15).toInt := Eq.trans (congrArg Int32.toInt (Eq.trans (rd_k (by decide)) rd_eq)) rfl
                        have e209 : (((uI (uI M 97 16 (M 97 15)) 97 17 0) 97 9) : Int32).toInt = (M 97 9).toInt := Eq.trans (congrArg Int32.toInt (Eq.trans (rd_k (by decide)) (rd_k (by decide)))) rfl
                        have d210 : (((M 97 9).toInt) : Int) ≤ ((M 97 15).toInt) := ci_le e209 e208 c207
                        refine w_X12_isDigit ?_
                        refine ⟨fun c211 => ?_, fun c211 => ?_⟩
                        · skip
                          refine ⟨Or.inl rfl, ?_⟩
                          intro o212
                          refine ⟨fun c213 => ?_, fun c213 => ?_⟩
                          · skip
                            refine ⟨fun c214 => ?_, fun c214 => ?_⟩
                            · skip
                              have e215 : (((uI (uI M 97 16 (M 97 15)) 97 17 0) 97 15) : Int32).toInt = (M 97 15).toInt := Eq.trans (congrArg Int32.toInt (Eq.trans (rd_k (by decide)) (rd_k (by decide)))) rfl
                              have e216 : ((((uI (uI M 97 16 (M 97 15)) 97 17 0) 97 16) - ((uI (uI M 97 16 (M 97 15)) 97 17 0) 97 15)) : Int32).toInt = ((M 97 15).toInt) - ((M 97 15).toInt) := ti_sub e208 e215 (by omega)
                              have d217 : ((((M 97 15).toInt - (M 97 15).toInt)) : Int) ≤ (4) := ci_le e216 rfl c214
                              have hB218 : Bd (uI (uI (uI M 97 16 (M 97 15)) 97 17 0) 97 14 2) := Bd.o1 hB205 io9_112_97_12 (by decide) bd9_12_14 (show (2 : Int32).toInt = 2 from rfl) (by omega)
                              have f219 : Fr pT I (uI (uI (uI M 97 16 (M 97 15)) 97 17 0) 97 14 2) := Fr.o f206 (by decide) (by decide)
                              have b220 := Bd.o hB0 io9_112_97_12 bd9_12_14
                              have b221 := Bd.o hB0 io9_112_97_12 bd9_12_16
                              have e222 : (((uI (uI (uI M 97 16 (M 97 15)) 97 17 0) 97 14 2) 97 14) : Int32).toInt = 2 := Eq.trans (congrArg Int32.toInt rd_eq) rfl
                              have e223 : (((uI (uI (uI M 97 16 (M 97 15)) 97 17 0) 97 14 2) 97 16) : Int32).toInt = (M 97 15).toInt := Eq.trans (congrArg Int32.toInt (Eq.trans (Eq.trans (rd_k (by decide)) (rd_k (by decide))) rd_eq)) rfl
                              exact hQ _ _ _ _ hB218 ⟨(Eq.trans (Eq.trans (Eq.trans (rd_k (by decide)) (rd_k (by decide))) (rd_k (by decide))) hk_97_12), (Eq.trans (Eq.trans (Eq.trans (rd_k (by decide)) (rd_k (by decide))) (rd_k (by decide))) hk_97_27), f219, (by have q3 : (((uI (uI (uI M 97 16 (M 97 15)) 97 17 0) 97 14 2) 97 14) : Int32).toInt = 2 := e222; have q4 : (((uI (uI (uI M 97 16 (M 97 15)) 97 17 0) 97 14 2) 97 16) : Int32).toInt = (M 97 15).toInt := e223; omega)⟩
                            · skip
                              have e224 : (((uI (uI M 97 16 (M 97 15)) 97 17 0) 97 15) : Int32).toInt = (M 97 15).toInt := Eq.trans (congrArg Int32.toInt (Eq.trans (rd_k (by decide)) (rd_k (by decide)))) rfl
                              have e225 : ((((uI (uI M 97 16 (M 97 15)) 97 17 0) 97 16) - ((uI (uI M 97 16 (M 97 15)) 97 17 0) 97 15)) : Int32).toInt = ((M 97 15).toInt) - ((M 97 15).toInt) := ti_sub e208 e224 (by omega)
                              have d226 : ((4) : Int) < (((M 97 15).toInt - (M 97 15).toInt)) := ci_nle e225 rfl c214
                              have hB227 : Bd (uI (uI (uI M 97 16 (M 97 15)) 97 17 0) 97 14 4) := Bd.o1 hB205 io9_112_97_12 (by decide) bd9_12_14 (show (4 : Int32).toInt = 4 from rfl) (by omega)
                              have f228 : Fr pT I (uI (uI (uI M 97 16 (M 97 15)) 97 17 0) 97 14 4) := Fr.o f206 (by decide) (by decide)
                              have b229 := Bd.o hB0 io9_112_97_12 bd9_12_14
                              have b230 := Bd.o hB0 io9_112_97_12 bd9_12_16
                              have e231 : (((uI (uI (uI M 97 16 (M 97 15)) 97 17 0) 97 14 4) 97 14) : Int32).toInt = 4 := Eq.trans (congrArg Int32.toInt rd_eq) rfl
                              have e232 : (((uI (uI (uI M 97 16 (M 97 15)) 97 17 0) 97 14 4) 97 16) : Int32).toInt = (M 97 15).toInt := Eq.trans (congrArg Int32.toInt (Eq.trans (Eq.trans (rd_k (by decide)) (rd_k (by decide))) rd_eq)) rfl
                              exact hQ _ _ _ _ hB227 ⟨(Eq.trans (Eq.trans (Eq.trans (rd_k (by decide)) (rd_k (by decide))) (rd_k (by decide))) hk_97_12), (Eq.trans (Eq.trans (Eq.trans (rd_k (by decide)) (rd_k (by decide))) (rd_k (by decide))) hk_97_27), f228, (by have q3 : (((uI (uI (uI M 97 16 (M 97 15)) 97 17 0) 97 14 4) 97 14) : Int32).toInt = 4 := e231; have q4 : (((uI (uI (uI M 97 16 (M 97 15)) 97 17 0) 97 14 4) 97 16) : Int32).toInt = (M 97 15).toInt := e232; omega)⟩
                          · exact absurd c213 (by decide)
                        · exact absurd c211 (by decide)
                      · skip
                        have e233 : (((uI (uI M 97 16 (M 97 15)) 97 17 0) 97 16) : Int32).toInt = (M 97 15).toInt := Eq.trans (congrArg Int32.toInt (Eq.trans (rd_k (by decide)) rd_eq)) rfl
                        have e234 : (((uI (uI M 97 16 (M 97 15)) 97 17 0) 97 9) : Int32).toInt = (M 97 9).toInt := Eq.trans (congrArg Int32.toInt (Eq.trans (rd_k (by decide)) (rd_k (by decide)))) rfl
                        have d235 : (((M 97 15).toInt) : Int) < ((M 97 9).toInt) := ci_nle e234 e233 c207
                        refine ⟨vp_of (a := (M 97 15).toInt) e233 (by omega) (by omega), ?_⟩
                        refine w_X12_isDigit ?_
                        refine ⟨fun c236 => ?_, fun c236 => ?_⟩
                        · skip
                          have e237 : ((((uI (uI M 97 16 (M 97 15)) 97 17 0) 101 (Int32.toNatClampNeg ((uI (uI M 97 16 (M 97 15)) 97 17 0) 97 16))) &&& 255) : Int32).toInt = (((M 101 (Int32.toNatClampNeg (M 97 15))) &&& 255) : Int32).toInt := congrArg (fun z => (z &&& 255 : Int32).toInt) (Eq.trans (Eq.trans (rd_ne (by first | decide | omega)) (rd_ne (by first | decide | omega))) (congrArg (fun z => M 101 (Int32.toNatClampNeg z)) (Eq.trans (rd_k (by decide)) rd_eq)))
                          have d238 : (((((M 101 (Int32.toNatClampNeg (M 97 15))) &&& 255) : Int32).toInt) : Int) < (48) := ci_lt e237 rfl c236
                          refine ⟨Or.inl rfl, ?_⟩
                          intro o239
                          refine ⟨fun c240 => ?_, fun c240 => ?_⟩
                          · skip
                            refine ⟨fun c241 => ?_, fun c241 => ?_⟩
                            · skip
                              have e242 : (((uI (uI M 97 16 (M 97 15)) 97 17 0) 97 15) : Int32).toInt = (M 97 15).toInt := Eq.trans (congrArg Int32.toInt (Eq.trans (rd_k (by decide)) (rd_k (by decide)))) rfl
                              have e243 : ((((uI (uI M 97 16 (M 97 15)) 97 17 0) 97 16) - ((uI (uI M 97 16 (M 97 15)) 97 17 0) 97 15)) : Int32).toInt = ((M 97 15).toInt) - ((M 97 15).toInt) := ti_sub e233 e242 (by omega)
                              have d244 : ((((M 97 15).toInt - (M 97 15).toInt)) : Int) ≤ (4) := ci_le e243 rfl c241
                              have hB245 : Bd (uI (uI (uI M 97 16 (M 97 15)) 97 17 0) 97 14 2) := Bd.o1 hB205 io9_112_97_12 (by decide) bd9_12_14 (show (2 : Int32).toInt = 2 from rfl) (by omega)
                              have f246 : Fr pT I (uI (uI (uI M 97 16 (M 97 15)) 97 17 0) 97 14 2) := Fr.o f206 (by decide) (by decide)
                              have b247 := Bd.o hB0 io9_112_97_12 bd9_12_14
                              have b248 := Bd.o hB0 io9_112_97_12 bd9_12_16
                              have e249 : (((uI (uI (uI M 97 16 (M 97 15)) 97 17 0) 97 14 2) 97 14) : Int32).toInt = 2 := Eq.trans (congrArg Int32.toInt rd_eq) rfl
                              have e250 : (((uI (uI (uI M 97 16 (M 97 15)) 97 17 0) 97 14 2) 97 16) : Int32).toInt = (M 97 15).toInt := Eq.trans (congrArg Int32.toInt (Eq.trans (Eq.trans (rd_k (by decide)) (rd_k (by decide))) rd_eq)) rfl
                              exact hQ _ _ _ _ hB245 ⟨(Eq.trans (Eq.trans (Eq.trans (rd_k (by decide)) (rd_k (by decide))) (rd_k (by decide))) hk_97_12), (Eq.trans (Eq.trans (Eq.trans (rd_k (by decide)) (rd_k (by decide))) (rd_k (by decide))) hk_97_27), f246, (by have q3 : (((uI (uI (uI M 97 16 (M 97 15)) 97 17 0) 97 14 2) 97 14) : Int32).toInt = 2 := e249; have q4 : (((uI (uI (uI M 97 16 (M 97 15)) 97 17 0) 97 14 2) 97 16) : Int32).toInt = (M 97 15).toInt := e250; omega)⟩
                            · skip
                              have e251 : (((uI (uI M 97 16 (M 97 15)) 97 17 0) 97 15) : Int32).toInt = (M 97 15).toInt := Eq.trans (congrArg Int32.toInt (Eq.trans (rd_k (by decide)) (rd_k (by decide)))) rfl
                              have e252 : ((((uI (uI M 97 16 (M 97 15)) 97 17 0) 97 16) - ((uI (uI M 97 16 (M 97 15)) 97 17 0) 97 15)) : Int32).toInt = ((M 97 15).toInt) - ((M 97 15).toInt) := ti_sub e233 e251 (by omega)
                              have d253 : ((4) : Int) < (((M 97 15).toInt - (M 97 15).toInt)) := ci_nle e252 rfl c241
                              have hB254 : Bd (uI (uI (uI M 97 16 (M 97 15)) 97 17 0) 97 14 4) := Bd.o1 hB205 io9_112_97_12 (by decide) bd9_12_14 (show (4 : Int32).toInt = 4 from rfl) (by omega)
                              have f255 : Fr pT I (uI (uI (uI M 97 16 (M 97 15)) 97 17 0) 97 14 4) := Fr.o f206 (by decide) (by decide)
                              have b256 := Bd.o hB0 io9_112_97_12 bd9_12_14
                              have b257 := Bd.o hB0 io9_112_97_12 bd9_12_16
                              have e258 : (((uI (uI (uI M 97 16 (M 97 15)) 97 17 0) 97 14 4) 97 14) : Int32).toInt = 4 := Eq.trans (congrArg Int32.toInt rd_eq) rfl
                              have e259 : (((uI (uI (uI M 97 16 (M 97 15)) 97 17 0) 97 14 4) 97 16) : Int32).toInt = (M 97 15).toInt := Eq.trans (congrArg Int32.toInt (Eq.trans (Eq.trans (rd_k (by decide)) (rd_k (by decide))) rd_eq)) rfl
                              exact hQ _ _ _ _ hB254 ⟨(Eq.trans (Eq.trans (Eq.trans (rd_k (by decide)) (rd_k (by decide))) (rd_k (by decide))) hk_97_12), (Eq.trans (Eq.trans (Eq.trans (rd_k (by decide)) (rd_k (by decide))) (rd_k (by decide))) hk_97_27), f255, (by have q3 : (((uI (uI (uI M 97 16 (M 97 15)) 97 17 0) 97 14 4) 97 14) : Int32).toInt = 4 := e258; have q4 : (((uI (uI (uI M 97 16 (M 97 15)) 97 17 0) 97 14 4) 97 16) : Int32).toInt = (M 97 15).toInt := e259; omega)⟩
                          · exact absurd c240 (by decide)
                        · skip
                          have e260 : ((((uI (uI M 97 16 (M 97 15)) 97 17 0) 101 (Int32.toNatClampNeg ((uI (uI M 97 16 (M 97 15)) 97 17 0) 97 16))) &&& 255) : Int32).toInt = (((M 101 (Int32.toNatClampNeg (M 97 15))) &&& 255) : Int32).toInt := congrArg (fun z => (z &&& 255 : Int32).toInt) (Eq.trans (Eq.trans (rd_ne (by first | decide | omega)) (rd_ne (by first | decide | omega))) (congrArg (fun z => M 101 (Int32.toNatClampNeg z)) (Eq.trans (rd_k (by decide)) rd_eq)))
                          have d261 : ((48) : Int) ≤ ((((M 101 (Int32.toNatClampNeg (M 97 15))) &&& 255) : Int32).toInt) := ci_nlt e260 rfl c236
                          refine ⟨fun c262 => ?_, fun c262 => ?_⟩
                          · skip
                            have d263 : ((57) : Int) < ((((M 101 (Int32.toNatClampNeg (M 97 15))) &&& 255) : Int32).toInt) := ci_lt rfl e260 c262
                            refine ⟨Or.inl rfl, ?_⟩
                            intro o264
                            refine ⟨fun c265 => ?_, fun c265 => ?_⟩
                            · skip
                              refine ⟨fun c266 => ?_, fun c266 => ?_⟩
                              · skip
                                have e267 : (((uI (uI M 97 16 (M 97 15)) 97 17 0) 97 15) : Int32).toInt = (M 97 15).toInt := Eq.trans (congrArg Int32.toInt (Eq.trans (rd_k (by decide)) (rd_k (by decide)))) rfl
                                have e268 : ((((uI (uI M 97 16 (M 97 15)) 97 17 0) 97 16) - ((uI (uI M 97 16 (M 97 15)) 97 17 0) 97 15)) : Int32).toInt = ((M 97 15).toInt) - ((M 97 15).toInt) := ti_sub e233 e267 (by omega)
                                have d269 : ((((M 97 15).toInt - (M 97 15).toInt)) : Int) ≤ (4) := ci_le e268 rfl c266
                                have hB270 : Bd (uI (uI (uI M 97 16 (M 97 15)) 97 17 0) 97 14 2) := Bd.o1 hB205 io9_112_97_12 (by decide) bd9_12_14 (show (2 : Int32).toInt = 2 from rfl) (by omega)
                                have f271 : Fr pT I (uI (uI (uI M 97 16 (M 97 15)) 97 17 0) 97 14 2) := Fr.o f206 (by decide) (by decide)
                                have b272 := Bd.o hB0 io9_112_97_12 bd9_12_14
                                have b273 := Bd.o hB0 io9_112_97_12 bd9_12_16
                                have e274 : (((uI (uI (uI M 97 16 (M 97 15)) 97 17 0) 97 14 2) 97 14) : Int32).toInt = 2 := Eq.trans (congrArg Int32.toInt rd_eq) rfl
                                have e275 : (((uI (uI (uI M 97 16 (M 97 15)) 97 17 0) 97 14 2) 97 16) : Int32).toInt = (M 97 15).toInt := Eq.trans (congrArg Int32.toInt (Eq.trans (Eq.trans (rd_k (by decide)) (rd_k (by decide))) rd_eq)) rfl
                                exact hQ _ _ _ _ hB270 ⟨(Eq.trans (Eq.trans (Eq.trans (rd_k (by decide)) (rd_k (by decide))) (rd_k (by decide))) hk_97_12), (Eq.trans (Eq.trans (Eq.trans (rd_k (by decide)) (rd_k (by decide))) (rd_k (by decide))) hk_97_27), f271, (by have q3 : (((uI (uI (uI M 97 16 (M 97 15)) 97 17 0) 97 14 2) 97 14) : Int32).toInt = 2 := e274; have q4 : (((uI (uI (uI M 97 16 (M 97 15)) 97 17 0) 97 14 2) 97 16) : Int32).toInt = (M 97 15).toInt := e275; omega)⟩
                              · skip
                                have e276 : (((uI (uI M 97 16 (M 97 15)) 97 17 0) 97 15) : Int32).toInt = (M 97 15).toInt := Eq.trans (congrArg Int32.toInt (Eq.trans (rd_k (by decide)) (rd_k (by decide)))) rfl
                                have e277 : ((((uI (uI M 97 16 (M 97 15)) 97 17 0) 97 16) - ((uI (uI M 97 16 (M 97 15)) 97 17 0) 97 15)) : Int32).toInt = ((M 97 15).toInt) - ((M 97 15).toInt) := ti_sub e233 e276 (by omega)
                                have d278 : ((4) : Int) < (((M 97 15).toInt - (M 97 15).toInt)) := ci_nle e277 rfl c266
                                have hB279 : Bd (uI (uI (uI M 97 16 (M 97 15)) 97 17 0) 97 14 4) := Bd.o1 hB205 io9_112_97_12 (by decide) bd9_12_14 (show (4 : Int32).toInt = 4 from rfl) (by omega)
                                have f280 : Fr pT I (uI (uI (uI M 97 16 (M 97 15)) 97 17 0) 97 14 4) := Fr.o f206 (by decide) (by decide)
                                have b281 := Bd.o hB0 io9_112_97_12 bd9_12_14
                                have b282 := Bd.o hB0 io9_112_97_12 bd9_12_16
                                have e283 : (((uI (uI (uI M 97 16 (M 97 15)) 97 17 0) 97 14 4) 97 14) : Int32).toInt = 4 := Eq.trans (congrArg Int32.toInt rd_eq) rfl
                                have e284 : (((uI (uI (uI M 97 16 (M 97 15)) 97 17 0) 97 14 4) 97 16) : Int32).toInt = (M 97 15).toInt := Eq.trans (congrArg Int32.toInt (Eq.trans (Eq.trans (rd_k (by decide)) (rd_k (by decide))) rd_eq)) rfl
                                exact hQ _ _ _ _ hB279 ⟨(Eq.trans (Eq.trans (Eq.trans (rd_k (by decide)) (rd_k (by decide))) (rd_k (by decide))) hk_97_12), (Eq.trans (Eq.trans (Eq.trans (rd_k (by decide)) (rd_k (by decide))) (rd_k (by decide))) hk_97_27), f280, (by have q3 : (((uI (uI (uI M 97 16 (M 97 15)) 97 17 0) 97 14 4) 97 14) : Int32).toInt = 4 := e283; have q4 : (((uI (uI (uI M 97 16 (M 97 15)) 97 17 0) 97 14 4) 97 16) : Int32).toInt = (M 97 15).toInt := e284; omega)⟩
                            · exact absurd c265 (by decide)
                          · skip
                            have d285 : (((((M 101 (Int32.toNatClampNeg (M 97 15))) &&& 255) : Int32).toInt) : Int) ≤ (57) := ci_nlt rfl e260 c262
                            refine ⟨Or.inr rfl, ?_⟩
                            intro o286
                            refine ⟨fun c287 => ?_, fun c287 => ?_⟩
                            · exact absurd c287 (by decide)
                            · skip
                              refine ⟨fun c288 => ?_, fun c288 => ?_⟩
                              · skip
                                have e289 : (((uI (uI M 97 16 (M 97 15)) 97 17 0) 97 15) : Int32).toInt = (M 97 15).toInt := Eq.trans (congrArg Int32.toInt (Eq.trans (rd_k (by decide)) (rd_k (by decide)))) rfl
                                have e290 : ((((uI (uI M 97 16 (M 97 15)) 97 17 0) 97 16) - ((uI (uI M 97 16 (M 97 15)) 97 17 0) 97 15)) : Int32).toInt = ((M 97 15).toInt) - ((M 97 15).toInt) := ti_sub e233 e289 (by omega)
                                have d291 : ((4) : Int) ≤ (((M 97 15).toInt - (M 97 15).toInt)) := ci_le rfl e290 c288
                                have e293 : ((((uI (uI M 97 16 (M 97 15)) 97 17 0) 97 16) + 1) : Int32).toInt = ((M 97 15).toInt) + (1) := ti_add e233 rfl (by omega)
                                have hB292 : Bd (uI (uI (uI M 97 16 (M 97 15)) 97 17 0) 97 16 (((uI (uI M 97 16 (M 97 15)) 97 17 0) 97 16) + 1)) := Bd.o1 hB205 io9_112_97_12 (by decide) bd9_12_16 (show ((((uI (uI M 97 16 (M 97 15)) 97 17 0) 97 16) + 1) : Int32).toInt = ((M 97 15).toInt + 1) from e293) (by omega)
                                have f294 : Fr pT I (uI (uI (uI M 97 16 (M 97 15)) 97 17 0) 97 16 (((uI (uI M 97 16 (M 97 15)) 97 17 0) 97 16) + 1)) := Fr.o f206 (by decide) (by decide)
                                have e295 : (((uI (uI (uI M 97 16 (M 97 15)) 97 17 0) 97 16 (((uI (uI M 97 16 (M 97 15)) 97 17 0) 97 16) + 1)) 97 15) : Int32).toInt = (M 97 15).toInt := Eq.trans (congrArg Int32.toInt (Eq.trans (Eq.trans (rd_k (by decide)) (rd_k (by decide))) (rd_k (by decide)))) rfl
                                have e296 : (((uI (uI (uI M 97 16 (M 97 15)) 97 17 0) 97 16 (((uI (uI M 97 16 (M 97 15)) 97 17 0) 97 16) + 1)) 97 16) : Int32).toInt = ((M 97 15).toInt + 1) := Eq.trans (congrArg Int32.toInt rd_eq) e293
                                exact ih.2.2.2 _ _ hB292 (Eq.trans (Eq.trans (Eq.trans (rd_k (by decide)) (rd_k (by decide))) (rd_k (by decide))) hk_97_12) (Eq.trans (Eq.trans (Eq.trans (rd_k (by decide)) (rd_k (by decide))) (rd_k (by decide))) hk_97_27) f294 (by have q0 : (((uI (uI (uI M 97 16 (M 97 15)) 97 17 0) 97 16 (((uI (uI M 97 16 (M 97 15)) 97 17 0) 97 16) + 1)) 97 15) : Int32).toInt = (M 97 15).toInt := e295; have q1 : (((uI (uI (uI M 97 16 (M 97 15)) 97 17 0) 97 16 (((uI (uI M 97 16 (M 97 15)) 97 17 0) 97 16) + 1)) 97 15) : Int32).toInt = (M 97 15).toInt := e295; have q2 : (((uI (uI (uI M 97 16 (M 97 15)) 97 17 0) 97 16 (((uI (uI M 97 16 (M 97 15)) 97 17 0) 97 16) + 1)) 97 16) : Int32).toInt = ((M 97 15).toInt + 1) := e296; have q3 : (((uI (uI (uI M 97 16 (M 97 15)) 97 17 0) 97 16 (((uI (uI M 97 16 (M 97 15)) 97 17 0) 97 16) + 1)) 97 16) : Int32).toInt = ((M 97 15).toInt + 1) := e296; omega) (by have q0 : (((uI (uI (uI M 97 16 (M 97 15)) 97 17 0) 97 16 (((uI (uI M 97 16 (M 97 15)) 97 17 0) 97 16) + 1)) 97 16) : Int32).toInt = ((M 97 15).toInt + 1) := e296; omega)
                              · skip
                                have e297 : (((uI (uI M 97 16 (M 97 15)) 97 17 0) 97 15) : Int32).toInt = (M 97 15).toInt := Eq.trans (congrArg Int32.toInt (Eq.trans (rd_k (by decide)) (rd_k (by decide)))) rfl
                                have e298 : ((((uI (uI M 97 16 (M 97 15)) 97 17 0) 97 16) - ((uI (uI M 97 16 (M 97 15)) 97 17 0) 97 15)) : Int32).toInt = ((M 97 15).toInt) - ((M 97 15).toInt) := ti_sub e233 e297 (by omega)
                                have d299 : ((((M 97 15).toInt - (M 97 15).toInt)) : Int) < (4) := ci_nle rfl e298 c288
                                refine w_X12_look2 ?_
                                refine ⟨fun c300 => ?_, fun c300 => ?_⟩
                                · skip
                                  have d301 : (((M 97 9).toInt) : Int) ≤ ((M 97 15).toInt) := ci_le e234 e233 c300
                                  have hB302 : Bd (uI (uI (uI M 97 16 (M 97 15)) 97 17 0) 97 17 (((10 * ((uI (uI M 97 16 (M 97 15)) 97 17 0) 97 17)) + 0) - 48)) := Bd.o0 hB205 io9_112_97_12 (by decide) bd9_12_17
                                  have f303 : Fr pT I (uI (uI (uI M 97 16 (M 97 15)) 97 17 0) 97 17 (((10 * ((uI (uI M 97 16 (M 97 15)) 97 17 0) 97 17)) + 0) - 48)) := Fr.o f206 (by decide) (by decide)
                                  have e305 : (((uI (uI (uI M 97 16 (M 97 15)) 97 17 0) 97 17 (((10 * ((uI (uI M 97 16 (M 97 15)) 97 17 0) 97 17)) + 0) - 48)) 97 16) : Int32).toInt = (M 97 15).toInt := Eq.trans (congrArg Int32.toInt (Eq.trans (Eq.trans (rd_k (by decide)) (rd_k (by decide))) rd_eq)) rfl
                                  have e306 : ((((uI (uI (uI M 97 16 (M 97 15)) 97 17 0) 97 17 (((10 * ((uI (uI M 97 16 (M 97 15)) 97 17 0) 97 17)) + 0) - 48)) 97 16) + 1) : Int32).toInt = ((M 97 15).toInt) + (1) := ti_add e305 rfl (by omega)
                                  have hB304 : Bd (uI (uI (uI (uI M 97 16 (M 97 15)) 97 17 0) 97 17 (((10 * ((uI (uI M 97 16 (M 97 15)) 97 17 0) 97 17)) + 0) - 48)) 97 16 (((uI (uI (uI M 97 16 (M 97 15)) 97 17 0) 97 17 (((10 * ((uI (uI M 97 16 (M 97 15)) 97 17 0) 97 17)) + 0) - 48)) 97 16) + 1)) := Bd.o1 hB302 io9_112_97_12 (by decide) bd9_12_16 (show ((((uI (uI (uI M 97 16 (M 97 15)) 97 17 0) 97 17 (((10 * ((uI (uI M 97 16 (M 97 15)) 97 17 0) 97 17)) + 0) - 48)) 97 16) + 1) : Int32).toInt = ((M 97 15).toInt + 1) from e306) (by omega)
                                  have f307 : Fr pT I (uI (uI (uI (uI M 97 16 (M 97 15)) 97 17 0) 97 17 (((10 * ((uI (uI M 97 16 (M 97 15)) 97 17 0) 97 17)) + 0) - 48)) 97 16 (((uI (uI (uI M 97 16 (M 97 15)) 97 17 0) 97 17 (((10 * ((uI (uI M 97 16 (M 97 15)) 97 17 0) 97 17)) + 0) - 48)) 97 16) + 1)) := Fr.o f303 (by decide) (by decide)
                                  have e308 : (((uI (uI (uI (uI M 97 16 (M 97 15)) 97 17 0) 97 17 (((10 * ((uI (uI M 97 16 (M 97 15)) 97 17 0) 97 17)) + 0) - 48)) 97 16 (((uI (uI (uI M 97 16 (M 97 15)) 97 17 0) 97 17 (((10 * ((uI (uI M 97 16 (M 97 15)) 97 17 0) 97 17)) + 0) - 48)) 97 16) + 1)) 97 15) : Int32).toInt = (M 97 15).toInt := Eq.trans (congrArg Int32.toInt (Eq.trans (Eq.trans (Eq.trans (rd_k (by decide)) (rd_k (by decide))) (rd_k (by decide))) (rd_k (by decide)))) rfl
                                  have e309 : (((uI (uI (uI (uI M 97 16 (M 97 15)) 97 17 0) 97 17 (((10 * ((uI (uI M 97 16 (M 97 15)) 97 17 0) 97 17)) + 0) - 48)) 97 16 (((uI (uI (uI M 97 16 (M 97 15)) 97 17 0) 97 17 (((10 * ((uI (uI M 97 16 (M 97 15)) 97 17 0) 97 17)) + 0) - 48)) 97 16) + 1)) 97 16) : Int32).toInt = ((M 97 15).toInt + 1) := Eq.trans (congrArg Int32.toInt rd_eq) e306
                                  exact ih.2.2.2 _ _ hB304 (Eq.trans (Eq.trans (Eq.trans (Eq.trans (rd_k (by decide)) (rd_k (by decide))) (rd_k (by decide))) (rd_k (by decide))) hk_97_12) (Eq.trans (Eq.trans (Eq.trans (Eq.trans (rd_k (by decide)) (rd_k (by decide))) (rd_k (by decide))) (rd_k (by decide))) hk_97_27) f307 (by have q0 : (((uI (uI (uI (uI M 97 16 (M 97 15)) 97 17 0) 97 17 (((10 * ((uI (uI M 97 16 (M 97 15)) 97 17 0) 97 17)) + 0) - 48)) 97 16 (((uI (uI (uI M 97 16 (M 97 15)) 97 17 0) 97 17 (((10 * ((uI (uI M 97 16 (M 97 15)) 97 17 0) 97 17)) + 0) - 48)) 97 16) + 1)) 97 15) : Int32).toInt = (M 97 15).toInt := e308; have q1 : (((uI (uI (uI (uI M 97 16 (M 97 15)) 97 17 0) 97 17 (((10 * ((uI (uI M 97 16 (M 97 15)) 97 17 0) 97 17)) + 0) - 48)) 97 16 (((uI (uI (uI M 97 16 (M 97 15)) 97 17 0) 97 17 (((10 * ((uI (uI M 97 16 (M 97 15)) 97 17 0) 97 17)) + 0) - 48)) 97 16) + 1)) 97 15) : Int32).toInt = (M 97 15).toInt := e308; have q2 : (((uI (uI (uI (uI M 97 16 (M 97 15)) 97 17 0) 97 17 (((10 * ((uI (uI M 97 16 (M 97 15)) 97 17 0) 97 17)) + 0) - 48)) 97 16 (((uI (uI (uI M 97 16 (M 97 15)) 97 17 0) 97 17 (((10 * ((uI (uI M 97 16 (M 97 15)) 97 17 0) 97 17)) + 0) - 48)) 97 16) + 1)) 97 16) : Int32).toInt = ((M 97 15).toInt + 1) := e309; have q3 : (((uI (uI (uI (uI M 97 16 (M 97 15)) 97 17 0) 97 17 (((10 * ((uI (uI M 97 16 (M 97 15)) 97 17 0) 97 17)) + 0) - 48)) 97 16 (((uI (uI (uI M 97 16 (M 97 15)) 97 17 0) 97 17 (((10 * ((uI (uI M 97 16 (M 97 15)) 97 17 0) 97 17)) + 0) - 48)) 97 16) + 1)) 97 16) : Int32).toInt = ((M 97 15).toInt + 1) := e309; omega) (by have q0 : (((uI (uI (uI (uI M 97 16 (M 97 15)) 97 17 0) 97 17 (((10 * ((uI (uI M 97 16 (M 97 15)) 97 17 0) 97 17)) + 0) - 48)) 97 16 (((uI (uI (uI M 97 16 (M 97 15)) 97 17 0) 97 17 (((10 * ((uI (uI M 97 16 (M 97 15)) 97 17 0) 97 17)) + 0) - 48)) 97 16) + 1)) 97 16) : Int32).toInt = ((M 97 15).toInt + 1) := e309; omega)
                                · skip
                                  have d310 : (((M 97 15).toInt) : Int) < ((M 97 9).toInt) := ci_nle e234 e233 c300
                                  refine ⟨vp_of (a := (M 97 15).toInt) e233 (by omega) (by omega), ?_⟩
                                  have hB311 : Bd (uI (uI (uI M 97 16 (M 97 15)) 97 17 0) 97 17 (((10 * ((uI (uI M 97 16 (M 97 15)) 97 17 0) 97 17)) + (((uI (uI M 97 16 (M 97 15)) 97 17 0) 101 (Int32.toNatClampNeg ((uI (uI M 97 16 (M 97 15)) 97 17 0) 97 16))) &&& 255)) - 48)) := Bd.o0 hB205 io9_112_97_12 (by decide) bd9_12_17
                                  have f312 : Fr pT I (uI (uI (uI M 97 16 (M 97 15)) 97 17 0) 97 17 (((10 * ((uI (uI M 97 16 (M 97 15)) 97 17 0) 97 17)) + (((uI (uI M 97 16 (M 97 15)) 97 17 0) 101 (Int32.toNatClampNeg ((uI (uI M 97 16 (M 97 15)) 97 17 0) 97 16))) &&& 255)) - 48)) := Fr.o f206 (by decide) (by decide)
                                  have e314 : (((uI (uI (uI M 97 16 (M 97 15)) 97 17 0) 97 17 (((10 * ((uI (uI M 97 16 (M 97 15)) 97 17 0) 97 17)) + (((uI (uI M 97 16 (M 97 15)) 97 17 0) 101 (Int32.toNatClampNeg ((uI (uI M 97 16 (M 97 15)) 97 17 0) 97 16))) &&& 255)) - 48)) 97 16) : Int32).toInt = (M 97 15).toInt := Eq.trans (congrArg Int32.toInt (Eq.trans (Eq.trans (rd_k (by decide)) (rd_k (by decide))) rd_eq)) rfl
                                  have e315 : ((((uI (uI (uI M 97 16 (M 97 15)) 97 17 0) 97 17 (((10 * ((uI (uI M 97 16 (M 97 15)) 97 17 0) 97 17)) + (((uI (uI M 97 16 (M 97 15)) 97 17 0) 101 (Int32.toNatClampNeg ((uI (uI M 97 16 (M 97 15)) 97 17 0) 97 16))) &&& 255)) - 48)) 97 16) + 1) : Int32).toInt = ((M 97 15).toInt) + (1) := ti_add e314 rfl (by omega)
                                  have hB313 : Bd (uI (uI (uI (uI M 97 16 (M 97 15)) 97 17 0) 97 17 (((10 * ((uI (uI M 97 16 (M 97 15)) 97 17 0) 97 17)) + (((uI (uI M 97 16 (M 97 15)) 97 17 0) 101 (Int32.toNatClampNeg ((uI (uI M 97 16 (M 97 15)) 97 17 0) 97 16))) &&& 255)) - 48)) 97 16 (((uI (uI (uI M 97 16 (M 97 15)) 97 17 0) 97 17 (((10 * ((uI (uI M 97 16 (M 97 15)) 97 17 0) 97 17)) + (((uI (uI M 97 16 (M 97 15)) 97 17 0) 101 (Int32.toNatClampNeg ((uI (uI M 97 16 (M 97 15)) 97 17 0) 97 16))) &&& 255)) - 48)) 97 16) + 1)) := Bd.o1 hB311 io9_112_97_12 (by decide) bd9_12_16 (show ((((uI (uI (uI M 97 16 (M 97 15)) 97 17 0) 97 17 (((10 * ((uI (uI M 97 16 (M 97 15)) 97 17 0) 97 17)) + (((uI (uI M 97 16 (M 97 15)) 97 17 0) 101 (Int32.toNatClampNeg ((uI (uI M 97 16 (M 97 15)) 97 17 0) 97 16))) &&& 255)) - 48)) 97 16) + 1) : Int32).toInt = ((M 97 15).toInt + 1) from e315) (by omega)
                                  have f316 : Fr pT I (uI (uI (uI (uI M 97 16 (M 97 15)) 97 17 0) 97 17 (((10 * ((uI (uI M 97 16 (M 97 15)) 97 17 0) 97 17)) + (((uI (uI M 97 16 (M 97 15)) 97 17 0) 101 (Int32.toNatClampNeg ((uI (uI M 97 16 (M 97 15)) 97 17 0) 97 16))) &&& 255)) - 48)) 97 16 (((uI (uI (uI M 97 16 (M 97 15)) 97 17 0) 97 17 (((10 * ((uI (uI M 97 16 (M 97 15)) 97 17 0) 97 17)) + (((uI (uI M 97 16 (M 97 15)) 97 17 0) 101 (Int32.toNatClampNeg ((uI (uI M 97 16 (M 97 15)) 97 17 0) 97 16))) &&& 255)) - 48)) 97 16) + 1)) := Fr.o f312 (by decide) (by decide)
                                  have e317 : (((uI (uI (uI (uI M 97 16 (M 97 15)) 97 17 0) 97 17 (((10 * ((uI (uI M 97 16 (M 97 15)) 97 17 0) 97 17)) + (((uI (uI M 97 16 (M 97 15)) 97 17 0) 101 (Int32.toNatClampNeg ((uI (uI M 97 16 (M 97 15)) 97 17 0) 97 16))) &&& 255)) - 48)) 97 16 (((uI (uI (uI M 97 16 (M 97 15)) 97 17 0) 97 17 (((10 * ((uI (uI M 97 16 (M 97 15)) 97 17 0) 97 17)) + (((uI (uI M 97 16 (M 97 15)) 97 17 0) 101 (Int32.toNatClampNeg ((uI (uI M 97 16 (M 97 15)) 97 17 0) 97 16))) &&& 255)) - 48)) 97 16) + 1)) 97 15) : Int32).toInt = (M 97 15).toInt := Eq.trans (congrArg Int32.toInt (Eq.trans (Eq.trans (Eq.trans (rd_k (by decide)) (rd_k (by decide))) (rd_k (by decide))) (rd_k (by decide)))) rfl
                                  have e318 : (((uI (uI (uI (uI M 97 16 (M 97 15)) 97 17 0) 97 17 (((10 * ((uI (uI M 97 16 (M 97 15)) 97 17 0) 97 17)) + (((uI (uI M 97 16 (M 97 15)) 97 17 0) 101 (Int32.toNatClampNeg ((uI (uI M 97 16 (M 97 15)) 97 17 0) 97 16))) &&& 255)) - 48)) 97 16 (((uI (uI (uI M 97 16 (M 97 15)) 97 17 0) 97 17 (((10 * ((uI (uI M 97 16 (M 97 15)) 97 17 0) 97 17)) + (((uI (uI M 97 16 (M 97 15)) 97 17 0) 101 (Int32.toNatClampNeg ((uI (uI M 97 16 (M 97 15)) 97 17 0) 97 16))) &&& 255)) - 48)) 97 16) + 1)) 97 16) : Int32).toInt = ((M 97 15).toInt + 1) := Eq.trans (congrArg Int32.toInt rd_eq) e315
                                  exact ih.2.2.2 _ _ hB313 (Eq.trans (Eq.trans (Eq.trans (Eq.trans (rd_k (by decide)) (rd_k (by decide))) (rd_k (by decide))) (rd_k (by decide))) hk_97_12) (Eq.trans (Eq.trans (Eq.trans (Eq.trans (rd_k (by decide)) (rd_k (by decide))) (rd_k (by decide))) (rd_k (by decide))) hk_97_27) f316 (by have q0 : (((uI (uI (uI (uI M 97 16 (M 97 15)) 97 17 0) 97 17 (((10 * ((uI (uI M 97 16 (M 97 15)) 97 17 0) 97 17)) + (((uI (uI M 97 16 (M 97 15)) 97 17 0) 101 (Int32.toNatClampNeg ((uI (uI M 97 16 (M 97 15)) 97 17 0) 97 16))) &&& 255)) - 48)) 97 16 (((uI (uI (uI M 97 16 (M 97 15)) 97 17 0) 97 17 (((10 * ((uI (uI M 97 16 (M 97 15)) 97 17 0) 97 17)) + (((uI (uI M 97 16 (M 97 15)) 97 17 0) 101 (Int32.toNatClampNeg ((uI (uI M 97 16 (M 97 15)) 97 17 0) 97 16))) &&& 255)) - 48)) 97 16) + 1)) 97 15) : Int32).toInt = (M 97 15).toInt := e317; have q1 : (((uI (uI (uI (uI M 97 16 (M 97 15)) 97 17 0) 97 17 (((10 * ((uI (uI M 97 16 (M 97 15)) 97 17 0) 97 17)) + (((uI (uI M 97 16 (M 97 15)) 97 17 0) 101 (Int32.toNatClampNeg ((uI (uI M 97 16 (M 97 15)) 97 17 0) 97 16))) &&& 255)) - 48)) 97 16 (((uI (uI (uI M 97 16 (M 97 15)) 97 17 0) 97 17 (((10 * ((uI (uI M 97 16 (M 97 15)) 97 17 0) 97 17)) + (((uI (uI M 97 16 (M 97 15)) 97 17 0) 101 (Int32.toNatClampNeg ((uI (uI M 97 16 (M 97 15)) 97 17 0) 97 16))) &&& 255)) - 48)) 97 16) + 1)) 97 15) : Int32).toInt = (M 97 15).toInt := e317; have q2 : (((uI (uI (uI (uI M 97 16 (M 97 15)) 97 17 0) 97 17 (((10 * ((uI (uI M 97 16 (M 97 15)) 97 17 0) 97 17)) + (((uI (uI M 97 16 (M 97 15)) 97 17 0) 101 (Int32.toNatClampNeg ((uI (uI M 97 16 (M 97 15)) 97 17 0) 97 16))) &&& 255)) - 48)) 97 16 (((uI (uI (uI M 97 16 (M 97 15)) 97 17 0) 97 17 (((10 * ((uI (uI M 97 16 (M 97 15)) 97 17 0) 97 17)) + (((uI (uI M 97 16 (M 97 15)) 97 17 0) 101 (Int32.toNatClampNeg ((uI (uI M 97 16 (M 97 15)) 97 17 0) 97 16))) &&& 255)) - 48)) 97 16) + 1)) 97 16) : Int32).toInt = ((M 97 15).toInt + 1) := e318; have q3 : (((uI (uI (uI (uI M 97 16 (M 97 15)) 97 17 0) 97 17 (((10 * ((uI (uI M 97 16 (M 97 15)) 97 17 0) 97 17)) + (((uI (uI M 97 16 (M 97 15)) 97 17 0) 101 (Int32.toNatClampNeg ((uI (uI M 97 16 (M 97 15)) 97 17 0) 97 16))) &&& 255)) - 48)) 97 16 (((uI (uI (uI M 97 16 (M 97 15)) 97 17 0) 97 17 (((10 * ((uI (uI M 97 16 (M 97 15)) 97 17 0) 97 17)) + (((uI (uI M 97 16 (M 97 15)) 97 17 0) 101 (Int32.toNatClampNeg ((uI (uI M 97 16 (M 97 15)) 97 17 0) 97 16))) &&& 255)) - 48)) 97 16) + 1)) 97 16) : Int32).toInt = ((M 97 15).toInt + 1) := e318; omega) (by have q0 : (((uI (uI (uI (uI M 97 16 (M 97 15)) 97 17 0) 97 17 (((10 * ((uI (uI M 97 16 (M 97 15)) 97 17 0) 97 17)) + (((uI (uI M 97 16 (M 97 15)) 97 17 0) 101 (Int32.toNatClampNeg ((uI (uI M 97 16 (M 97 15)) 97 17 0) 97 16))) &&& 255)) - 48)) 97 16 (((uI (uI (uI M 97 16 (M 97 15)) 97 17 0) 97 17 (((10 * ((uI (uI M 97 16 (M 97 15)) 97 17 0) 97 17)) + (((uI (uI M 97 16 (M 97 15)) 97 17 0) 101 (Int32.toNatClampNeg ((uI (uI M 97 16 (M 97 15)) 97 17 0) 97 16))) &&& 255)) - 48)) 97 16) + 1)) 97 16) : Int32).toInt = ((M 97 15).toInt + 1) := e318; omega)
              · exact absurd c78 (by decide)
            · skip
              have e319 : ((((uI M 97 16 (M 97 15)) 101 (Int32.toNatClampNeg ((uI M 97 16 (M 97 15)) 97 15))) &&& 255) : Int32).toInt = (((M 101 (Int32.toNatClampNeg (M 97 15))) &&& 255) : Int32).toInt := congrArg (fun z => (z &&& 255 : Int32).toInt) (Eq.trans (rd_ne (by first | decide | omega)) (congrArg (fun z => M 101 (Int32.toNatClampNeg z)) (rd_k (by decide))))
              have d320 : ((97) : Int) ≤ ((((M 101 (Int32.toNatClampNeg (M 97 15))) &&& 255) : Int32).toInt) := ci_nlt e319 rfl c74
              refine ⟨fun c321 => ?_, fun c321 => ?_⟩
              · skip
                have d322 : ((122) : Int) < ((((M 101 (Int32.toNatClampNeg (M 97 15))) &&& 255) : Int32).toInt) := ci_lt rfl e319 c321
                refine ⟨Or.inl rfl, ?_⟩
                intro o323
                refine ⟨fun c324 => ?_, fun c324 => ?_⟩
                · skip
                  refine w_X12_isDigit ?_
                  refine ⟨fun c325 => ?_, fun c325 => ?_⟩
                  · skip
                    have d326 : (((((M 101 (Int32.toNatClampNeg (M 97 15))) &&& 255) : Int32).toInt) : Int) < (48) := ci_lt e319 rfl c325
                    refine ⟨Or.inl rfl, ?_⟩
                    intro o327
                    refine ⟨fun c328 => ?_, fun c328 => ?_⟩
                    · skip
                      have e330 : ((((uI M 97 16 (M 97 15)) 97 15) + 1) : Int32).toInt = ((M 97 15).toInt) + (1) := ti_add e44 rfl (by omega)
                      have hB329 : Bd (uI (uI M 97 16 (M 97 15)) 97 16 (((uI M 97 16 (M 97 15)) 97 15) + 1)) := Bd.o1 hB41 io9_112_97_12 (by decide) bd9_12_16 (show ((((uI M 97 16 (M 97 15)) 97 15) + 1) : Int32).toInt = ((M 97 15).toInt + 1) from e330) (by omega)
                      have f331 : Fr pT I (uI (uI M 97 16 (M 97 15)) 97 16 (((uI M 97 16 (M 97 15)) 97 15) + 1)) := Fr.o f42 (by decide) (by decide)
                      have hB332 : Bd (uI (uI (uI M 97 16 (M 97 15)) 97 16 (((uI M 97 16 (M 97 15)) 97 15) + 1)) 97 17 (((uI M 97 16 (M 97 15)) 101 (Int32.toNatClampNeg ((uI M 97 16 (M 97 15)) 97 15))) &&& 255)) := Bd.o0 hB329 io9_112_97_12 (by decide) bd9_12_17
                      have f333 : Fr pT I (uI (uI (uI M 97 16 (M 97 15)) 97 16 (((uI M 97 16 (M 97 15)) 97 15) + 1)) 97 17 (((uI M 97 16 (M 97 15)) 101 (Int32.toNatClampNeg ((uI M 97 16 (M 97 15)) 97 15))) &&& 255)) := Fr.o f331 (by decide) (by decide)
                      refine w_X12_isSignByte ?_
                      refine ⟨fun c334 => ?_, fun c334 => ?_⟩
                      · skip
                        have d335 : (((((M 101 (Int32.toNatClampNeg (M 97 15))) &&& 255) : Int32).toInt) : Int) = (59) := ci_eq e319 rfl c334
                        refine ⟨Or.inr rfl, ?_⟩
                        intro o336
                        refine ⟨fun c337 => ?_, fun c337 => ?_⟩
                        · exact absurd c337 (by decide)
                        · skip
                          have hB338 : Bd (uI (uI (uI (uI M 97 16 (M 97 15)) 97 16 (((uI M 97 16 (M 97 15)) 97 15) + 1)) 97 17 (((uI M 97 16 (M 97 15)) 101 (Int32.toNatClampNeg ((uI M 97 16 (M 97 15)) 97 15))) &&& 255)) 97 14 3) := Bd.o1 hB332 io9_112_97_12 (by decide) bd9_12_14 (show (3 : Int32).toInt = 3 from rfl) (by omega)
                          have f339 : Fr pT I (uI (uI (uI (uI M 97 16 (M 97 15)) 97 16 (((uI M 97 16 (M 97 15)) 97 15) + 1)) 97 17 (((uI M 97 16 (M 97 15)) 101 (Int32.toNatClampNeg ((uI M 97 16 (M 97 15)) 97 15))) &&& 255)) 97 14 3) := Fr.o f333 (by decide) (by decide)
                          have b340 := Bd.o hB0 io9_112_97_12 bd9_12_14
                          have b341 := Bd.o hB0 io9_112_97_12 bd9_12_16
                          have e342 : (((uI (uI (uI (uI M 97 16 (M 97 15)) 97 16 (((uI M 97 16 (M 97 15)) 97 15) + 1)) 97 17 (((uI M 97 16 (M 97 15)) 101 (Int32.toNatClampNeg ((uI M 97 16 (M 97 15)) 97 15))) &&& 255)) 97 14 3) 97 14) : Int32).toInt = 3 := Eq.trans (congrArg Int32.toInt rd_eq) rfl
                          have e343 : (((uI (uI (uI (uI M 97 16 (M 97 15)) 97 16 (((uI M 97 16 (M 97 15)) 97 15) + 1)) 97 17 (((uI M 97 16 (M 97 15)) 101 (Int32.toNatClampNeg ((uI M 97 16 (M 97 15)) 97 15))) &&& 255)) 97 14 3) 97 16) : Int32).toInt = ((M 97 15).toInt + 1) := Eq.trans (congrArg Int32.toInt (Eq.trans (Eq.trans (rd_k (by decide)) (rd_k (by decide))) rd_eq)) e330
                          exact hQ _ _ _ _ hB338 ⟨(Eq.trans (Eq.trans (Eq.trans (Eq.trans (rd_k (by decide)) (rd_k (by decide))) (rd_k (by decide))) (rd_k (by decide))) hk_97_12), (Eq.trans (Eq.trans (Eq.trans (Eq.trans (rd_k (by decide)) (rd_k (by decide))) (rd_k (by decide))) (rd_k (by decide))) hk_97_27), f339, (by have q3 : (((uI (uI (uI (uI M 97 16 (M 97 15)) 97 16 (((uI M 97 16 (M 97 15)) 97 15) + 1)) 97 17 (((uI M 97 16 (M 97 15)) 101 (Int32.toNatClampNeg ((uI M 97 16 (M 97 15)) 97 15))) &&& 255)) 97 14 3) 97 14) : Int32).toInt = 3 := e342; have q4 : (((uI (uI (uI (uI M 97 16 (M 97 15)) 97 16 (((uI M 97 16 (M 97 15)) 97 15) + 1)) 97 17 (((uI M 97 16 (M 97 15)) 101 (Int32.toNatClampNeg ((uI M 97 16 (M 97 15)) 97 15))) &&& 255)) 97 14 3) 97 16) : Int32).toInt = ((M 97 15).toInt + 1) := e343; omega)⟩
                      · skip
                        have d344 : ¬ (((((M 101 (Int32.toNatClampNeg (M 97 15))) &&& 255) : Int32).toInt) : Int) = (59) := ci_ne e319 rfl c334
                        refine ⟨fun c345 => ?_, fun c345 => ?_⟩
                        · skip
                          have d346 : (((((M 101 (Int32.toNatClampNeg (M 97 15))) &&& 255) : Int32).toInt) : Int) = (60) := ci_eq e319 rfl c345
                          refine ⟨Or.inr rfl, ?_⟩
                          intro o347
                          refine ⟨fun c348 => ?_, fun c348 => ?_⟩
                          · exact absurd c348 (by decide)
                          · skip
                            have hB349 : Bd (uI (uI (uI (uI M 97 16 (M 97 15)) 97 16 (((uI M 97 16 (M 97 15)) 97 15) + 1)) 97 17 (((uI M 97 16 (M 97 15)) 101 (Int32.toNatClampNeg ((uI M 97 16 (M 97 15)) 97 15))) &&& 255)) 97 14 3) := Bd.o1 hB332 io9_112_97_12 (by decide) bd9_12_14 (show (3 : Int32).toInt = 3 from rfl) (by omega)
                            have f350 : Fr pT I (uI (uI (uI (uI M 97 16 (M 97 15)) 97 16 (((uI M 97 16 (M 97 15)) 97 15) + 1)) 97 17 (((uI M 97 16 (M 97 15)) 101 (Int32.toNatClampNeg ((uI M 97 16 (M 97 15)) 97 15))) &&& 255)) 97 14 3) := Fr.o f333 (by decide) (by decide)
                            have b351 := Bd.o hB0 io9_112_97_12 bd9_12_14
                            have b352 := Bd.o hB0 io9_112_97_12 bd9_12_16
                            have e353 : (((uI (uI (uI (uI M 97 16 (M 97 15)) 97 16 (((uI M 97 16 (M 97 15)) 97 15) + 1)) 97 17 (((uI M 97 16 (M 97 15)) 101 (Int32.toNatClampNeg ((uI M 97 16 (M 97 15)) 97 15))) &&& 255)) 97 14 3) 97 14) : Int32).toInt = 3 := Eq.trans (congrArg Int32.toInt rd_eq) rfl
                            have e354 : (((uI (uI (uI (uI M 97 16 (M 97 15)) 97 16 (((uI M 97 16 (M 97 15)) 97 15) + 1)) 97 17 (((uI M 97 16 (M 97 15)) 101 (Int32.toNatClampNeg ((uI M 97 16 (M 97 15)) 97 15))) &&& 255)) 97 14 3) 97 16) : Int32).toInt = ((M 97 15).toInt + 1) := Eq.trans (congrArg Int32.toInt (Eq.trans (Eq.trans (rd_k (by decide)) (rd_k (by decide))) rd_eq)) e330
                            exact hQ _ _ _ _ hB349 ⟨(Eq.trans (Eq.trans (Eq.trans (Eq.trans (rd_k (by decide)) (rd_k (by decide))) (rd_k (by decide))) (rd_k (by decide))) hk_97_12), (Eq.trans (Eq.trans (Eq.trans (Eq.trans (rd_k (by decide)) (rd_k (by decide))) (rd_k (by decide))) (rd_k (by decide))) hk_97_27), f350, (by have q3 : (((uI (uI (uI (uI M 97 16 (M 97 15)) 97 16 (((uI M 97 16 (M 97 15)) 97 15) + 1)) 97 17 (((uI M 97 16 (M 97 15)) 101 (Int32.toNatClampNeg ((uI M 97 16 (M 97 15)) 97 15))) &&& 255)) 97 14 3) 97 14) : Int32).toInt = 3 := e353; have q4 : (((uI (uI (uI (uI M 97 16 (M 97 15)) 97 16 (((uI M 97 16 (M 97 15)) 97 15) + 1)) 97 17 (((uI M 97 16 (M 97 15)) 101 (Int32.toNatClampNeg ((uI M 97 16 (M 97 15)) 97 15))) &&& 255)) 97 14 3) 97 16) : Int32).toInt = ((M 97 15).toInt + 1) := e354; omega)⟩
                        · skip
                          have d355 : ¬ (((((M 101 (Int32.toNatClampNeg (M 97 15))) &&& 255) : Int32).toInt) : Int) = (60) := ci_ne e319 rfl c345
                          refine ⟨fun c356 => ?_, fun c356 => ?_⟩
                          · skip
                            have d357 : (((((M 101 (Int32.toNatClampNeg (M 97 15))) &&& 255) : Int32).toInt) : Int) = (62) := ci_eq e319 rfl c356
                            refine ⟨Or.inr rfl, ?_⟩
                            intro o358
                            refine ⟨fun c359 => ?_, fun c359 => ?_⟩
                            · exact absurd c359 (by decide)
                            · skip
                              have hB360 : Bd (uI (uI (uI (uI M 97 16 (M 97 15)) 97 16 (((uI M 97 16 (M 97 15)) 97 15) + 1)) 97 17 (((uI M 97 16 (M 97 15)) 101 (Int32.toNatClampNeg ((uI M 97 16 (M 97 15)) 97 15))) &&& 255)) 97 14 3) := Bd.o1 hB332 io9_112_97_12 (by decide) bd9_12_14 (show (3 : Int32).toInt = 3 from rfl) (by omega)
                              have f361 : Fr pT I (uI (uI (uI (uI M 97 16 (M 97 15)) 97 16 (((uI M 97 16 (M 97 15)) 97 15) + 1)) 97 17 (((uI M 97 16 (M 97 15)) 101 (Int32.toNatClampNeg ((uI M 97 16 (M 97 15)) 97 15))) &&& 255)) 97 14 3) := Fr.o f333 (by decide) (by decide)
                              have b362 := Bd.o hB0 io9_112_97_12 bd9_12_14
                              have b363 := Bd.o hB0 io9_112_97_12 bd9_12_16
                              have e364 : (((uI (uI (uI (uI M 97 16 (M 97 15)) 97 16 (((uI M 97 16 (M 97 15)) 97 15) + 1)) 97 17 (((uI M 97 16 (M 97 15)) 101 (Int32.toNatClampNeg ((uI M 97 16 (M 97 15)) 97 15))) &&& 255)) 97 14 3) 97 14) : Int32).toInt = 3 := Eq.trans (congrArg Int32.toInt rd_eq) rfl
                              have e365 : (((uI (uI (uI (uI M 97 16 (M 97 15)) 97 16 (((uI M 97 16 (M 97 15)) 97 15) + 1)) 97 17 (((uI M 97 16 (M 97 15)) 101 (Int32.toNatClampNeg ((uI M 97 16 (M 97 15)) 97 15))) &&& 255)) 97 14 3) 97 16) : Int32).toInt = ((M 97 15).toInt + 1) := Eq.trans (congrArg Int32.toInt (Eq.trans (Eq.trans (rd_k (by decide)) (rd_k (by decide))) rd_eq)) e330
                              exact hQ _ _ _ _ hB360 ⟨(Eq.trans (Eq.trans (Eq.trans (Eq.trans (rd_k (by decide)) (rd_k (by decide))) (rd_k (by decide))) (rd_k (by decide))) hk_97_12), (Eq.trans (Eq.trans (Eq.trans (Eq.trans (rd_k (by decide)) (rd_k (by decide))) (rd_k (by decide))) (rd_k (by decide))) hk_97_27), f361, (by have q3 : (((uI (uI (uI (uI M 97 16 (M 97 15)) 97 16 (((uI M 97 16 (M 97 15)) 97 15) + 1)) 97 17 (((uI M 97 16 (M 97 15)) 101 (Int32.toNatClampNeg ((uI M 97 16 (M 97 15)) 97 15))) &&& 255)) 97 14 3) 97 14) : Int32).toInt = 3 := e364; have q4 : (((uI (uI (uI (uI M 97 16 (M 97 15)) 97 16 (((uI M 97 16 (M 97 15)) 97 15) + 1)) 97 17 (((uI M 97 16 (M 97 15)) 101 (Int32.toNatClampNeg ((uI M 97 16 (M 97 15)) 97 15))) &&& 255)) 97 14 3) 97 16) : Int32).toInt = ((M 97 15).toInt + 1) := e365; omega)⟩
                          · skip
                            have d366 : ¬ (((((M 101 (Int32.toNatClampNeg (M 97 15))) &&& 255) : Int32).toInt) : Int) = (62) := ci_ne e319 rfl c356
                            refine ⟨fun c367 => ?_, fun c367 => ?_⟩
                            · skip
                              have d368 : ¬ (((((M 101 (Int32.toNatClampNeg (M 97 15))) &&& 255) : Int32).toInt) : Int) = (61) := ci_ne e319 rfl c367
                              refine ⟨Or.inl rfl, ?_⟩
                              intro o369
                              refine ⟨fun c370 => ?_, fun c370 => ?_⟩
                              · skip
                                have hB371 : Bd (uI (uI (uI (uI M 97 16 (M 97 15)) 97 16 (((uI M 97 16 (M 97 15)) 97 15) + 1)) 97 17 (((uI M 97 16 (M 97 15)) 101 (Int32.toNatClampNeg ((uI M 97 16 (M 97 15)) 97 15))) &&& 255)) 97 14 4) := Bd.o1 hB332 io9_112_97_12 (by decide) bd9_12_14 (show (4 : Int32).toInt = 4 from rfl) (by omega)
                                have f372 : Fr pT I (uI (uI (uI (uI M 97 16 (M 97 15)) 97 16 (((uI M 97 16 (M 97 15)) 97 15) + 1)) 97 17 (((uI M 97 16 (M 97 15)) 101 (Int32.toNatClampNeg ((uI M 97 16 (M 97 15)) 97 15))) &&& 255)) 97 14 4) := Fr.o f333 (by decide) (by decide)
                                have b373 := Bd.o hB0 io9_112_97_12 bd9_12_14
                                have b374 := Bd.o hB0 io9_112_97_12 bd9_12_16
                                have e375 : (((uI (uI (uI (uI M 97 16 (M 97 15)) 97 16 (((uI M 97 16 (M 97 15)) 97 15) + 1)) 97 17 (((uI M 97 16 (M 97 15)) 101 (Int32.toNatClampNeg ((uI M 97 16 (M 97 15)) 97 15))) &&& 255)) 97 14 4) 97 14) : Int32).toInt = 4 := Eq.trans (congrArg Int32.toInt rd_eq) rfl
                                have e376 : (((uI (uI (uI (uI M 97 16 (M 97 15)) 97 16 (((uI M 97 16 (M 97 15)) 97 15) + 1)) 97 17 (((uI M 97 16 (M 97 15)) 101 (Int32.toNatClampNeg ((uI M 97 16 (M 97 15)) 97 15))) &&& 255)) 97 14 4) 97 16) : Int32).toInt = ((M 97 15).toInt + 1) := Eq.trans (congrArg Int32.toInt (Eq.trans (Eq.trans (rd_k (by decide)) (rd_k (by decide))) rd_eq)) e330
                                exact hQ _ _ _ _ hB371 ⟨(Eq.trans (Eq.trans (Eq.trans (Eq.trans (rd_k (by decide)) (rd_k (by decide))) (rd_k (by decide))) (rd_k (by decide))) hk_97_12), (Eq.trans (Eq.trans (Eq.trans (Eq.trans (rd_k (by decide)) (rd_k (by decide))) (rd_k (by decide))) (rd_k (by decide))) hk_97_27), f372, (by have q3 : (((uI (uI (uI (uI M 97 16 (M 97 15)) 97 16 (((uI M 97 16 (M 97 15)) 97 15) + 1)) 97 17 (((uI M 97 16 (M 97 15)) 101 (Int32.toNatClampNeg ((uI M 97 16 (M 97 15)) 97 15))) &&& 255)) 97 14 4) 97 14) : Int32).toInt = 4 := e375; have q4 : (((uI (uI (uI (uI M 97 16 (M 97 15)) 97 16 (((uI M 97 16 (M 97 15)) 97 15) + 1)) 97 17 (((uI M 97 16 (M 97 15)) 101 (Int32.toNatClampNeg ((uI M 97 16 (M 97 15)) 97 15))) &&& 255)) 97 14 4) 97 16) : Int32).toInt = ((M 97 15).toInt + 1) := e376; omega)⟩
                              · exact absurd c370 (by decide)
                            · skip
                              have d377 : (((((M 101 (Int32.toNatClampNeg (M 97 15))) &&& 255) : Int32).toInt) : Int) = (61) := ci_eq e319 rfl c367
                              refine ⟨Or.inr rfl, ?_⟩
                              intro o378
                              refine ⟨fun c379 => ?_, fun c379 => ?_⟩
                              · exact absurd c379 (by decide)
                              · skip
                                have hB380 : Bd (uI (uI (uI (uI M 97 16 (M 97 15)) 97 16 (((uI M 97 16 (M 97 15)) 97 15) + 1)) 97 17 (((uI M 97 16 (M 97 15)) 101 (Int32.toNatClampNeg ((uI M 97 16 (M 97 15)) 97 15))) &&& 255)) 97 14 3) := Bd.o1 hB332 io9_112_97_12 (by decide) bd9_12_14 (show (3 : Int32).toInt = 3 from rfl) (by omega)
                                have f381 : Fr pT I (uI (uI (uI (uI M 97 16 (M 97 15)) 97 16 (((uI M 97 16 (M 97 15)) 97 15) + 1)) 97 17 (((uI M 97 16 (M 97 15)) 101 (Int32.toNatClampNeg ((uI M 97 16 (M 97 15)) 97 15))) &&& 255)) 97 14 3) := Fr.o f333 (by decide) (by decide)
                                have b382 := Bd.o hB0 io9_112_97_12 bd9_12_14
                                have b383 := Bd.o hB0 io9_112_97_12 bd9_12_16
                                have e384 : (((uI (uI (uI (uI M 97 16 (M 97 15)) 97 16 (((uI M 97 16 (M 97 15)) 97 15) + 1)) 97 17 (((uI M 97 16 (M 97 15)) 101 (Int32.toNatClampNeg ((uI M 97 16 (M 97 15)) 97 15))) &&& 255)) 97 14 3) 97 14) : Int32).toInt = 3 := Eq.trans (congrArg Int32.toInt rd_eq) rfl
                                have e385 : (((uI (uI (uI (uI M 97 16 (M 97 15)) 97 16 (((uI M 97 16 (M 97 15)) 97 15) + 1)) 97 17 (((uI M 97 16 (M 97 15)) 101 (Int32.toNatClampNeg ((uI M 97 16 (M 97 15)) 97 15))) &&& 255)) 97 14 3) 97 16) : Int32).toInt = ((M 97 15).toInt + 1) := Eq.trans (congrArg Int32.toInt (Eq.trans (Eq.trans (rd_k (by decide)) (rd_k (by decide))) rd_eq)) e330
                                exact hQ _ _ _ _ hB380 ⟨(Eq.trans (Eq.trans (Eq.trans (Eq.trans (rd_k (by decide)) (rd_k (by decide))) (rd_k (by decide))) (rd_k (by decide))) hk_97_12), (Eq.trans (Eq.trans (Eq.trans (Eq.trans (rd_k (by decide)) (rd_k (by decide))) (rd_k (by decide))) (rd_k (by decide))) hk_97_27), f381, (by have q3 : (((uI (uI (uI (uI M 97 16 (M 97 15)) 97 16 (((uI M 97 16 (M 97 15)) 97 15) + 1)) 97 17 (((uI M 97 16 (M 97 15)) 101 (Int32.toNatClampNeg ((uI M 97 16 (M 97 15)) 97 15))) &&& 255)) 97 14 3) 97 14) : Int32).toInt = 3 := e384; have q4 : (((uI (uI (uI (uI M 97 16 (M 97 15)) 97 16 (((uI M 97 16 (M 97 15)) 97 15) + 1)) 97 17 (((uI M 97 16 (M 97 15)) 101 (Int32.toNatClampNeg ((uI M 97 16 (M 97 15)) 97 15))) &&& 255)) 97 14 3) 97 16) : Int32).toInt = ((M 97 15).toInt + 1) := e385; omega)⟩
                    · exact absurd c328 (by decide)
                  · skip
                    have d386 : ((48) : Int) ≤ ((((M 101 (Int32.toNatClampNeg (M 97 15))) &&& 255) : Int32).toInt) := ci_nlt e319 rfl c325
                    refine ⟨fun c387 => ?_, fun c387 => ?_⟩
                    · skip
                      have d388 : ((57) : Int) < ((((M 101 (Int32.toNatClampNeg (M 97 15))) &&& 255) : Int32).toInt) := ci_lt rfl e319 c387
                      refine ⟨Or.inl rfl, ?_⟩
                      intro o389
                      refine ⟨fun c390 => ?_, fun c390 => ?_⟩
                      · skip
                        have e392 : ((((uI M 97 16 (M 97 15)) 97 15) + 1) : Int32).toInt = ((M 97 15).toInt) + (1) := ti_add e44 rfl (by omega)
                        have hB391 : Bd (uI (uI M 97 16 (M 97 15)) 97 16 (((uI M 97 16 (M 97 15)) 97 15) + 1)) := Bd.o1 hB41 io9_112_97_12 (by decide) bd9_12_16 (show ((((uI M 97 16 (M 97 15)) 97 15) + 1) : Int32).toInt = ((M 97 15).toInt + 1) from e392) (by omega)
                        have f393 : Fr pT I (uI (uI M 97 16 (M 97 15)) 97 16 (((uI M 97 16 (M 97 15)) 97 15) + 1)) := Fr.o f42 (by decide) (by decide)
                        have hB394 : Bd (uI (uI (uI M 97 16 (M 97 15)) 97 16 (((uI M 97 16 (M 97 15)) 97 15) + 1)) 97 17 (((uI M 97 16 (M 97 15)) 101 (Int32.toNatClampNeg ((uI M 97 16 (M 97 15)) 97 15))) &&& 255)) := Bd.o0 hB391 io9_112_97_12 (by decide) bd9_12_17
                        have f395 : Fr pT I (uI (uI (uI M 97 16 (M 97 15)) 97 16 (((uI M 97 16 (M 97 15)) 97 15) + 1)) 97 17 (((uI M 97 16 (M 97 15)) 101 (Int32.toNatClampNeg ((uI M 97 16 (M 97 15)) 97 15))) &&& 255)) := Fr.o f393 (by decide) (by decide)
                        refine w_X12_isSignByte ?_
                        refine ⟨fun c396 => ?_, fun c396 => ?_⟩
                        · skip
                          have d397 : (((((M 101 (Int32.toNatClampNeg (M 97 15))) &&& 255) : Int32).toInt) : Int) = (59) := ci_eq e319 rfl c396
                          refine ⟨Or.inr rfl, ?_⟩
                          intro o398
                          refine ⟨fun c399 => ?_, fun c399 => ?_⟩
                          · exact absurd c399 (by decide)
                          · skip
                            have hB400 : Bd (uI (uI (uI (uI M 97 16 (M 97 15)) 97 16 (((uI M 97 16 (M 97 15)) 97 15) + 1)) 97 17 (((uI M 97 16 (M 97 15)) 101 (Int32.toNatClampNeg ((uI M 97 16 (M 97 15)) 97 15))) &&& 255)) 97 14 3) := Bd.o1 hB394 io9_112_97_12 (by decide) bd9_12_14 (show (3 : Int32).toInt = 3 from rfl) (by omega)
                            have f401 : Fr pT I (uI (uI (uI (uI M 97 16 (M 97 15)) 97 16 (((uI M 97 16 (M 97 15)) 97 15) + 1)) 97 17 (((uI M 97 16 (M 97 15)) 101 (Int32.toNatClampNeg ((uI M 97 16 (M 97 15)) 97 15))) &&& 255)) 97 14 3) := Fr.o f395 (by decide) (by decide)
                            have b402 := Bd.o hB0 io9_112_97_12 bd9_12_14
                            have b403 := Bd.o hB0 io9_112_97_12 bd9_12_16
                            have e404 : (((uI (uI (uI (uI M 97 16 (M 97 15)) 97 16 (((uI M 97 16 (M 97 15)) 97 15) + 1)) 97 17 (((uI M 97 16 (M 97 15)) 101 (Int32.toNatClampNeg ((uI M 97 16 (M 97 15)) 97 15))) &&& 255)) 97 14 3) 97 14) : Int32).toInt = 3 := Eq.trans (congrArg Int32.toInt rd_eq) rfl
                            have e405 : (((uI (uI (uI (uI M 97 16 (M 97 15)) 97 16 (((uI M 97 16 (M 97 15)) 97 15) + 1)) 97 17 (((uI M 97 16 (M 97 15)) 101 (Int32.toNatClampNeg ((uI M 97 16 (M 97 15)) 97 15))) &&& 255)) 97 14 3) 97 16) : Int32).toInt = ((M 97 15).toInt + 1) := Eq.trans (congrArg Int32.toInt (Eq.trans (Eq.trans (rd_k (by decide)) (rd_k (by decide))) rd_eq)) e392
                            exact hQ _ _ _ _ hB400 ⟨(Eq.trans (Eq.trans (Eq.trans (Eq.trans (rd_k (by decide)) (rd_k (by decide))) (rd_k (by decide))) (rd_k (by decide))) hk_97_12), (Eq.trans (Eq.trans (Eq.trans (Eq.trans (rd_k (by decide)) (rd_k (by decide))) (rd_k (by decide))) (rd_k (by decide))) hk_97_27), f401, (by have q3 : (((uI (uI (uI (uI M 97 16 (M 97 15)) 97 16 (((uI M 97 16 (M 97 15)) 97 15) + 1)) 97 17 (((uI M 97 16 (M 97 15)) 101 (Int32.toNatClampNeg ((uI M 97 16 (M 97 15)) 97 15))) &&& 255)) 97 14 3) 97 14) : Int32).toInt = 3 := e404; have q4 : (((uI (uI (uI (uI M 97 16 (M 97 15)) 97 16 (((uI M 97 16 (M 97 15)) 97 15) + 1)) 97 17 (((uI M 97 16 (M 97 15)) 101 (Int32.toNatClampNeg ((uI M 97 16 (M 97 15)) 97 15))) &&& 255)) 97 14 3) 97 16) : Int32).toInt = ((M 97 15).toInt + 1) := e405; omega)⟩
                        · skip
                          have d406 : ¬ (((((M 101 (Int32.toNatClampNeg (M 97 15))) &&& 255) : Int32).toInt) : Int) = (59) := ci_ne e319 rfl c396
                          refine ⟨fun c407 => ?_, fun c407 => ?_⟩
                          · skip
                            have d408 : (((((M 101 (Int32.toNatClampNeg (M 97 15))) &&& 255) : Int32).toInt) : Int) = (60) := ci_eq e319 rfl c407
                            refine ⟨Or.inr rfl, ?_⟩
                            intro o409
                            refine ⟨fun c410 => ?_, fun c410 => ?_⟩
                            · exact absurd c410 (by decide)
                            · skip
                              have hB411 : Bd (uI (uI (uI (uI M 97 16 (M 97 15)) 97 16 (((uI M 97 16 (M 97 15)) 97 15) + 1)) 97 17 (((uI M 97 16 (M 97 15)) 101 (Int32.toNatClampNeg ((uI M 97 16 (M 97 15)) 97 15))) &&& 255)) 97 14 3) := Bd.o1 hB394 io9_112_97_12 (by decide) bd9_12_14 (show (3 : Int32).toInt = 3 from rfl) (by omega)
                              have f412 : Fr pT I (uI (uI (uI (uI M 97 16 (M 97 15)) 97 16 (((uI M 97 16 (M 97 15)) 97 15) + 1)) 97 17 (((uI M 97 16 (M 97 15)) 101 (Int32.toNatClampNeg ((uI M 97 16 (M 97 15)) 97 15))) &&& 255)) 97 14 3) := Fr.o f395 (by decide) (by decide)
                              have b413 := Bd.o hB0 io9_112_97_12 bd9_12_14
                              have b414 := Bd.o hB0 io9_112_97_12 bd9_12_16
                              have e415 : (((uI (uI (uI (uI M 97 16 (M 97 15)) 97 16 (((uI M 97 16 (M 97 15)) 97 15) + 1)) 97 17 (((uI M 97 16 (M 97 15)) 101 (Int32.toNatClampNeg ((uI M 97 16 (M 97 15)) 97 15))) &&& 255)) 97 14 3) 97 14) : Int32).toInt = 3 := Eq.trans (congrArg Int32.toInt rd_eq) rfl
                              have e416 : (((uI (uI (uI (uI M 97 16 (M 97 15)) 97 16 (((uI M 97 16 (M 97 15)) 97 15) + 1)) 97 17 (((uI M 97 16 (M 97 15)) 101 (Int32.toNatClampNeg ((uI M 97 16 (M 97 15)) 97 15))) &&& 255)) 97 14 3) 97 16) : Int32).toInt = ((M 97 15).toInt + 1) := Eq.trans (congrArg Int32.toInt (Eq.trans (Eq.trans (rd_k (by decide)) (rd_k (by decide))) rd_eq)) e392
                              exact hQ _ _ _ _ hB411 ⟨(Eq.trans (Eq.trans (Eq.trans (Eq.trans (rd_k (by decide)) (rd_k (by decide))) (rd_k (by decide))) (rd_k (by decide))) hk_97_12), (Eq.trans (Eq.trans (Eq.trans (Eq.trans (rd_k (by decide)) (rd_k (by decide))) (rd_k (by decide))) (rd_k (by decide))) hk_97_27), f412, (by have q3 : (((uI (uI (uI (uI M 97 16 (M 97 15)) 97 16 (((uI M 97 16 (M 97 15)) 97 15) + 1)) 97 17 (((uI M 97 16 (M 97 15)) 101 (Int32.toNatClampNeg ((uI M 97 16 (M 97 15)) 97 15))) &&& 255)) 97 14 3) 97 14) : Int32).toInt = 3 := e415; have q4 : (((uI (uI (uI (uI M 97 16 (M 97 15)) 97 16 (((uI M 97 16 (M 97 15)) 97 15) + 1)) 97 17 (((uI M 97 16 (M 97 15)) 101 (Int32.toNatClampNeg ((uI M 97 16 (M 97 15)) 97 15))) &&& 255)) 97 14 3) 97 16) : Int32).toInt = ((M 97 15).toInt + 1) := e416; omega)⟩
                          · skip
                            have d417 : ¬ (((((M 101 (Int32.toNatClampNeg (M 97 15))) &&& 255) : Int32).toInt) : Int) = (60) := ci_ne e319 rfl c407
                            refine ⟨fun c418 => ?_, fun c418 => ?_⟩
                            · skip
                              have d419 : (((((M 101 (Int32.toNatClampNeg (M 97 15))) &&& 255) : Int32).toInt) : Int) = (62) := ci_eq e319 rfl c418
                              refine ⟨Or.inr rfl, ?_⟩
                              intro o420
                              refine ⟨fun c421 => ?_, fun c421 => ?_⟩
                              · exact absurd c421 (by decide)
                              · skip
                                have hB422 : Bd (uI (uI (uI (uI M 97 16 (M 97 15)) 97 16 (((uI M 97 16 (M 97 15)) 97 15) + 1)) 97 17 (((uI M 97 16 (M 97 15)) 101 (Int32.toNatClampNeg ((uI M 97 16 (M 97 15)) 97 15))) &&& 255)) 97 14 3) := Bd.o1 hB394 io9_112_97_12 (by decide) bd9_12_14 (show (3 : Int32).toInt = 3 from rfl) (by omega)
                                have f423 : Fr pT I (uI (uI (uI (uI M 97 16 (M 97 15)) 97 16 (((uI M 97 16 (M 97 15)) 97 15) + 1)) 97 17 (((uI M 97 16 (M 97 15)) 101 (Int32.toNatClampNeg ((uI M 97 16 (M 97 15)) 97 15))) &&& 255)) 97 14 3) := Fr.o f395 (by decide) (by decide)
                                have b424 := Bd.o hB0 io9_112_97_12 bd9_12_14
                                have b425 := Bd.o hB0 io9_112_97_12 bd9_12_16
                                have e426 : (((uI (uI (uI (uI M 97 16 (M 97 15)) 97 16 (((uI M 97 16 (M 97 15)) 97 15) + 1)) 97 17 (((uI M 97 16 (M 97 15)) 101 (Int32.toNatClampNeg ((uI M 97 16 (M 97 15)) 97 15))) &&& 255)) 97 14 3) 97 14) : Int32).toInt = 3 := Eq.trans (congrArg Int32.toInt rd_eq) rfl
                                have e427 : (((uI (uI (uI (uI M 97 16 (M 97 15)) 97 16 (((uI M 97 16 (M 97 15)) 97 15) + 1)) 97 17 (((uI M 97 16 (M 97 15)) 101 (Int32.toNatClampNeg ((uI M 97 16 (M 97 15)) 97 15))) &&& 255)) 97 14 3) 97 16) : Int32).toInt = ((M 97 15).toInt + 1) := Eq.trans (congrArg Int32.toInt (Eq.trans (Eq.trans (rd_k (by decide)) (rd_k (by decide))) rd_eq)) e392
                                exact hQ _ _ _ _ hB422 ⟨(Eq.trans (Eq.trans (Eq.trans (Eq.trans (rd_k (by decide)) (rd_k (by decide))) (rd_k (by decide))) (rd_k (by decide))) hk_97_12), (Eq.trans (Eq.trans (Eq.trans (Eq.trans (rd_k (by decide)) (rd_k (by decide))) (rd_k (by decide))) (rd_k (by decide))) hk_97_27), f423, (by have q3 : (((uI (uI (uI (uI M 97 16 (M 97 15)) 97 16 (((uI M 97 16 (M 97 15)) 97 15) + 1)) 97 17 (((uI M 97 16 (M 97 15)) 101 (Int32.toNatClampNeg ((uI M 97 16 (M 97 15)) 97 15))) &&& 255)) 97 14 3) 97 14) : Int32).toInt = 3 := e426; have q4 : (((uI (uI (uI (uI M 97 16 (M 97 15)) 97 16 (((uI M 97 16 (M 97 15)) 97 15) + 1)) 97 17 (((uI M 97 16 (M 97 15)) 101 (Int32.toNatClampNeg ((uI M 97 16 (M 97 15)) 97 15))) &&& 255)) 97 14 3) 97 16) : Int32).toInt = ((M 97 15).toInt + 1) := e427; omega)⟩
                            · skip
                              have d428 : ¬ (((((M 101 (Int32.toNatClampNeg (M 97 15))) &&& 255) : Int32).toInt) : Int) = (62) := ci_ne e319 rfl c418
                              refine ⟨fun c429 => ?_, fun c429 => ?_⟩
                              · skip
                                have d430 : ¬ (((((M 101 (Int32.toNatClampNeg (M 97 15))) &&& 255) : Int32).toInt) : Int) = (61) := ci_ne e319 rfl c429
                                refine ⟨Or.inl rfl, ?_⟩
                                intro o431
                                refine ⟨fun c432 => ?_, fun c432 => ?_⟩
                                · skip
                                  have hB433 : Bd (uI (uI (uI (uI M 97 16 (M 97 15)) 97 16 (((uI M 97 16 (M 97 15)) 97 15) + 1)) 97 17 (((uI M 97 16 (M 97 15)) 101 (Int32.toNatClampNeg ((uI M 97 16 (M 97 15)) 97 15))) &&& 255)) 97 14 4) := Bd.o1 hB394 io9_112_97_12 (by decide) bd9_12_14 (show (4 : Int32).toInt = 4 from rfl) (by omega)
                                  have f434 : Fr pT I (uI (uI (uI (uI M 97 16 (M 97 15)) 97 16 (((uI M 97 16 (M 97 15)) 97 15) + 1)) 97 17 (((uI M 97 16 (M 97 15)) 101 (Int32.toNatClampNeg ((uI M 97 16 (M 97 15)) 97 15))) &&& 255)) 97 14 4) := Fr.o f395 (by decide) (by decide)
                                  have b435 := Bd.o hB0 io9_112_97_12 bd9_12_14
                                  have b436 := Bd.o hB0 io9_112_97_12 bd9_12_16
                                  have e437 : (((uI (uI (uI (uI M 97 16 (M 97 15)) 97 16 (((uI M 97 16 (M 97 15)) 97 15) + 1)) 97 17 (((uI M 97 16 (M 97 15)) 101 (Int32.toNatClampNeg ((uI M 97 16 (M 97 15)) 97 15))) &&& 255)) 97 14 4) 97 14) : Int32).toInt = 4 := Eq.trans (congrArg Int32.toInt rd_eq) rfl
                                  have e438 : (((uI (uI (uI (uI M 97 16 (M 97 15)) 97 16 (((uI M 97 16 (M 97 15)) 97 15) + 1)) 97 17 (((uI M 97 16 (M 97 15)) 101 (Int32.toNatClampNeg ((uI M 97 16 (M 97 15)) 97 15))) &&& 255)) 97 14 4) 97 16) : Int32).toInt = ((M 97 15).toInt + 1) := Eq.trans (congrArg Int32.toInt (Eq.trans (Eq.trans (rd_k (by decide)) (rd_k (by decide))) rd_eq)) e392
                                  exact hQ _ _ _ _ hB433 ⟨(Eq.trans (Eq.trans (Eq.trans (Eq.trans (rd_k (by decide)) (rd_k (by decide))) (rd_k (by decide))) (rd_k (by decide))) hk_97_12), (Eq.trans (Eq.trans (Eq.trans (Eq.trans (rd_k (by decide)) (rd_k (by decide))) (rd_k (by decide))) (rd_k (by decide))) hk_97_27), f434, (by have q3 : (((uI (uI (uI (uI M 97 16 (M 97 15)) 97 16 (((uI M 97 16 (M 97 15)) 97 15) + 1)) 97 17 (((uI M 97 16 (M 97 15)) 101 (Int32.toNatClampNeg ((uI M 97 16 (M 97 15)) 97 15))) &&& 255)) 97 14 4) 97 14) : Int32).toInt = 4 := e437; have q4 : (((uI (uI (uI (uI M 97 16 (M 97 15)) 97 16 (((uI M 97 16 (M 97 15)) 97 15) + 1)) 97 17 (((uI M 97 16 (M 97 15)) 101 (Int32.toNatClampNeg ((uI M 97 16 (M 97 15)) 97 15))) &&& 255)) 97 14 4) 97 16) : Int32).toInt = ((M 97 15).toInt + 1) := e438; omega)⟩
                                · exact absurd c432 (by decide)
                              · skip
                                have d439 : (((((M 101 (Int32.toNatClampNeg (M 97 15))) &&& 255) : Int32).toInt) : Int) = (61) := ci_eq e319 rfl c429
                                refine ⟨Or.inr rfl, ?_⟩
                                intro o440
                                refine ⟨fun c441 => ?_, fun c441 => ?_⟩
                                · exact absurd c441 (by decide)
                                · skip
                                  have hB442 : Bd (uI (uI (uI (uI M 97 16 (M 97 15)) 97 16 (((uI M 97 16 (M 97 15)) 97 15) + 1)) 97 17 (((uI M 97 16 (M 97 15)) 101 (Int32.toNatClampNeg ((uI M 97 16 (M 97 15)) 97 15))) &&& 255)) 97 14 3) := Bd.o1 hB394 io9_112_97_12 (by decide) bd9_12_14 (show (3 : Int32).toInt = 3 from rfl) (by omega)
                                  have f443 : Fr pT I (uI (uI (uI (uI M 97 16 (M 97 15)) 97 16 (((uI M 97 16 (M 97 15)) 97 15) + 1)) 97 17 (((uI M 97 16 (M 97 15)) 101 (Int32.toNatClampNeg ((uI M 97 16 (M 97 15)) 97 15))) &&& 255)) 97 14 3) := Fr.o f395 (by decide) (by decide)
                                  have b444 := Bd.o hB0 io9_112_97_12 bd9_12_14
                                  have b445 := Bd.o hB0 io9_112_97_12 bd9_12_16
                                  have e446 : (((uI (uI (uI (uI M 97 16 (M 97 15)) 97 16 (((uI M 97 16 (M 97 15)) 97 15) + 1)) 97 17 (((uI M 97 16 (M 97 15)) 101 (Int32.toNatClampNeg ((uI M 97 16 (M 97 15)) 97 15))) &&& 255)) 97 14 3) 97 14) : Int32).toInt = 3 := Eq.trans (congrArg Int32.toInt rd_eq) rfl
                                  have e447 : (((uI (uI (uI (uI M 97 16 (M 97 15)) 97 16 (((uI M 97 16 (M 97 15)) 97 15) + 1)) 97 17 (((uI M 97 16 (M 97 15)) 101 (Int32.toNatClampNeg ((uI M 97 16 (M 97 15)) 97 15))) &&& 255)) 97 14 3) 97 16) : Int32).toInt = ((M 97 15).toInt + 1) := Eq.trans (congrArg Int32.toInt (Eq.trans (Eq.trans (rd_k (by decide)) (rd_k (by decide))) rd_eq)) e392
                                  exact hQ _ _ _ _ hB442 ⟨(Eq.trans (Eq.trans (Eq.trans (Eq.trans (rd_k (by decide)) (rd_k (by decide))) (rd_k (by decide))) (rd_k (by decide))) hk_97_12), (Eq.trans (Eq.trans (Eq.trans (Eq.trans (rd_k (by decide)) (rd_k (by decide))) (rd_k (by decide))) (rd_k (by decide))) hk_97_27), f443, (by have q3 : (((uI (uI (uI (uI M 97 16 (M 97 15)) 97 16 (((uI M 97 16 (M 97 15)) 97 15) + 1)) 97 17 (((uI M 97 16 (M 97 15)) 101 (Int32.toNatClampNeg ((uI M 97 16 (M 97 15)) 97 15))) &&& 255)) 97 14 3) 97 14) : Int32).toInt = 3 := e446; have q4 : (((uI (uI (uI (uI M 97 16 (M 97 15)) 97 16 (((uI M 97 16 (M 97 15)) 97 15) + 1)) 97 17 (((uI M 97 16 (M 97 15)) 101 (Int32.toNatClampNeg ((uI M 97 16 (M 97 15)) 97 15))) &&& 255)) 97 14 3) 97 16) : Int32).toInt = ((M 97 15).toInt + 1) := e447; omega)⟩
                      · exact absurd c390 (by decide)
                    · skip
                      have d448 : (((((M 101 (Int32.toNatClampNeg (M 97 15))) &&& 255) : Int32).toInt) : Int) ≤ (57) := ci_nlt rfl e319 c387
                      refine ⟨Or.inr rfl, ?_⟩
                      intro o449
                      refine ⟨fun c450 => ?_, fun c450 => ?_⟩
                      · exact absurd c450 (by decide)
                      · skip
                        have hB451 : Bd (uI (uI M 97 16 (M 97 15)) 97 17 0) := Bd.o0 hB41 io9_112_97_12 (by decide) bd9_12_17
                        have f452 : Fr pT I (uI (uI M 97 16 (M 97 15)) 97 17 0) := Fr.o f42 (by decide) (by decide)
                        refine sg_X12_advance_210 hc _ _ _ ?_
                        refine w_X12_look2 ?_
                        refine ⟨fun c453 => ?_, fun c453 => ?_⟩
                        · skip
                          have e454 : (((uI (uI M 97 16 (M 97 15)) 97 17 0) 97 16) : Int32).toInt = (M 97 15).toInt := Eq.trans (congrArg Int32.toInt (Eq.trans (rd_k (by decide)) rd_eq)) rfl
                          have e455 : (((uI (uI M 97 16 (M 97 15)) 97 17 0) 97 9) : Int32).toInt = (M 97 9).toInt := Eq.trans (congrArg Int32.toInt (Eq.trans (rd_k (by decide)) (rd_k (by decide)))) rfl
                          have d456 : (((M 97 9).toInt) : Int) ≤ ((M 97 15).toInt) := ci_le e455 e454 c453
                          refine w_X12_isDigit ?_
                          refine ⟨fun c457 => ?_, fun c457 => ?_⟩
                          · skip
                            refine ⟨Or.inl rfl, ?_⟩
                            intro o458
                            refine ⟨fun c459 => ?_, fun c459 => ?_⟩
                            · skip
                              refine ⟨fun c460 => ?_, fun c460 => ?_⟩
                              · skip
                                have e461 : (((uI (uI M 97 16 (M 97 15)) 97 17 0) 97 15) : Int32).toInt = (M 97 15).toInt := Eq.trans (congrArg Int32.toInt (Eq.trans (rd_k (by decide)) (rd_k (by decide)))) rfl
                                have e462 : ((((uI (uI M 97 16 (M 97 15)) 97 17 0) 97 16) - ((uI (uI M 97 16 (M 97 15)) 97 17 0) 97 15)) : Int32).toInt = ((M 97 15).toInt) - ((M 97 15).toInt) := ti_sub e454 e461 (by omega)
                                have d463 : ((((M 97 15).toInt - (M 97 15).toInt)) : Int) ≤ (4) := ci_le e462 rfl c460
                                have hB464 : Bd (uI (uI (uI M 97 16 (M 97 15)) 97 17 0) 97 14 2) := Bd.o1 hB451 io9_112_97_12 (by decide) bd9_12_14 (show (2 : Int32).toInt = 2 from rfl) (by omega)
                                have f465 : Fr pT I (uI (uI (uI M 97 16 (M 97 15)) 97 17 0) 97 14 2) := Fr.o f452 (by decide) (by decide)
                                have b466 := Bd.o hB0 io9_112_97_12 bd9_12_14
                                have b467 := Bd.o hB0 io9_112_97_12 bd9_12_16
                                have e468 : (((uI (uI (uI M 97 16 (M 97 15)) 97 17 0) 97 14 2) 97 14) : Int32).toInt = 2 := Eq.trans (congrArg Int32.toInt rd_eq) rfl
                                have e469 : (((uI (uI (uI M 97 16 (M 97 15)) 97 17 0) 97 14 2) 97 16) : Int32).toInt = (M 97 15).toInt := Eq.trans (congrArg Int32.toInt (Eq.trans (Eq.trans (rd_k (by decide)) (rd_k (by decide))) rd_eq)) rfl
                                exact hQ _ _ _ _ hB464 ⟨(Eq.trans (Eq.trans (Eq.trans (rd_k (by decide)) (rd_k (by decide))) (rd_k (by decide))) hk_97_12), (Eq.trans (Eq.trans (Eq.trans (rd_k (by decide)) (rd_k (by decide))) (rd_k (by decide))) hk_97_27), f465, (by have q3 : (((uI (uI (uI M 97 16 (M 97 15)) 97 17 0) 97 14 2) 97 14) : Int32).toInt = 2 := e468; have q4 : (((uI (uI (uI M 97 16 (M 97 15)) 97 17 0) 97 14 2) 97 16) : Int32).toInt = (M 97 15).toInt := e469; omega)⟩
                              · skip
                                have e470 : (((uI (uI M 97 16 (M 97 15)) 97 17 0) 97 15) : Int32).toInt = (M 97 15).toInt := Eq.trans (congrArg Int32.toInt (Eq.trans (rd_k (by decide)) (rd_k (by decide)))) rfl
                                have e471 : ((((uI (uI M 97 16 (M 97 15)) 97 17 0) 97 16) - ((uI (uI M 97 16 (M 97 15)) 97 17 0) 97 15)) : Int32).toInt = ((M 97 15).toInt) - ((M 97 15).toInt) := ti_sub e454 e470 (by omega)
                                have d472 : ((4) : Int) < (((M 97 15).toInt - (M 97 15).toInt)) := ci_nle e471 rfl c460
                                have hB473 : Bd (uI (uI (uI M 97 16 (M 97 15)) 97 17 0) 97 14 4) := Bd.o1 hB451 io9_112_97_12 (by decide) bd9_12_14 (show (4 : Int32).toInt = 4 from rfl) (by omega)
                                have f474 : Fr pT I (uI (uI (uI M 97 16 (M 97 15)) 97 17 0) 97 14 4) := Fr.o f452 (by decide) (by decide)
                                have b475 := Bd.o hB0 io9_112_97_12 bd9_12_14
                                have b476 := Bd.o hB0 io9_112_97_12 bd9_12_16
                                have e477 : (((uI (uI (uI M 97 16 (M 97 15)) 97 17 0) 97 14 4) 97 14) : Int32).toInt = 4 := Eq.trans (congrArg Int32.toInt rd_eq) rfl
                                have e478 : (((uI (uI (uI M 97 16 (M 97 15)) 97 17 0) 97 14 4) 97 16) : Int32).toInt = (M 97 15).toInt := Eq.trans (congrArg Int32.toInt (Eq.trans (Eq.trans (rd_k (by decide)) (rd_k (by decide))) rd_eq)) rfl
                                exact hQ _ _ _ _ hB473 ⟨(Eq.trans (Eq.trans (Eq.trans (rd_k (by decide)) (rd_k (by decide))) (rd_k (by decide))) hk_97_12), (Eq.trans (Eq.trans (Eq.trans (rd_k (by decide)) (rd_k (by decide))) (rd_k (by decide))) hk_97_27), f474, (by have q3 : (((uI (uI (uI M 97 16 (M 97 15)) 97 17 0) 97 14 4) 97 14) : Int32).toInt = 4 := e477; have q4 : (((uI (uI (uI M 97 16 (M 97 15)) 97 17 0) 97 14 4) 97 16) : Int32).toInt = (M 97 15).toInt := e478; omega)⟩
                            · exact absurd c459 (by decide)
                          · exact absurd c457 (by decide)
                        · skip
                          have e479 : (((uI (uI M 97 16 (M 97 15)) 97 17 0) 97 16) : Int32).toInt = (M 97 15).toInt := Eq.trans (congrArg Int32.toInt (Eq.trans (rd_k (by decide)) rd_eq)) rfl
                          have e480 : (((uI (uI M 97 16 (M 97 15)) 97 17 0) 97 9) : Int32).toInt = (M 97 9).toInt := Eq.trans (congrArg Int32.toInt (Eq.trans (rd_k (by decide)) (rd_k (by decide)))) rfl
                          have d481 : (((M 97 15).toInt) : Int) < ((M 97 9).toInt) := ci_nle e480 e479 c453
                          refine ⟨vp_of (a := (M 97 15).toInt) e479 (by omega) (by omega), ?_⟩
                          refine w_X12_isDigit ?_
                          refine ⟨fun c482 => ?_, fun c482 => ?_⟩
                          · skip
                            have e483 : ((((uI (uI M 97 16 (M 97 15)) 97 17 0) 101 (Int32.toNatClampNeg ((uI (uI M 97 16 (M 97 15)) 97 17 0) 97 16))) &&& 255) : Int32).toInt = (((M 101 (Int32.toNatClampNeg (M 97 15))) &&& 255) : Int32).toInt := congrArg (fun z => (z &&& 255 : Int32).toInt) (Eq.trans (Eq.trans (rd_ne (by first | decide | omega)) (rd_ne (by first | decide | omega))) (congrArg (fun z => M 101 (Int32.toNatClampNeg z)) (Eq.trans (rd_k (by decide)) rd_eq)))
                            have d484 : (((((M 101 (Int32.toNatClampNeg (M 97 15))) &&& 255) : Int32).toInt) : Int) < (48) := ci_lt e483 rfl c482
                            refine ⟨Or.inl rfl, ?_⟩
                            intro o485
                            refine ⟨fun c486 => ?_, fun c486 => ?_⟩
                            · skip
                              refine ⟨fun c487 => ?_, fun c487 => ?_⟩
                              · skip
                                have e488 : (((uI (uI M 97 16 (M 97 15)) 97 17 0) 97 15) : Int32).toInt = (M 97 15).toInt := Eq.trans (congrArg Int32.toInt (Eq.trans (rd_k (by decide)) (rd_k (by decide)))) rfl
                                have e489 : ((((uI (uI M 97 16 (M 97 15)) 97 17 0) 97 16) - ((uI (uI M 97 16 (M 97 15)) 97 17 0) 97 15)) : Int32).toInt = ((M 97 15).toInt) - ((M 97 15).toInt) := ti_sub e479 e488 (by omega)
                                have d490 : ((((M 97 15).toInt - (M 97 15).toInt)) : Int) ≤ (4) := ci_le e489 rfl c487
                                have hB491 : Bd (uI (uI (uI M 97 16 (M 97 15)) 97 17 0) 97 14 2) := Bd.o1 hB451 io9_112_97_12 (by decide) bd9_12_14 (show (2 : Int32).toInt = 2 from rfl) (by omega)
                                have f492 : Fr pT I (uI (uI (uI M 97 16 (M 97 15)) 97 17 0) 97 14 2) := Fr.o f452 (by decide) (by decide)
                                have b493 := Bd.o hB0 io9_112_97_12 bd9_12_14
                                have b494 := Bd.o hB0 io9_112_97_12 bd9_12_16
                                have e495 : (((uI (uI (uI M 97 16 (M 97 15)) 97 17 0) 97 14 2) 97 14) : Int32).toInt = 2 := Eq.trans (congrArg Int32.toInt rd_eq) rfl
                                have e496 : (((uI (uI (uI M 97 16 (M 97 15)) 97 17 0) 97 14 2) 97 16) : Int32).toInt = (M 97 15).toInt := Eq.trans (congrArg Int32.toInt (Eq.trans (Eq.trans (rd_k (by decide)) (rd_k (by decide))) rd_eq)) rfl
                                exact hQ _ _ _ _ hB491 ⟨(Eq.trans (Eq.trans (Eq.trans (rd_k (by decide)) (rd_k (by decide))) (rd_k (by decide))) hk_97_12), (Eq.trans (Eq.trans (Eq.trans (rd_k (by decide)) (rd_k (by decide))) (rd_k (by decide))) hk_97_27), f492, (by have q3 : (((uI (uI (uI M 97 16 (M 97 15)) 97 17 0) 97 14 2) 97 14) : Int32).toInt = 2 := e495; have q4 : (((uI (uI (uI M 97 16 (M 97 15)) 97 17 0) 97 14 2) 97 16) : Int32).toInt = (M 97 15).toInt := e496; omega)⟩
                              · skip
                                have e497 : (((uI (uI M 97 16 (M 97 15)) 97 17 0) 97 15) : Int32).toInt = (M 97 15).toInt := Eq.trans (congrArg Int32.toInt (Eq.trans (rd_k (by decide)) (rd_k (by decide)))) rfl
                                have e498 : ((((uI (uI M 97 16 (M 97 15)) 97 17 0) 97 16) - ((uI (uI M 97 16 (M 97 15)) 97 17 0) 97 15)) : Int32).toInt = ((M 97 15).toInt) - ((M 97 15).toInt) := ti_sub e479 e497 (by omega)
                                have d499 : ((4) : Int) < (((M 97 15).toInt - (M 97 15).toInt)) := ci_nle e498 rfl c487
                                have hB500 : Bd (uI (uI (uI M 97 16 (M 97 15)) 97 17 0) 97 14 4) := Bd.o1 hB451 io9_112_97_12 (by decide) bd9_12_14 (show (4 : Int32).toInt = 4 from rfl) (by omega)
                                have f501 : Fr pT I (uI (uI (uI M 97 16 (M 97 15)) 97 17 0) 97 14 4) := Fr.o f452 (by decide) (by decide)
                                have b502 := Bd.o hB0 io9_112_97_12 bd9_12_14
                                have b503 := Bd.o hB0 io9_112_97_12 bd9_12_16
                                have e504 : (((uI (uI (uI M 97 16 (M 97 15)) 97 17 0) 97 14 4) 97 14) : Int32).toInt = 4 := Eq.trans (congrArg Int32.toInt rd_eq) rfl
                                have e505 : (((uI (uI (uI M 97 16 (M 97 15)) 97 17 0) 97 14 4) 97 16) : Int32).toInt = (M 97 15).toInt := Eq.trans (congrArg Int32.toInt (Eq.trans (Eq.trans (rd_k (by decide)) (rd_k (by decide))) rd_eq)) rfl
                                exact hQ _ _ _ _ hB500 ⟨(Eq.trans (Eq.trans (Eq.trans (rd_k (by decide)) (rd_k (by decide))) (rd_k (by decide))) hk_97_12), (Eq.trans (Eq.trans (Eq.trans (rd_k (by decide)) (rd_k (by decide))) (rd_k (by decide))) hk_97_27), f501, (by have q3 : (((uI (uI (uI M 97 16 (M 97 15)) 97 17 0) 97 14 4) 97 14) : Int32).toInt = 4 := e504; have q4 : (((uI (uI (uI M 97 16 (M 97 15)) 97 17 0) 97 14 4) 97 16) : Int32).toInt = (M 97 15).toInt := e505; omega)⟩
                            · exact absurd c486 (by decide)
                          · skip
                            have e506 : ((((uI (uI M 97 16 (M 97 15)) 97 17 0) 101 (Int32.toNatClampNeg ((uI (uI M 97 16 (M 97 15)) 97 17 0) 97 16))) &&& 255) : Int32).toInt = (((M 101 (Int32.toNatClampNeg (M 97 15))) &&& 255) : Int32).toInt := congrArg (fun z => (z &&& 255 : Int32).toInt) (Eq.trans (Eq.trans (rd_ne (by first | decide | omega)) (rd_ne (by first | decide | omega))) (congrArg (fun z => M 101 (Int32.toNatClampNeg z)) (Eq.trans (rd_k (by decide)) rd_eq)))
                            have d507 : ((48) : Int) ≤ ((((M 101 (Int32.toNatClampNeg (M 97 15))) &&& 255) : Int32).toInt) := ci_nlt e506 rfl c482
                            refine ⟨fun c508 => ?_, fun c508 => ?_⟩
                            · skip
                              have d509 : ((57) : Int) < ((((M 101 (Int32.toNatClampNeg (M 97 15))) &&& 255) : Int32).toInt) := ci_lt rfl e506 c508
                              refine ⟨Or.inl rfl, ?_⟩
                              intro o510
                              refine ⟨fun c511 => ?_, fun c511 => ?_⟩
                              · skip
                                refine ⟨fun c512 => ?_, fun c512 => ?_⟩
                                · skip
                                  have e513 : (((uI (uI M 97 16 (M 97 15)) 97 17 0) 97 15) : Int32).toInt = (M 97 15).toInt := Eq.trans (congrArg Int32.toInt (Eq.trans (rd_k (by decide)) (rd_k (by decide)))) rfl
                                  have e514 : ((((uI (uI M 97 16 (M 97 15)) 97 17 0) 97 16) - ((uI (uI M 97 16 (M 97 15)) 97 17 0) 97 15)) : Int32).toInt = ((M 97 15).toInt) - ((M 97 15).toInt) := ti_sub e479 e513 (by omega)
                                  have d515 : ((((M 97 15).toInt - (M 97 15).toInt)) : Int) ≤ (4) := ci_le e514 rfl c512
                                  have hB516 : Bd (uI (uI (uI M 97 16 (M 97 15)) 97 17 0) 97 14 2) := Bd.o1 hB451 io9_112_97_12 (by decide) bd9_12_14 (show (2 : Int32).toInt = 2 from rfl) (by omega)
                                  have f517 : Fr pT I (uI (uI (uI M 97 16 (M 97 15)) 97 17 0) 97 14 2) := Fr.o f452 (by decide) (by decide)
                                  have b518 := Bd.o hB0 io9_112_97_12 bd9_12_14
                                  have b519 := Bd.o hB0 io9_112_97_12 bd9_12_16
                                  have e520 : (((uI (uI (uI M 97 16 (M 97 15)) 97 17 0) 97 14 2) 97 14) : Int32).toInt = 2 := Eq.trans (congrArg Int32.toInt rd_eq) rfl
                                  have e521 : (((uI (uI (uI M 97 16 (M 97 15)) 97 17 0) 97 14 2) 97 16) : Int32).toInt = (M 97 15).toInt := Eq.trans (congrArg Int32.toInt (Eq.trans (Eq.trans (rd_k (by decide)) (rd_k (by decide))) rd_eq)) rfl
                                  exact hQ _ _ _ _ hB516 ⟨(Eq.trans (Eq.trans (Eq.trans (rd_k (by decide)) (rd_k (by decide))) (rd_k (by decide))) hk_97_12), (Eq.trans (Eq.trans (Eq.trans (rd_k (by decide)) (rd_k (by decide))) (rd_k (by decide))) hk_97_27), f517, (by have q3 : (((uI (uI (uI M 97 16 (M 97 15)) 97 17 0) 97 14 2) 97 14) : Int32).toInt = 2 := e520; have q4 : (((uI (uI (uI M 97 16 (M 97 15)) 97 17 0) 97 14 2) 97 16) : Int32).toInt = (M 97 15).toInt := e521; omega)⟩
                                · skip
                                  have e522 : (((uI (uI M 97 16 (M 97 15)) 97 17 0) 97 15) : Int32).toInt = (M 97 15).toInt := Eq.trans (congrArg Int32.toInt (Eq.trans (rd_k (by decide)) (rd_k (by decide)))) rfl
                                  have e523 : ((((uI (uI M 97 16 (M 97 15)) 97 17 0) 97 16) - ((uI (uI M 97 16 (M 97 15)) 97 17 0) 97 15)) : Int32).toInt = ((M 97 15).toInt) - ((M 97 15).toInt) := ti_sub e479 e522 (by omega)
                                  have d524 : ((4) : Int) < (((M 97 15).toInt - (M 97 15).toInt)) := ci_nle e523 rfl c512
                                  have hB525 : Bd (uI (uI (uI M 97 16 (M 97 15)) 97 17 0) 97 14 4) := Bd.o1 hB451 io9_112_97_12 (by decide) bd9_12_14 (show (4 : Int32).toInt = 4 from rfl) (by omega)
                                  have f526 : Fr pT I (uI (uI (uI M 97 16 (M 97 15)) 97 17 0) 97 14 4) := Fr.o f452 (by decide) (by decide)
                                  have b527 := Bd.o hB0 io9_112_97_12 bd9_12_14
                                  have b528 := Bd.o hB0 io9_112_97_12 bd9_12_16
                                  have e529 : (((uI (uI (uI M 97 16 (M 97 15)) 97 17 0) 97 14 4) 97 14) : Int32).toInt = 4 := Eq.trans (congrArg Int32.toInt rd_eq) rfl
                                  have e530 : (((uI (uI (uI M 97 16 (M 97 15)) 97 17 0) 97 14 4) 97 16) : Int32).toInt = (M 97 15).toInt := Eq.trans (congrArg Int32.toInt (Eq.trans (Eq.trans (rd_k (by decide)) (rd_k (by decide))) rd_eq)) rfl
                                  exact hQ _ _ _ _ hB525 ⟨(Eq.trans (Eq.trans (Eq.trans (rd_k (by decide)) (rd_k (by decide))) (rd_k (by decide))) hk_97_12), (Eq.trans (Eq.trans (Eq.trans (rd_k (by decide)) (rd_k (by decide))) (rd_k (by decide))) hk_97_27), f526, (by have q3 : (((uI (uI (uI M 97 16 (M 97 15)) 97 17 0) 97 14 4) 97 14) : Int32).toInt = 4 := e529; have q4 : (((uI (uI (uI M 97 16 (M 97 15)) 97 17 0) 97 14 4) 97 16) : Int32).toInt = (M 97 15).toInt := e530; omega)⟩
                              · exact absurd c511 (by decide)
                            · skip
                              have d531 : (((((M 101 (Int32.toNatClampNeg (M 97 15))) &&& 255) : Int32).toInt) : Int) ≤ (57) := ci_nlt rfl e506 c508
                              refine ⟨Or.inr rfl, ?_⟩
                              intro o532
                              refine ⟨fun c533 => ?_, fun c533 => ?_⟩
                              · exact absurd c533 (by decide)
                              · skip
                                refine ⟨fun c534 => ?_, fun c534 => ?_⟩
                                · skip
                                  have e535 : (((uI (uI M 97 16 (M 97 15)) 97 17 0) 97 15) : Int32).toInt = (M 97 15).toInt := Eq.trans (congrArg Int32.toInt (Eq.trans (rd_k (by decide)) (rd_k (by decide)))) rfl
                                  have e536 : ((((uI (uI M 97 16 (M 97 15)) 97 17 0) 97 16) - ((uI (uI M 97 16 (M 97 15)) 97 17 0) 97 15)) : Int32).toInt = ((M 97 15).toInt) - ((M 97 15).toInt) := ti_sub e479 e535 (by omega)
                                  have d537 : ((4) : Int) ≤ (((M 97 15).toInt - (M 97 15).toInt)) := ci_le rfl e536 c534
                                  have e539 : ((((uI (uI M 97 16 (M 97 15)) 97 17 0) 97 16) + 1) : Int32).toInt = ((M 97 15).toInt) + (1) := ti_add e479 rfl (by omega)
                                  have hB538 : Bd (uI (uI (uI M 97 16 (M 97 15)) 97 17 0) 97 16 (((uI (uI M 97 16 (M 97 15)) 97 17 0) 97 16) + 1)) := Bd.o1 hB451 io9_112_97_12 (by decide) bd9_12_16 (show ((((uI (uI M 97 16 (M 97 15)) 97 17 0) 97 16) + 1) : Int32).toInt = ((M 97 15).toInt + 1) from e539) (by omega)
                                  have f540 : Fr pT I (uI (uI (uI M 97 16 (M 97 15)) 97 17 0) 97 16 (((uI (uI M 97 16 (M 97 15)) 97 17 0) 97 16) + 1)) := Fr.o f452 (by decide) (by decide)
                                  have e541 : (((uI (uI (uI M 97 16 (M 97 15)) 97 17 0) 97 16 (((uI (uI M 97 16 (M 97 15)) 97 17 0) 97 16) + 1)) 97 15) : Int32).toInt = (M 97 15).toInt := Eq.trans (congrArg Int32.toInt (Eq.trans (Eq.trans (rd_k (by decide)) (rd_k (by decide))) (rd_k (by decide)))) rfl
                                  have e542 : (((uI (uI (uI M 97 16 (M 97 15)) 97 17 0) 97 16 (((uI (uI M 97 16 (M 97 15)) 97 17 0) 97 16) + 1)) 97 16) : Int32).toInt = ((M 97 15).toInt + 1) := Eq.trans (congrArg Int32.toInt rd_eq) e539
                                  exact ih.2.2.2 _ _ hB538 (Eq.trans (Eq.trans (Eq.trans (rd_k (by decide)) (rd_k (by decide))) (rd_k (by decide))) hk_97_12) (Eq.trans (Eq.trans (Eq.trans (rd_k (by decide)) (rd_k (by decide))) (rd_k (by decide))) hk_97_27) f540 (by have q0 : (((uI (uI (uI M 97 16 (M 97 15)) 97 17 0) 97 16 (((uI (uI M 97 16 (M 97 15)) 97 17 0) 97 16) + 1)) 97 15) : Int32).toInt = (M 97 15).toInt := e541; have q1 : (((uI (uI (uI M 97 16 (M 97 15)) 97 17 0) 97 16 (((uI (uI M 97 16 (M 97 15)) 97 17 0) 97 16) + 1)) 97 15) : Int32).toInt = (M 97 15).toInt := e541; have q2 : (((uI (uI (uI M 97 16 (M 97 15)) 97 17 0) 97 16 (((uI (uI M 97 16 (M 97 15)) 97 17 0) 97 16) + 1)) 97 16) : Int32).toInt = ((M 97 15).toInt + 1) := e542; have q3 : (((uI (uI (uI M 97 16 (M 97 15)) 97 17 0) 97 16 (((uI (uI M 97 16 (M 97 15)) 97 17 0) 97 16) + 1)) 97 16) : Int32).toInt = ((M 97 15).toInt + 1) := e542; omega) (by have q0 : (((uI (uI (uI M 97 16 (M 97 15)) 97 17 0) 97 16 (((uI (uI M 97 16 (M 97 15)) 97 17 0) 97 16) + 1)) 97 16) : Int32).toInt = ((M 97 15).toInt + 1) := e542; omega)
                                · skip
                                  have e543 : (((uI (uI M 97 16 (M 97 15)) 97 17 0) 97 15) : Int32).toInt = (M 97 15).toInt := Eq.trans (congrArg Int32.toInt (Eq.trans (rd_k (by decide)) (rd_k (by decide)))) rfl
                                  have e544 : ((((uI (uI M 97 16 (M 97 15)) 97 17 0) 97 16) - ((uI (uI M 97 16 (M 97 15)) 97 17 0) 97 15)) : Int32).toInt = ((M 97 15).toInt) - ((M 97 15).toInt) := ti_sub e479 e543 (by omega)
                                  have d545 : ((((M 97 15).toInt - (M 97 15).toInt)) : Int) < (4) := ci_nle rfl e544 c534
                                  refine w_X12_look2 ?_
                                  refine ⟨fun c546 => ?_, fun c546 => ?_⟩
                                  · skip
                                    have d547 : (((M 97 9).toInt) : Int) ≤ ((M 97 15).toInt) := ci_le e480 e479 c546
                                    have hB548 : Bd (uI (uI (uI M 97 16 (M 97 15)) 97 17 0) 97 17 (((10 * ((uI (uI M 97 16 (M 97 15)) 97 17 0) 97 17)) + 0) - 48)) := Bd.o0 hB451 io9_112_97_12 (by decide) bd9_12_17
                                    have f549 : Fr pT I (uI (uI (uI M 97 16 (M 97 15)) 97 17 0) 97 17 (((10 * ((uI (uI M 97 16 (M 97 15)) 97 17 0) 97 17)) + 0) - 48)) := Fr.o f452 (by decide) (by decide)
                                    have e551 : (((uI (uI (uI M 97 16 (M 97 15)) 97 17 0) 97 17 (((10 * ((uI (uI M 97 16 (M 97 15)) 97 17 0) 97 17)) + 0) - 48)) 97 16) : Int32).toInt = (M 97 15).toInt := Eq.trans (congrArg Int32.toInt (Eq.trans (Eq.trans (rd_k (by decide)) (rd_k (by decide))) rd_eq)) rfl
                                    have e552 : ((((uI (uI (uI M 97 16 (M 97 15)) 97 17 0) 97 17 (((10 * ((uI (uI M 97 16 (M 97 15)) 97 17 0) 97 17)) + 0) - 48)) 97 16) + 1) : Int32).toInt = ((M 97 15).toInt) + (1) := ti_add e551 rfl (by omega)
                                    have hB550 : Bd (uI (uI (uI (uI M 97 16 (M 97 15)) 97 17 0) 97 17 (((10 * ((uI (uI M 97 16 (M 97 15)) 97 17 0) 97 17)) + 0) - 48)) 97 16 (((uI (uI (uI M 97 16 (M 97 15)) 97 17 0) 97 17 (((10 * ((uI (uI M 97 16 (M 97 15)) 97 17 0) 97 17)) + 0) - 48)) 97 16) + 1)) := Bd.o1 hB548 io9_112_97_12 (by decide) bd9_12_16 (show ((((uI (uI (uI M 97 16 (M 97 15)) 97 17 0) 97 17 (((10 * ((uI (uI M 97 16 (M 97 15)) 97 17 0) 97 17)) + 0) - 48)) 97 16) + 1) : Int32).toInt = ((M 97 15).toInt + 1) from e552) (by omega)
                                    have f553 : Fr pT I (uI (uI (uI (uI M 97 16 (M 97 15)) 97 17 0) 97 17 (((10 * ((uI (uI M 97 16 (M 97 15)) 97 17 0) 97 17)) + 0) - 48)) 97 16 (((uI (uI (uI M 97 16 (M 97 15)) 97 17 0) 97 17 (((10 * ((uI (uI M 97 16 (M 97 15)) 97 17 0) 97 17)) + 0) - 48)) 97 16) + 1)) := Fr.o f549 (by decide) (by decide)
                                    have e554 : (((uI (uI (uI (uI M 97 16 (M 97 15)) 97 17 0) 97 17 (((10 * ((uI (uI M 97 16 (M 97 15)) 97 17 0) 97 17)) + 0) - 48)) 97 16 (((uI (uI (uI M 97 16 (M 97 15)) 97 17 0) 97 17 (((10 * ((uI (uI M 97 16 (M 97 15)) 97 17 0) 97 17)) + 0) - 48)) 97 16) + 1)) 97 15) : Int32).toInt = (M 97 15).toInt := Eq.trans (congrArg Int32.toInt (Eq.trans (Eq.trans (Eq.trans (rd_k (by decide)) (rd_k (by decide))) (rd_k (by decide))) (rd_k (by decide)))) rfl
                                    have e555 : (((uI (uI (uI (uI M 97 16 (M 97 15)) 97 17 0) 97 17 (((10 * ((uI (uI M 97 16 (M 97 15)) 97 17 0) 97 17)) + 0) - 48)) 97 16 (((uI (uI (uI M 97 16 (M 97 15)) 97 17 0) 97 17 (((10 * ((uI (uI M 97 16 (M 97 15)) 97 17 0) 97 17)) + 0) - 48)) 97 16) + 1)) 97 16) : Int32).toInt = ((M 97 15).toInt + 1) := Eq.trans (congrArg Int32.toInt rd_eq) e552
                                    exact ih.2.2.2 _ _ hB550 (Eq.trans (Eq.trans (Eq.trans (Eq.trans (rd_k (by decide)) (rd_k (by decide))) (rd_k (by decide))) (rd_k (by decide))) hk_97_12) (Eq.trans (Eq.trans (Eq.trans (Eq.trans (rd_k (by decide)) (rd_k (by decide))) (rd_k (by decide))) (rd_k (by decide))) hk_97_27) f553 (by have q0 : (((uI (uI (uI (uI M 97 16 (M 97 15)) 97 17 0) 97 17 (((10 * ((uI (uI M 97 16 (M 97 15)) 97 17 0) 97 17)) + 0) - 48)) 97 16 (((uI (uI (uI M 97 16 (M 97 15)) 97 17 0) 97 17 (((10 * ((uI (uI M 97 16 (M 97 15)) 97 17 0) 97 17)) + 0) - 48)) 97 16) + 1)) 97 15) : Int32).toInt = (M 97 15).toInt := e554; have q1 : (((uI (uI (uI (uI M 97 16 (M 97 15)) 97 17 0) 97 17 (((10 * ((uI (uI M 97 16 (M 97 15)) 97 17 0) 97 17)) + 0) - 48)) 97 16 (((uI (uI (uI M 97 16 (M 97 15)) 97 17 0) 97 17 (((10 * ((uI (uI M 97 16 (M 97 15)) 97 17 0) 97 17)) + 0) - 48)) 97 16) + 1)) 97 15) : Int32).toInt = (M 97 15).toInt := e554; have q2 : (((uI (uI (uI (uI M 97 16 (M 97 15)) 97 17 0) 97 17 (((10 * ((uI (uI M 97 16 (M 97 15)) 97 17 0) 97 17)) + 0) - 48)) 97 16 (((uI (uI (uI M 97 16 (M 97 15)) 97 17 0) 97 17 (((10 * ((uI (uI M 97 16 (M 97 15)) 97 17 0) 97 17)) + 0) - 48)) 97 16) + 1)) 97 16) : Int32).toInt = ((M 97 15).toInt + 1) := e555; have q3 : (((uI (uI (uI (uI M 97 16 (M 97 15)) 97 17 0) 97 17 (((10 * ((uI (uI M 97 16 (M 97 15)) 97 17 0) 97 17)) + 0) - 48)) 97 16 (((uI (uI (uI M 97 16 (M 97 15)) 97 17 0) 97 17 (((10 * ((uI (uI M 97 16 (M 97 15)) 97 17 0) 97 17)) + 0) - 48)) 97 16) + 1)) 97 16) : Int32).toInt = ((M 97 15).toInt + 1) := e555; omega) (by have q0 : (((uI (uI (uI (uI M 97 16 (M 97 15)) 97 17 0) 97 17 (((10 * ((uI (uI M 97 16 (M 97 15)) 97 17 0) 97 17)) + 0) - 48)) 97 16 (((uI (uI (uI M 97 16 (M 97 15)) 97 17 0) 97 17 (((10 * ((uI (uI M 97 16 (M 97 15)) 97 17 0) 97 17)) + 0) - 48)) 97 16) + 1)) 97 16) : Int32).toInt = ((M 97 15).toInt + 1) := e555; omega)
                                  · skip
                                    have d556 : (((M 97 15).toInt) : Int) < ((M 97 9).toInt) := ci_nle e480 e479 c546
                                    refine ⟨vp_of (a := (M 97 15).toInt) e479 (by omega) (by omega), ?_⟩
                                    have hB557 : Bd (uI (uI (uI M 97 16 (M 97 15)) 97 17 0) 97 17 (((10 * ((uI (uI M 97 16 (M 97 15)) 97 17 0) 97 17)) + (((uI (uI M 97 16 (M 97 15)) 97 17 0) 101 (Int32.toNatClampNeg ((uI (uI M 97 16 (M 97 15)) 97 17 0) 97 16))) &&& 255)) - 48)) := Bd.o0 hB451 io9_112_97_12 (by decide) bd9_12_17
                                    have f558 : Fr pT I (uI (uI (uI M 97 16 (M 97 15)) 97 17 0) 97 17 (((10 * ((uI (uI M 97 16 (M 97 15)) 97 17 0) 97 17)) + (((uI (uI M 97 16 (M 97 15)) 97 17 0) 101 (Int32.toNatClampNeg ((uI (uI M 97 16 (M 97 15)) 97 17 0) 97 16))) &&& 255)) - 48)) := Fr.o f452 (by decide) (by decide)
                                    have e560 : (((uI (uI (uI M 97 16 (M 97 15)) 97 17 0) 97 17 (((10 * ((uI (uI M 97 16 (M 97 15)) 97 17 0) 97 17)) + (((uI (uI M 97 16 (M 97 15)) 97 17 0) 101 (Int32.toNatClampNeg ((uI (uI M 97 16 (M 97 15)) 97 17 0) 97 16))) &&& 255)) - 48)) 97 16) : Int32).toInt = (M 97 15).toInt := Eq.trans (congrArg Int32.toInt (Eq.trans (Eq.trans (rd_k (by decide)) (rd_k (by decide))) rd_eq)) rfl
                                    have e561 : ((((uI (uI (uI M 97 16 (M 97 15)) 97 17 0) 97 17 (((10 * ((uI (uI M 97 16 (M 97 15)) 97 17 0) 97 17)) + (((uI (uI M 97 16 (M 97 15)) 97 17 0) 101 (Int32.toNatClampNeg ((uI (uI M 97 16 (M 97 15)) 97 17 0) 97 16))) &&& 255)) - 48)) 97 16) + 1) : Int32).toInt = ((M 97 15).toInt) + (1) := ti_add e560 rfl (by omega)
                                    have hB559 : Bd (uI (uI (uI (uI M 97 16 (M 97 15)) 97 17 0) 97 17 (((10 * ((uI (uI M 97 16 (M 97 15)) 97 17 0) 97 17)) + (((uI (uI M 97 16 (M 97 15)) 97 17 0) 101 (Int32.toNatClampNeg ((uI (uI M 97 16 (M 97 15)) 97 17 0) 97 16))) &&& 255)) - 48)) 97 16 (((uI (uI (uI M 97 16 (M 97 15)) 97 17 0) 97 17 (((10 * ((uI (uI M 97 16 (M 97 15)) 97 17 0) 97 17)) + (((uI (uI M 97 16 (M 97 15)) 97 17 0) 101 (Int32.toNatClampNeg ((uI (uI M 97 16 (M 97 15)) 97 17 0) 97 16))) &&& 255)) - 48)) 97 16) + 1)) := Bd.o1 hB557 io9_112_97_12 (by decide) bd9_12_16 (show ((((uI (uI (uI M 97 16 (M 97 15)) 97 17 0) 97 17 (((10 * ((uI (uI M 97 16 (M 97 15)) 97 17 0) 97 17)) + (((uI (uI M 97 16 (M 97 15)) 97 17 0) 101 (Int32.toNatClampNeg ((uI (uI M 97 16 (M 97 15)) 97 17 0) 97 16))) &&& 255)) - 48)) 97 16) + 1) : Int32).toInt = ((M 97 15).toInt + 1) from e561) (by omega)
                                    have f562 : Fr pT I (uI (uI (uI (uI M 97 16 (M 97 15)) 97 17 0) 97 17 (((10 * ((uI (uI M 97 16 (M 97 15)) 97 17 0) 97 17)) + (((uI (uI M 97 16 (M 97 15)) 97 17 0) 101 (Int32.toNatClampNeg ((uI (uI M 97 16 (M 97 15)) 97 17 0) 97 16))) &&& 255)) - 48)) 97 16 (((uI (uI (uI M 97 16 (M 97 15)) 97 17 0) 97 17 (((10 * ((uI (uI M 97 16 (M 97 15)) 97 17 0) 97 17)) + (((uI (uI M 97 16 (M 97 15)) 97 17 0) 101 (Int32.toNatClampNeg ((uI (uI M 97 16 (M 97 15)) 97 17 0) 97 16))) &&& 255)) - 48)) 97 16) + 1)) := Fr.o f558 (by decide) (by decide)
                                    have e563 : (((uI (uI (uI (uI M 97 16 (M 97 15)) 97 17 0) 97 17 (((10 * ((uI (uI M 97 16 (M 97 15)) 97 17 0) 97 17)) + (((uI (uI M 97 16 (M 97 15)) 97 17 0) 101 (Int32.toNatClampNeg ((uI (uI M 97 16 (M 97 15)) 97 17 0) 97 16))) &&& 255)) - 48)) 97 16 (((uI (uI (uI M 97 16 (M 97 15)) 97 17 0) 97 17 (((10 * ((uI (uI M 97 16 (M 97 15)) 97 17 0) 97 17)) + (((uI (uI M 97 16 (M 97 15)) 97 17 0) 101 (Int32.toNatClampNeg ((uI (uI M 97 16 (M 97 15)) 97 17 0) 97 16))) &&& 255)) - 48)) 97 16) + 1)) 97 15) : Int32).toInt = (M 97 15).toInt := Eq.trans (congrArg Int32.toInt (Eq.trans (Eq.trans (Eq.trans (rd_k (by decide)) (rd_k (by decide))) (rd_k (by decide))) (rd_k (by decide)))) rfl
                                    have e564 : (((uI (uI (uI (uI M 97 16 (M 97 15)) 97 17 0) 97 17 (((10 * ((uI (uI M 97 16 (M 97 15)) 97 17 0) 97 17)) + (((uI (uI M 97 16 (M 97 15)) 97 17 0) 101 (Int32.toNatClampNeg ((uI (uI M 97 16 (M 97 15)) 97 17 0) 97 16))) &&& 255)) - 48)) 97 16 (((uI (uI (uI M 97 16 (M 97 15)) 97 17 0) 97 17 (((10 * ((uI (uI M 97 16 (M 97 15)) 97 17 0) 97 17)) + (((uI (uI M 97 16 (M 97 15)) 97 17 0) 101 (Int32.toNatClampNeg ((uI (uI M 97 16 (M 97 15)) 97 17 0) 97 16))) &&& 255)) - 48)) 97 16) + 1)) 97 16) : Int32).toInt = ((M 97 15).toInt + 1) := Eq.trans (congrArg Int32.toInt rd_eq) e561
                                    exact ih.2.2.2 _ _ hB559 (Eq.trans (Eq.trans (Eq.trans (Eq.trans (rd_k (by decide)) (rd_k (by decide))) (rd_k (by decide))) (rd_k (by decide))) hk_97_12) (Eq.trans (Eq.trans (Eq.trans (Eq.trans (rd_k (by decide)) (rd_k (by decide))) (rd_k (by decide))) (rd_k (by decide))) hk_97_27) f562 (by have q0 : (((uI (uI (uI (uI M 97 16 (M 97 15)) 97 17 0) 97 17 (((10 * ((uI (uI M 97 16 (M 97 15)) 97 17 0) 97 17)) + (((uI (uI M 97 16 (M 97 15)) 97 17 0) 101 (Int32.toNatClampNeg ((uI (uI M 97 16 (M 97 15)) 97 17 0) 97 16))) &&& 255)) - 48)) 97 16 (((uI (uI (uI M 97 16 (M 97 15)) 97 17 0) 97 17 (((10 * ((uI (uI M 97 16 (M 97 15)) 97 17 0) 97 17)) + (((uI (uI M 97 16 (M 97 15)) 97 17 0) 101 (Int32.toNatClampNeg ((uI (uI M 97 16 (M 97 15)) 97 17 0) 97 16))) &&& 255)) - 48)) 97 16) + 1)) 97 15) : Int32).toInt = (M 97 15).toInt := e563; have q1 : (((uI (uI (uI (uI M 97 16 (M 97 15)) 97 17 0) 97 17 (((10 * ((uI (uI M 97 16 (M 97 15)) 97 17 0) 97 17)) + (((uI (uI M 97 16 (M 97 15)) 97 17 0) 101 (Int32.toNatClampNeg ((uI (uI M 97 16 (M 97 15)) 97 17 0) 97 16))) &&& 255)) - 48)) 97 16 (((uI (uI (uI M 97 16 (M 97 15)) 97 17 0) 97 17 (((10 * ((uI (uI M 97 16 (M 97 15)) 97 17 0) 97 17)) + (((uI (uI M 97 16 (M 97 15)) 97 17 0) 101 (Int32.toNatClampNeg ((uI (uI M 97 16 (M 97 15)) 97 17 0) 97 16))) &&& 255)) - 48)) 97 16) + 1)) 97 15) : Int32).toInt = (M 97 15).toInt := e563; have q2 : (((uI (uI (uI (uI M 97 16 (M 97 15)) 97 17 0) 97 17 (((10 * ((uI (uI M 97 16 (M 97 15)) 97 17 0) 97 17)) + (((uI (uI M 97 16 (M 97 15)) 97 17 0) 101 (Int32.toNatClampNeg ((uI (uI M 97 16 (M 97 15)) 97 17 0) 97 16))) &&& 255)) - 48)) 97 16 (((uI (uI (uI M 97 16 (M 97 15)) 97 17 0) 97 17 (((10 * ((uI (uI M 97 16 (M 97 15)) 97 17 0) 97 17)) + (((uI (uI M 97 16 (M 97 15)) 97 17 0) 101 (Int32.toNatClampNeg ((uI (uI M 97 16 (M 97 15)) 97 17 0) 97 16))) &&& 255)) - 48)) 97 16) + 1)) 97 16) : Int32).toInt = ((M 97 15).toInt + 1) := e564; have q3 : (((uI (uI (uI (uI M 97 16 (M 97 15)) 97 17 0) 97 17 (((10 * ((uI (uI M 97 16 (M 97 15)) 97 17 0) 97 17)) + (((uI (uI M 97 16 (M 97 15)) 97 17 0) 101 (Int32.toNatClampNeg ((uI (uI M 97 16 (M 97 15)) 97 17 0) 97 16))) &&& 255)) - 48)) 97 16 (((uI (uI (uI M 97 16 (M 97 15)) 97 17 0) 97 17 (((10 * ((uI (uI M 97 16 (M 97 15)) 97 17 0) 97 17)) + (((uI (uI M 97 16 (M 97 15)) 97 17 0) 101 (Int32.toNatClampNeg ((uI (uI M 97 16 (M 97 15)) 97 17 0) 97 16))) &&& 255)) - 48)) 97 16) + 1)) 97 16) : Int32).toInt = ((M 97 15).toInt + 1) := e564; omega) (by have q0 : (((uI (uI (uI (uI M 97 16 (M 97 15)) 97 17 0) 97 17 (((10 * ((uI (uI M 97 16 (M 97 15)) 97 17 0) 97 17)) + (((uI (uI M 97 16 (M 97 15)) 97 17 0) 101 (Int32.toNatClampNeg ((uI (uI M 97 16 (M 97 15)) 97 17 0) 97 16))) &&& 255)) - 48)) 97 16 (((uI (uI (uI M 97 16 (M 97 15)) 97 17 0) 97 17 (((10 * ((uI (uI M 97 16 (M 97 15)) 97 17 0) 97 17)) + (((uI (uI M 97 16 (M 97 15)) 97 17 0) 101 (Int32.toNatClampNeg ((uI (uI M 97 16 (M 97 15)) 97 17 0) 97 16))) &&& 255)) - 48)) 97 16) + 1)) 97 16) : Int32).toInt = ((M 97 15).toInt + 1) := e564; omega)
                · exact absurd c324 (by decide)
              · skip
                have d565 : (((((M 101 (Int32.toNatClampNeg (M 97 15))) &&& 255) : Int32).toInt) : Int) ≤ (122) := ci_nlt rfl e319 c321
                refine ⟨Or.inr rfl, ?_⟩
                intro o566
                refine ⟨fun c567 => ?_, fun c567 => ?_⟩
                · exact absurd c567 (by decide)
                · skip
                  have hB568 : Bd (uI (uI M 97 16 (M 97 15)) 97 14 1) := Bd.o1 hB41 io9_112_97_12 (by decide) bd9_12_14 (show (1 : Int32).toInt = 1 from rfl) (by omega)
                  have f569 : Fr pT I (uI (uI M 97 16 (M 97 15)) 97 14 1) := Fr.o f42 (by decide) (by decide)
                  refine sg_X12_advance_109 hc _ _ _ ?_
                  refine w_X12_look2 ?_
                  refine ⟨fun c570 => ?_, fun c570 => ?_⟩
                  · skip
                    have e571 : (((uI (uI M 97 16 (M 97 15)) 97 14 1) 97 16) : Int32).toInt = (M 97 15).toInt := Eq.trans (congrArg Int32.toInt (Eq.trans (rd_k (by decide)) rd_eq)) rfl
                    have e572 : (((uI (uI M 97 16 (M 97 15)) 97 14 1) 97 9) : Int32).toInt = (M 97 9).toInt := Eq.trans (congrArg Int32.toInt (Eq.trans (rd_k (by decide)) (rd_k (by decide)))) rfl
                    have d573 : (((M 97 9).toInt) : Int) ≤ ((M 97 15).toInt) := ci_le e572 e571 c570
                    refine w_X12_isLetter ?_
                    refine ⟨fun c574 => ?_, fun c574 => ?_⟩
                    · skip
                      refine ⟨Or.inl rfl, ?_⟩
                      intro o575
                      refine ⟨fun c576 => ?_, fun c576 => ?_⟩
                      · skip
                        have hB577 : Bd (uI (uI (uI M 97 16 (M 97 15)) 97 14 1) 97 18 (((uI (uI M 97 16 (M 97 15)) 97 14 1) 97 16) - ((uI (uI M 97 16 (M 97 15)) 97 14 1) 97 15))) := Bd.o0 hB568 io9_112_97_12 (by decide) bd9_12_18
                        have f578 : Fr pT I (uI (uI (uI M 97 16 (M 97 15)) 97 14 1) 97 18 (((uI (uI M 97 16 (M 97 15)) 97 14 1) 97 16) - ((uI (uI M 97 16 (M 97 15)) 97 14 1) 97 15))) := Fr.o f569 (by decide) (by decide)
                        have b579 := Bd.o hB0 io9_112_97_12 bd9_12_14
                        have b580 := Bd.o hB0 io9_112_97_12 bd9_12_16
                        have e581 : (((uI (uI (uI M 97 16 (M 97 15)) 97 14 1) 97 18 (((uI (uI M 97 16 (M 97 15)) 97 14 1) 97 16) - ((uI (uI M 97 16 (M 97 15)) 97 14 1) 97 15))) 97 14) : Int32).toInt = 1 := Eq.trans (congrArg Int32.toInt (Eq.trans (rd_k (by decide)) rd_eq)) rfl
                        have e582 : (((uI (uI (uI M 97 16 (M 97 15)) 97 14 1) 97 18 (((uI (uI M 97 16 (M 97 15)) 97 14 1) 97 16) - ((uI (uI M 97 16 (M 97 15)) 97 14 1) 97 15))) 97 16) : Int32).toInt = (M 97 15).toInt := Eq.trans (congrArg Int32.toInt (Eq.trans (Eq.trans (rd_k (by decide)) (rd_k (by decide))) rd_eq)) rfl
                        exact hQ _ _ _ _ hB577 ⟨(Eq.trans (Eq.trans (Eq.trans (rd_k (by decide)) (rd_k (by decide))) (rd_k (by decide))) hk_97_12), (Eq.trans (Eq.trans (Eq.trans (rd_k (by decide)) (rd_k (by decide))) (rd_k (by decide))) hk_97_27), f578, (by have q3 : (((uI (uI (uI M 97 16 (M 97 15)) 97 14 1) 97 18 (((uI (uI M 97 16 (M 97 15)) 97 14 1) 97 16) - ((uI (uI M 97 16 (M 97 15)) 97 14 1) 97 15))) 97 14) : Int32).toInt = 1 := e581; have q4 : (((uI (uI (uI M 97 16 (M 97 15)) 97 14 1) 97 18 (((uI (uI M 97 16 (M 97 15)) 97 14 1) 97 16) - ((uI (uI M 97 16 (M 97 15)) 97 14 1) 97 15))) 97 16) : Int32).toInt = (M 97 15).toInt := e582; omega)⟩
                      · exact absurd c576 (by decide)
                    · exact absurd c574 (by decide)
                  · skip
                    have e583 : (((uI (uI M 97 16 (M 97 15)) 97 14 1) 97 16) : Int32).toInt = (M 97 15).toInt := Eq.trans (congrArg Int32.toInt (Eq.trans (rd_k (by decide)) rd_eq)) rfl
                    have e584 : (((uI (uI M 97 16 (M 97 15)) 97 14 1) 97 9) : Int32).toInt = (M 97 9).toInt := Eq.trans (congrArg Int32.toInt (Eq.trans (rd_k (by decide)) (rd_k (by decide)))) rfl
                    have d585 : (((M 97 15).toInt) : Int) < ((M 97 9).toInt) := ci_nle e584 e583 c570
                    refine ⟨vp_of (a := (M 97 15).toInt) e583 (by omega) (by omega), ?_⟩
                    refine w_X12_isLetter ?_
                    refine ⟨fun c586 => ?_, fun c586 => ?_⟩
                    · skip
                      have e587 : ((((uI (uI M 97 16 (M 97 15)) 97 14 1) 101 (Int32.toNatClampNeg ((uI (uI M 97 16 (M 97 15)) 97 14 1) 97 16))) &&& 255) : Int32).toInt = (((M 101 (Int32.toNatClampNeg (M 97 15))) &&& 255) : Int32).toInt := congrArg (fun z => (z &&& 255 : Int32).toInt) (Eq.trans (Eq.trans (rd_ne (by first | decide | omega)) (rd_ne (by first | decide | omega))) (congrArg (fun z => M 101 (Int32.toNatClampNeg z)) (Eq.trans (rd_k (by decide)) rd_eq)))
                      have d588 : (((((M 101 (Int32.toNatClampNeg (M 97 15))) &&& 255) : Int32).toInt) : Int) < (97) := ci_lt e587 rfl c586
                      refine ⟨Or.inl rfl, ?_⟩
                      intro o589
                      refine ⟨fun c590 => ?_, fun c590 => ?_⟩
                      · skip
                        have hB591 : Bd (uI (uI (uI M 97 16 (M 97 15)) 97 14 1) 97 18 (((uI (uI M 97 16 (M 97 15)) 97 14 1) 97 16) - ((uI (uI M 97 16 (M 97 15)) 97 14 1) 97 15))) := Bd.o0 hB568 io9_112_97_12 (by decide) bd9_12_18
                        have f592 : Fr pT I (uI (uI (uI M 97 16 (M 97 15)) 97 14 1) 97 18 (((uI (uI M 97 16 (M 97 15)) 97 14 1) 97 16) - ((uI (uI M 97 16 (M 97 15)) 97 14 1) 97 15))) := Fr.o f569 (by decide) (by decide)
                        have b593 := Bd.o hB0 io9_112_97_12 bd9_12_14
                        have b594 := Bd.o hB0 io9_112_97_12 bd9_12_16
                        have e595 : (((uI (uI (uI M 97 16 (M 97 15)) 97 14 1) 97 18 (((uI (uI M 97 16 (M 97 15)) 97 14 1) 97 16) - ((uI (uI M 97 16 (M 97 15)) 97 14 1) 97 15))) 97 14) : Int32).toInt = 1 := Eq.trans (congrArg Int32.toInt (Eq.trans (rd_k (by decide)) rd_eq)) rfl
                        have e596 : (((uI (uI (uI M 97 16 (M 97 15)) 97 14 1) 97 18 (((uI (uI M 97 16 (M 97 15)) 97 14 1) 97 16) - ((uI (uI M 97 16 (M 97 15)) 97 14 1) 97 15))) 97 16) : Int32).toInt = (M 97 15).toInt := Eq.trans (congrArg Int32.toInt (Eq.trans (Eq.trans (rd_k (by decide)) (rd_k (by decide))) rd_eq)) rfl
                        exact hQ _ _ _ _ hB591 ⟨(Eq.trans (Eq.trans (Eq.trans (rd_k (by decide)) (rd_k (by decide))) (rd_k (by decide))) hk_97_12), (Eq.trans (Eq.trans (Eq.trans (rd_k (by decide)) (rd_k (by decide))) (rd_k (by decide))) hk_97_27), f592, (by have q3 : (((uI (uI (uI M 97 16 (M 97 15)) 97 14 1) 97 18 (((uI (uI M 97 16 (M 97 15)) 97 14 1) 97 16) - ((uI (uI M 97 16 (M 97 15)) 97 14 1) 97 15))) 97 14) : Int32).toInt = 1 := e595; have q4 : (((uI (uI (uI M 97 16 (M 97 15)) 97 14 1) 97 18 (((uI (uI M 97 16 (M 97 15)) 97 14 1) 97 16) - ((uI (uI M 97 16 (M 97 15)) 97 14 1) 97 15))) 97 16) : Int32).toInt = (M 97 15).toInt := e596; omega)⟩
                      · exact absurd c590 (by decide)
                    · skip
                      have e597 : ((((uI (uI M 97 16 (M 97 15)) 97 14 1) 101 (Int32.toNatClampNeg ((uI (uI M 97 16 (M 97 15)) 97 14 1) 97 16))) &&& 255) : Int32).toInt = (((M 101 (Int32.toNatClampNeg (M 97 15))) &&& 255) : Int32).toInt := congrArg (fun z => (z &&& 255 : Int32).toInt) (Eq.trans (Eq.trans (rd_ne (by first | decide | omega)) (rd_ne (by first | decide | omega))) (congrArg (fun z => M 101 (Int32.toNatClampNeg z)) (Eq.trans (rd_k (by decide)) rd_eq)))
                      have d598 : ((97) : Int) ≤ ((((M 101 (Int32.toNatClampNeg (M 97 15))) &&& 255) : Int32).toInt) := ci_nlt e597 rfl c586
                      refine ⟨fun c599 => ?_, fun c599 => ?_⟩
                      · skip
                        have d600 : ((122) : Int) < ((((M 101 (Int32.toNatClampNeg (M 97 15))) &&& 255) : Int32).toInt) := ci_lt rfl e597 c599
                        refine ⟨Or.inl rfl, ?_⟩
                        intro o601
                        refine ⟨fun c602 => ?_, fun c602 => ?_⟩
                        · skip
                          have hB603 : Bd (uI (uI (uI M 97 16 (M 97 15)) 97 14 1) 97 18 (((uI (uI M 97 16 (M 97 15)) 97 14 1) 97 16) - ((uI (uI M 97 16 (M 97 15)) 97 14 1) 97 15))) := Bd.o0 hB568 io9_112_97_12 (by decide) bd9_12_18
                          have f604 : Fr pT I (uI (uI (uI M 97 16 (M 97 15)) 97 14 1) 97 18 (((uI (uI M 97 16 (M 97 15)) 97 14 1) 97 16) - ((uI (uI M 97 16 (M 97 15)) 97 14 1) 97 15))) := Fr.o f569 (by decide) (by decide)
                          have b605 := Bd.o hB0 io9_112_97_12 bd9_12_14
                          have b606 := Bd.o hB0 io9_112_97_12 bd9_12_16
                          have e607 : (((uI (uI (uI M 97 16 (M 97 15)) 97 14 1) 97 18 (((uI (uI M 97 16 (M 97 15)) 97 14 1) 97 16) - ((uI (uI M 97 16 (M 97 15)) 97 14 1) 97 15))) 97 14) : Int32).toInt = 1 := Eq.trans (congrArg Int32.toInt (Eq.trans (rd_k (by decide)) rd_eq)) rfl
                          have e608 : (((uI (uI (uI M 97 16 (M 97 15)) 97 14 1) 97 18 (((uI (uI M 97 16 (M 97 15)) 97 14 1) 97 16) - ((uI (uI M 97 16 (M 97 15)) 97 14 1) 97 15))) 97 16) : Int32).toInt = (M 97 15).toInt := Eq.trans (congrArg Int32.toInt (Eq.trans (Eq.trans (rd_k (by decide)) (rd_k (by decide))) rd_eq)) rfl
                          exact hQ _ _ _ _ hB603 ⟨(Eq.trans (Eq.trans (Eq.trans (rd_k (by decide)) (rd_k (by decide))) (rd_k (by decide))) hk_97_12), (Eq.trans (Eq.trans (Eq.trans (rd_k (by decide)) (rd_k (by decide))) (rd_k (by decide))) hk_97_27), f604, (by have q3 : (((uI (uI (uI M 97 16 (M 97 15)) 97 14 1) 97 18 (((uI (uI M 97 16 (M 97 15)) 97 14 1) 97 16) - ((uI (uI M 97 16 (M 97 15)) 97 14 1) 97 15))) 97 14) : Int32).toInt = 1 := e607; have q4 : (((uI (uI (uI M 97 16 (M 97 15)) 97 14 1) 97 18 (((uI (uI M 97 16 (M 97 15)) 97 14 1) 97 16) - ((uI (uI M 97 16 (M 97 15)) 97 14 1) 97 15))) 97 16) : Int32).toInt = (M 97 15).toInt := e608; omega)⟩
                        · exact absurd c602 (by decide)
                      · skip
                        have d609 : (((((M 101 (Int32.toNatClampNeg (M 97 15))) &&& 255) : Int32).toInt) : Int) ≤ (122) := ci_nlt rfl e597 c599
                        refine ⟨Or.inr rfl, ?_⟩
                        intro o610
                        refine ⟨fun c611 => ?_, fun c611 => ?_⟩
                        · exact absurd c611 (by decide)
                        · skip
                          refine ⟨fun c612 => ?_, fun c612 => ?_⟩
                          · skip
                            have e613 : (((uI (uI M 97 16 (M 97 15)) 97 14 1) 97 15) : Int32).toInt = (M 97 15).toInt := Eq.trans (congrArg Int32.toInt (Eq.trans (rd_k (by decide)) (rd_k (by decide)))) rfl
                            have e614 : ((((uI (uI M 97 16 (M 97 15)) 97 14 1) 97 16) - ((uI (uI M 97 16 (M 97 15)) 97 14 1) 97 15)) : Int32).toInt = ((M 97 15).toInt) - ((M 97 15).toInt) := ti_sub e583 e613 (by omega)
                            have d615 : ((8) : Int) ≤ (((M 97 15).toInt - (M 97 15).toInt)) := ci_le rfl e614 c612
                            have e617 : ((((uI (uI M 97 16 (M 97 15)) 97 14 1) 97 16) + 1) : Int32).toInt = ((M 97 15).toInt) + (1) := ti_add e583 rfl (by omega)
                            have hB616 : Bd (uI (uI (uI M 97 16 (M 97 15)) 97 14 1) 97 16 (((uI (uI M 97 16 (M 97 15)) 97 14 1) 97 16) + 1)) := Bd.o1 hB568 io9_112_97_12 (by decide) bd9_12_16 (show ((((uI (uI M 97 16 (M 97 15)) 97 14 1) 97 16) + 1) : Int32).toInt = ((M 97 15).toInt + 1) from e617) (by omega)
                            have f618 : Fr pT I (uI (uI (uI M 97 16 (M 97 15)) 97 14 1) 97 16 (((uI (uI M 97 16 (M 97 15)) 97 14 1) 97 16) + 1)) := Fr.o f569 (by decide) (by decide)
                            have e619 : (((uI (uI (uI M 97 16 (M 97 15)) 97 14 1) 97 16 (((uI (uI M 97 16 (M 97 15)) 97 14 1) 97 16) + 1)) 97 15) : Int32).toInt = (M 97 15).toInt := Eq.trans (congrArg Int32.toInt (Eq.trans (Eq.trans (rd_k (by decide)) (rd_k (by decide))) (rd_k (by decide)))) rfl
                            have e620 : (((uI (uI (uI M 97 16 (M 97 15)) 97 14 1) 97 16 (((uI (uI M 97 16 (M 97 15)) 97 14 1) 97 16) + 1)) 97 16) : Int32).toInt = ((M 97 15).toInt + 1) := Eq.trans (congrArg Int32.toInt rd_eq) e617
                            exact ih.2.2.1 _ _ hB616 (Eq.trans (Eq.trans (Eq.trans (rd_k (by decide)) (rd_k (by decide))) (rd_k (by decide))) hk_97_12) (Eq.trans (Eq.trans (Eq.trans (rd_k (by decide)) (rd_k (by decide))) (rd_k (by decide))) hk_97_27) f618 (by have q0 : (((uI (uI (uI M 97 16 (M 97 15)) 97 14 1) 97 16 (((uI (uI M 97 16 (M 97 15)) 97 14 1) 97 16) + 1)) 97 15) : Int32).toInt = (M 97 15).toInt := e619; have q1 : (((uI (uI (uI M 97 16 (M 97 15)) 97 14 1) 97 16 (((uI (uI M 97 16 (M 97 15)) 97 14 1) 97 16) + 1)) 97 15) : Int32).toInt = (M 97 15).toInt := e619; have q2 : (((uI (uI (uI M 97 16 (M 97 15)) 97 14 1) 97 16 (((uI (uI M 97 16 (M 97 15)) 97 14 1) 97 16) + 1)) 97 16) : Int32).toInt = ((M 97 15).toInt + 1) := e620; have q3 : (((uI (uI (uI M 97 16 (M 97 15)) 97 14 1) 97 16 (((uI (uI M 97 16 (M 97 15)) 97 14 1) 97 16) + 1)) 97 15) : Int32).toInt = (M 97 15).toInt := e619; have q4 : (((uI (uI (uI M 97 16 (M 97 15)) 97 14 1) 97 16 (((uI (uI M 97 16 (M 97 15)) 97 14 1) 97 16) + 1)) 97 16) : Int32).toInt = ((M 97 15).toInt + 1) := e620; have q5 : (((uI (uI (uI M 97 16 (M 97 15)) 97 14 1) 97 16 (((uI (uI M 97 16 (M 97 15)) 97 14 1) 97 16) + 1)) 97 16) : Int32).toInt = ((M 97 15).toInt + 1) := e620; omega) (by have q0 : (((uI (uI (uI M 97 16 (M 97 15)) 97 14 1) 97 16 (((uI (uI M 97 16 (M 97 15)) 97 14 1) 97 16) + 1)) 97 16) : Int32).toInt = ((M 97 15).toInt + 1) := e620; omega)
                          · skip
                            have e621 : (((uI (uI M 97 16 (M 97 15)) 97 14 1) 97 15) : Int32).toInt = (M 97 15).toInt := Eq.trans (congrArg Int32.toInt (Eq.trans (rd_k (by decide)) (rd_k (by decide)))) rfl
                            have e622 : ((((uI (uI M 97 16 (M 97 15)) 97 14 1) 97 16) - ((uI (uI M 97 16 (M 97 15)) 97 14 1) 97 15)) : Int32).toInt = ((M 97 15).toInt) - ((M 97 15).toInt) := ti_sub e583 e621 (by omega)
                            have d623 : ((((M 97 15).toInt - (M 97 15).toInt)) : Int) < (8) := ci_nle rfl e622 c612
                            refine w_X12_look2 ?_
                            refine ⟨fun c624 => ?_, fun c624 => ?_⟩
                            · skip
                              have d625 : (((M 97 9).toInt) : Int) ≤ ((M 97 15).toInt) := ci_le e584 e583 c624
                              have e627 : ((((uI (uI M 97 16 (M 97 15)) 97 14 1) 97 16) + 1) : Int32).toInt = ((M 97 15).toInt) + (1) := ti_add e583 rfl (by omega)
                              have hB626 : Bd (uI (uI (uI M 97 16 (M 97 15)) 97 14 1) 97 16 (((uI (uI M 97 16 (M 97 15)) 97 14 1) 97 16) + 1)) := Bd.o1 hB568 io9_112_97_12 (by decide) bd9_12_16 (show ((((uI (uI M 97 16 (M 97 15)) 97 14 1) 97 16) + 1) : Int32).toInt = ((M 97 15).toInt + 1) from e627) (by omega)
                              have f628 : Fr pT I (uI (uI (uI M 97 16 (M 97 15)) 97 14 1) 97 16 (((uI (uI M 97 16 (M 97 15)) 97 14 1) 97 16) + 1)) := Fr.o f569 (by decide) (by decide)
                              have e629 : (((uI (uI (uI M 97 16 (M 97 15)) 97 14 1) 97 16 (((uI (uI M 97 16 (M 97 15)) 97 14 1) 97 16) + 1)) 97 15) : Int32).toInt = (M 97 15).toInt := Eq.trans (congrArg Int32.toInt (Eq.trans (Eq.trans (rd_k (by decide)) (rd_k (by decide))) (rd_k (by decide)))) rfl
                              have e630 : (((uI (uI (uI M 97 16 (M 97 15)) 97 14 1) 97 16 (((uI (uI M 97 16 (M 97 15)) 97 14 1) 97 16) + 1)) 97 16) : Int32).toInt = ((M 97 15).toInt + 1) := Eq.trans (congrArg Int32.toInt rd_eq) e627
                              exact ih.2.2.1 _ _ hB626 (Eq.trans (Eq.trans (Eq.trans (rd_k (by decide)) (rd_k (by decide))) (rd_k (by decide))) hk_97_12) (Eq.trans (Eq.trans (Eq.trans (rd_k (by decide)) (rd_k (by decide))) (rd_k (by decide))) hk_97_27) f628 (by have q0 : (((uI (uI (uI M 97 16 (M 97 15)) 97 14 1) 97 16 (((uI (uI M 97 16 (M 97 15)) 97 14 1) 97 16) + 1)) 97 15) : Int32).toInt = (M 97 15).toInt := e629; have q1 : (((uI (uI (uI M 97 16 (M 97 15)) 97 14 1) 97 16 (((uI (uI M 97 16 (M 97 15)) 97 14 1) 97 16) + 1)) 97 15) : Int32).toInt = (M 97 15).toInt := e629; have q2 : (((uI (uI (uI M 97 16 (M 97 15)) 97 14 1) 97 16 (((uI (uI M 97 16 (M 97 15)) 97 14 1) 97 16) + 1)) 97 16) : Int32).toInt = ((M 97 15).toInt + 1) := e630; have q3 : (((uI (uI (uI M 97 16 (M 97 15)) 97 14 1) 97 16 (((uI (uI M 97 16 (M 97 15)) 97 14 1) 97 16) + 1)) 97 15) : Int32).toInt = (M 97 15).toInt := e629; have q4 : (((uI (uI (uI M 97 16 (M 97 15)) 97 14 1) 97 16 (((uI (uI M 97 16 (M 97 15)) 97 14 1) 97 16) + 1)) 97 16) : Int32).toInt = ((M 97 15).toInt + 1) := e630; have q5 : (((uI (uI (uI M 97 16 (M 97 15)) 97 14 1) 97 16 (((uI (uI M 97 16 (M 97 15)) 97 14 1) 97 16) + 1)) 97 16) : Int32).toInt = ((M 97 15).toInt + 1) := e630; omega) (by have q0 : (((uI (uI (uI M 97 16 (M 97 15)) 97 14 1) 97 16 (((uI (uI M 97 16 (M 97 15)) 97 14 1) 97 16) + 1)) 97 16) : Int32).toInt = ((M 97 15).toInt + 1) := e630; omega)
                            · skip
                              have d631 : (((M 97 15).toInt) : Int) < ((M 97 9).toInt) := ci_nle e584 e583 c624
                              refine ⟨vp_of (a := (M 97 15).toInt) e583 (by omega) (by omega), ?_⟩
                              have e633 : ((((uI (uI M 97 16 (M 97 15)) 97 14 1) 97 16) + 1) : Int32).toInt = ((M 97 15).toInt) + (1) := ti_add e583 rfl (by omega)
                              have hB632 : Bd (uI (uI (uI M 97 16 (M 97 15)) 97 14 1) 97 16 (((uI (uI M 97 16 (M 97 15)) 97 14 1) 97 16) + 1)) := Bd.o1 hB568 io9_112_97_12 (by decide) bd9_12_16 (show ((((uI (uI M 97 16 (M 97 15)) 97 14 1) 97 16) + 1) : Int32).toInt = ((M 97 15).toInt + 1) from e633) (by omega)
                              have f634 : Fr pT I (uI (uI (uI M 97 16 (M 97 15)) 97 14 1) 97 16 (((uI (uI M 97 16 (M 97 15)) 97 14 1) 97 16) + 1)) := Fr.o f569 (by decide) (by decide)
                              have e635 : (((uI (uI (uI M 97 16 (M 97 15)) 97 14 1) 97 16 (((uI (uI M 97 16 (M 97 15)) 97 14 1) 97 16) + 1)) 97 15) : Int32).toInt = (M 97 15).toInt := Eq.trans (congrArg Int32.toInt (Eq.trans (Eq.trans (rd_k (by decide)) (rd_k (by decide))) (rd_k (by decide)))) rfl
                              have e636 : (((uI (uI (uI M 97 16 (M 97 15)) 97 14 1) 97 16 (((uI (uI M 97 16 (M 97 15)) 97 14 1) 97 16) + 1)) 97 16) : Int32).toInt = ((M 97 15).toInt + 1) := Eq.trans (congrArg Int32.toInt rd_eq) e633
                              exact ih.2.2.1 _ _ hB632 (Eq.trans (Eq.trans (Eq.trans (rd_k (by decide)) (rd_k (by decide))) (rd_k (by decide))) hk_97_12) (Eq.trans (Eq.trans (Eq.trans (rd_k (by decide)) (rd_k (by decide))) (rd_k (by decide))) hk_97_27) f634 (by have q0 : (((uI (uI (uI M 97 16 (M 97 15)) 97 14 1) 97 16 (((uI (uI M 97 16 (M 97 15)) 97 14 1) 97 16) + 1)) 97 15) : Int32).toInt = (M 97 15).toInt := e635; have q1 : (((uI (uI (uI M 97 16 (M 97 15)) 97 14 1) 97 16 (((uI (uI M 97 16 (M 97 15)) 97 14 1) 97 16) + 1)) 97 15) : Int32).toInt = (M 97 15).toInt := e635; have q2 : (((uI (uI (uI M 97 16 (M 97 15)) 97 14 1) 97 16 (((uI (uI M 97 16 (M 97 15)) 97 14 1) 97 16) + 1)) 97 16) : Int32).toInt = ((M 97 15).toInt + 1) := e636; have q3 : (((uI (uI (uI M 97 16 (M 97 15)) 97 14 1) 97 16 (((uI (uI M 97 16 (M 97 15)) 97 14 1) 97 16) + 1)) 97 15) : Int32).toInt = (M 97 15).toInt := e635; have q4 : (((uI (uI (uI M 97 16 (M 97 15)) 97 14 1) 97 16 (((uI (uI M 97 16 (M 97 15)) 97 14 1) 97 16) + 1)) 97 16) : Int32).toInt = ((M 97 15).toInt + 1) := e636; have q5 : (((uI (uI (uI M 97 16 (M 97 15)) 97 14 1) 97 16 (((uI (uI M 97 16 (M 97 15)) 97 14 1) 97 16) + 1)) 97 16) : Int32).toInt = ((M 97 15).toInt + 1) := e636; omega) (by have q0 : (((uI (uI (uI M 97 16 (M 97 15)) 97 14 1) 97 16 (((uI (uI M 97 16 (M 97 15)) 97 14 1) 97 16) + 1)) 97 16) : Int32).toInt = ((M 97 15).toInt + 1) := e636; omega)
        · skip
          have e637 : (((uI M 97 16 (M 97 15)) 97 15) : Int32).toInt = (M 97 15).toInt := Eq.trans (congrArg Int32.toInt (rd_k (by decide))) rfl
          have b638 := Bd.o hB io9_112_97_12 bd9_12_9
          have e639 : (((uI M 97 16 (M 97 15)) 97 9) : Int32).toInt = (M 97 9).toInt := Eq.trans (congrArg Int32.toInt (rd_k (by decide))) rfl
          have d640 : (((M 97 9).toInt) : Int) ≤ ((M 97 15).toInt) := ci_nlt e637 e639 c43
          have hB641 : Bd (uI (uI M 97 16 (M 97 15)) 97 14 0) := Bd.o1 hB41 io9_112_97_12 (by decide) bd9_12_14 (show (0 : Int32).toInt = 0 from rfl) (by omega)
          have f642 : Fr pT I (uI (uI M 97 16 (M 97 15)) 97 14 0) := Fr.o f42 (by decide) (by decide)
          have b643 := Bd.o hB0 io9_112_97_12 bd9_12_14
          have b644 := Bd.o hB0 io9_112_97_12 bd9_12_16
          have e645 : (((uI (uI M 97 16 (M 97 15)) 97 14 0) 97 14) : Int32).toInt = 0 := Eq.trans (congrArg Int32.toInt rd_eq) rfl
          have e646 : (((uI (uI M 97 16 (M 97 15)) 97 14 0) 97 16) : Int32).toInt = (M 97 15).toInt := Eq.trans (congrArg Int32.toInt (Eq.trans (rd_k (by decide)) rd_eq)) rfl
          exact hQ _ _ _ _ hB641 ⟨(Eq.trans (Eq.trans (rd_k (by decide)) (rd_k (by decide))) hk_97_12), (Eq.trans (Eq.trans (rd_k (by decide)) (rd_k (by decide))) hk_97_27), f642, (by have q3 : (((uI (uI M 97 16 (M 97 15)) 97 14 0) 97 14) : Int32).toInt = 0 := e645; have q4 : (((uI (uI M 97 16 (M 97 15)) 97 14 0) 97 16) : Int32).toInt = (M 97 15).toInt := e646; omega)⟩
      · skip
        intro  M JM hB hk_97_12 hk_97_27 hf hi hm
        refine sg_X12_advance_109 hc _ _ _ ?_
        have b647 := Bd.o hB io9_112_97_12 bd9_12_15
        have b648 := Bd.o hB io9_112_97_12 bd9_12_16
        refine w_X12_look2 ?_
        refine ⟨fun c649 => ?_, fun c649 => ?_⟩
        · skip
          have b650 := Bd.o hB io9_112_97_12 bd9_12_9
          have d651 : (((M 97 9).toInt) : Int) ≤ ((M 97 16).toInt) := ci_le rfl rfl c649
          refine w_X12_isLetter ?_
          refine ⟨fun c652 => ?_, fun c652 => ?_⟩
          · skip
            refine ⟨Or.inl rfl, ?_⟩
            intro o653
            refine ⟨fun c654 => ?_, fun c654 => ?_⟩
            · skip
              have hB655 : Bd (uI M 97 18 ((M 97 16) - (M 97 15))) := Bd.o0 hB io9_112_97_12 (by decide) bd9_12_18
              have f656 : Fr pT I (uI M 97 18 ((M 97 16) - (M 97 15))) := Fr.o hf (by decide) (by decide)
              have b657 := Bd.o hB0 io9_112_97_12 bd9_12_14
              have b658 := Bd.o hB0 io9_112_97_12 bd9_12_16
              have b659 := Bd.o hB io9_112_97_12 bd9_12_14
              have e660 : (((uI M 97 18 ((M 97 16) - (M 97 15))) 97 14) : Int32).toInt = (M 97 14).toInt := Eq.trans (congrArg Int32.toInt (rd_k (by decide))) rfl
              have e661 : (((uI M 97 18 ((M 97 16) - (M 97 15))) 97 16) : Int32).toInt = (M 97 16).toInt := Eq.trans (congrArg Int32.toInt (rd_k (by decide))) rfl
              exact hQ _ _ _ _ hB655 ⟨(Eq.trans (rd_k (by decide)) hk_97_12), (Eq.trans (rd_k (by decide)) hk_97_27), f656, (by have q3 : (((uI M 97 18 ((M 97 16) - (M 97 15))) 97 14) : Int32).toInt = (M 97 14).toInt := e660; have q4 : (((uI M 97 18 ((M 97 16) - (M 97 15))) 97 16) : Int32).toInt = (M 97 16).toInt := e661; omega)⟩
            · exact absurd c654 (by decide)
          · exact absurd c652 (by decide)
        · skip
          have b662 := Bd.o hB io9_112_97_12 bd9_12_9
          have d663 : (((M 97 16).toInt) : Int) < ((M 97 9).toInt) := ci_nle rfl rfl c649
          refine ⟨vp_of (a := (M 97 16).toInt) rfl (by omega) (by omega), ?_⟩
          refine w_X12_isLetter ?_
          refine ⟨fun c664 => ?_, fun c664 => ?_⟩
          · skip
            have d665 : (((((M 101 (Int32.toNatClampNeg (M 97 16))) &&& 255) : Int32).toInt) : Int) < (97) := ci_lt rfl rfl c664
            refine ⟨Or.inl rfl, ?_⟩
            intro o666
            refine ⟨fun c667 => ?_, fun c667 => ?_⟩
            · skip
              have hB668 : Bd (uI M 97 18 ((M 97 16) - (M 97 15))) := Bd.o0 hB io9_112_97_12 (by decide) bd9_12_18
              have f669 : Fr pT I (uI M 97 18 ((M 97 16) - (M 97 15))) := Fr.o hf (by decide) (by decide)
              have b670 := Bd.o hB0 io9_112_97_12 bd9_12_14
              have b671 := Bd.o hB0 io9_112_97_12 bd9_12_16
              have b672 := Bd.o hB io9_112_97_12 bd9_12_14
              have e673 : (((uI M 97 18 ((M 97 16) - (M 97 15))) 97 14) : Int32).toInt = (M 97 14).toInt := Eq.trans (congrArg Int32.toInt (rd_k (by decide))) rfl
              have e674 : (((uI M 97 18 ((M 97 16) - (M 97 15))) 97 16) : Int32).toInt = (M 97 16).toInt := Eq.trans (congrArg Int32.toInt (rd_k (by decide))) rfl
              exact hQ _ _ _ _ hB668 ⟨(Eq.trans (rd_k (by decide)) hk_97_12), (Eq.trans (rd_k (by decide)) hk_97_27), f669, (by have q3 : (((uI M 97 18 ((M 97 16) - (M 97 15))) 97 14) : Int32).toInt = (M 97 14).toInt := e673; have q4 : (((uI M 97 18 ((M 97 16) - (M 97 15))) 97 16) : Int32).toInt = (M 97 16).toInt := e674; omega)⟩
            · exact absurd c667 (by decide)
          · skip
            have d675 : ((97) : Int) ≤ ((((M 101 (Int32.toNatClampNeg (M 97 16))) &&& 255) : Int32).toInt) := ci_nlt rfl rfl c664
            refine ⟨fun c676 => ?_, fun c676 => ?_⟩
            · skip
              have d677 : ((122) : Int) < ((((M 101 (Int32.toNatClampNeg (M 97 16))) &&& 255) : Int32).toInt) := ci_lt rfl rfl c676
              refine ⟨Or.inl rfl, ?_⟩
              intro o678
              refine ⟨fun c679 => ?_, fun c679 => ?_⟩
              · skip
                have hB680 : Bd (uI M 97 18 ((M 97 16) - (M 97 15))) := Bd.o0 hB io9_112_97_12 (by decide) bd9_12_18
                have f681 : Fr pT I (uI M 97 18 ((M 97 16) - (M 97 15))) := Fr.o hf (by decide) (by decide)
                have b682 := Bd.o hB0 io9_112_97_12 bd9_12_14
                have b683 := Bd.o hB0 io9_112_97_12 bd9_12_16
                have b684 := Bd.o hB io9_112_97_12 bd9_12_14
                have e685 : (((uI M 97 18 ((M 97 16) - (M 97 15))) 97 14) : Int32).toInt = (M 97 14).toInt := Eq.trans (congrArg Int32.toInt (rd_k (by decide))) rfl
                have e686 : (((uI M 97 18 ((M 97 16) - (M 97 15))) 97 16) : Int32).toInt = (M 97 16).toInt := Eq.trans (congrArg Int32.toInt (rd_k (by decide))) rfl
                exact hQ _ _ _ _ hB680 ⟨(Eq.trans (rd_k (by decide)) hk_97_12), (Eq.trans (rd_k (by decide)) hk_97_27), f681, (by have q3 : (((uI M 97 18 ((M 97 16) - (M 97 15))) 97 14) : Int32).toInt = (M 97 14).toInt := e685; have q4 : (((uI M 97 18 ((M 97 16) - (M 97 15))) 97 16) : Int32).toInt = (M 97 16).toInt := e686; omega)⟩
              · exact absurd c679 (by decide)
            · skip
              have d687 : (((((M 101 (Int32.toNatClampNeg (M 97 16))) &&& 255) : Int32).toInt) : Int) ≤ (122) := ci_nlt rfl rfl c676
              refine ⟨Or.inr rfl, ?_⟩
              intro o688
              refine ⟨fun c689 => ?_, fun c689 => ?_⟩
              · exact absurd c689 (by decide)
              · skip
                refine ⟨fun c690 => ?_, fun c690 => ?_⟩
                · skip
                  have e691 : (((M 97 16) - (M 97 15)) : Int32).toInt = ((M 97 16).toInt) - ((M 97 15).toInt) := ti_sub rfl rfl (by omega)
                  have d692 : ((8) : Int) ≤ (((M 97 16).toInt - (M 97 15).toInt)) := ci_le rfl e691 c690
                  have e694 : (((M 97 16) + 1) : Int32).toInt = ((M 97 16).toInt) + (1) := ti_add rfl rfl (by omega)
                  have hB693 : Bd (uI M 97 16 ((M 97 16) + 1)) := Bd.o1 hB io9_112_97_12 (by decide) bd9_12_16 (show (((M 97 16) + 1) : Int32).toInt = ((M 97 16).toInt + 1) from e694) (by omega)
                  have f695 : Fr pT I (uI M 97 16 ((M 97 16) + 1)) := Fr.o hf (by decide) (by decide)
                  have e696 : (((uI M 97 16 ((M 97 16) + 1)) 97 15) : Int32).toInt = (M 97 15).toInt := Eq.trans (congrArg Int32.toInt (rd_k (by decide))) rfl
                  have e697 : (((uI M 97 16 ((M 97 16) + 1)) 97 16) : Int32).toInt = ((M 97 16).toInt + 1) := Eq.trans (congrArg Int32.toInt rd_eq) e694
                  exact ih.2.2.1 _ _ hB693 (Eq.trans (rd_k (by decide)) hk_97_12) (Eq.trans (rd_k (by decide)) hk_97_27) f695 (by have q0 : (((uI M 97 16 ((M 97 16) + 1)) 97 15) : Int32).toInt = (M 97 15).toInt := e696; have q1 : (((uI M 97 16 ((M 97 16) + 1)) 97 15) : Int32).toInt = (M 97 15).toInt := e696; have q2 : (((uI M 97 16 ((M 97 16) + 1)) 97 16) : Int32).toInt = ((M 97 16).toInt + 1) := e697; have q3 : (((uI M 97 16 ((M 97 16) + 1)) 97 15) : Int32).toInt = (M 97 15).toInt := e696; have q4 : (((uI M 97 16 ((M 97 16) + 1)) 97 16) : Int32).toInt = ((M 97 16).toInt + 1) := e697; have q5 : (((uI M 97 16 ((M 97 16) + 1)) 97 16) : Int32).toInt = ((M 97 16).toInt + 1) := e697; omega) (by have q0 : (((uI M 97 16 ((M 97 16) + 1)) 97 16) : Int32).toInt = ((M 97 16).toInt + 1) := e697; omega)
                · skip
                  have e698 : (((M 97 16) - (M 97 15)) : Int32).toInt = ((M 97 16).toInt) - ((M 97 15).toInt) := ti_sub rfl rfl (by omega)
                  have d699 : ((((M 97 16).toInt - (M 97 15).toInt)) : Int) < (8) := ci_nle rfl e698 c690
                  refine w_X12_look2 ?_
                  refine ⟨fun c700 => ?_, fun c700 => ?_⟩
                  · skip
                    have d701 : (((M 97 9).toInt) : Int) ≤ ((M 97 16).toInt) := ci_le rfl rfl c700
                    have e703 : (((M 97 16) + 1) : Int32).toInt = ((M 97 16).toInt) + (1) := ti_add rfl rfl (by omega)
                    have hB702 : Bd (uI M 97 16 ((M 97 16) + 1)) := Bd.o1 hB io9_112_97_12 (by decide) bd9_12_16 (show (((M 97 16) + 1) : Int32).toInt = ((M 97 16).toInt + 1) from e703) (by omega)
                    have f704 : Fr pT I (uI M 97 16 ((M 97 16) + 1)) := Fr.o hf (by decide) (by decide)
                    have e705 : (((uI M 97 16 ((M 97 16) + 1)) 97 15) : Int32).toInt = (M 97 15).toInt := Eq.trans (congrArg Int32.toInt (rd_k (by decide))) rfl
                    have e706 : (((uI M 97 16 ((M 97 16) + 1)) 97 16) : Int32).toInt = ((M 97 16).toInt + 1) := Eq.trans (congrArg Int32.toInt rd_eq) e703
                    exact ih.2.2.1 _ _ hB702 (Eq.trans (rd_k (by decide)) hk_97_12) (Eq.trans (rd_k (by decide)) hk_97_27) f704 (by have q0 : (((uI M 97 16 ((M 97 16) + 1)) 97 15) : Int32).toInt = (M 97 15).toInt := e705; have q1 : (((uI M 97 16 ((M 97 16) + 1)) 97 15) : Int32).toInt = (M 97 15).toInt := e705; have q2 : (((uI M 97 16 ((M 97 16) + 1)) 97 16) : Int32).toInt = ((M 97 16).toInt + 1) := e706; have q3 : (((uI M 97 16 ((M 97 16) + 1)) 97 15) : Int32).toInt = (M 97 15).toInt := e705; have q4 : (((uI M 97 16 ((M 97 16) + 1)) 97 16) : Int32).toInt = ((M 97 16).toInt + 1) := e706; have q5 : (((uI M 97 16 ((M 97 16) + 1)) 97 16) : Int32).toInt = ((M 97 16).toInt + 1) := e706; omega) (by have q0 : (((uI M 97 16 ((M 97 16) + 1)) 97 16) : Int32).toInt = ((M 97 16).toInt + 1) := e706; omega)
                  · skip
                    have d707 : (((M 97 16).toInt) : Int) < ((M 97 9).toInt) := ci_nle rfl rfl c700
                    refine ⟨vp_of (a := (M 97 16).toInt) rfl (by omega) (by omega), ?_⟩
                    have e709 : (((M 97 16) + 1) : Int32).toInt = ((M 97 16).toInt) + (1) := ti_add rfl rfl (by omega)
                    have hB708 : Bd (uI M 97 16 ((M 97 16) + 1)) := Bd.o1 hB io9_112_97_12 (by decide) bd9_12_16 (show (((M 97 16) + 1) : Int32).toInt = ((M 97 16).toInt + 1) from e709) (by omega)
                    have f710 : Fr pT I (uI M 97 16 ((M 97 16) + 1)) := Fr.o hf (by decide) (by decide)
                    have e711 : (((uI M 97 16 ((M 97 16) + 1)) 97 15) : Int32).toInt = (M 97 15).toInt := Eq.trans (congrArg Int32.toInt (rd_k (by decide))) rfl
                    have e712 : (((uI M 97 16 ((M 97 16) + 1)) 97 16) : Int32).toInt = ((M 97 16).toInt + 1) := Eq.trans (congrArg Int32.toInt rd_eq) e709
                    exact ih.2.2.1 _ _ hB708 (Eq.trans (rd_k (by decide)) hk_97_12) (Eq.trans (rd_k (by decide)) hk_97_27) f710 (by have q0 : (((uI M 97 16 ((M 97 16) + 1)) 97 15) : Int32).toInt = (M 97 15).toInt := e711; have q1 : (((uI M 97 16 ((M 97 16) + 1)) 97 15) : Int32).toInt = (M 97 15).toInt := e711; have q2 : (((uI M 97 16 ((M 97 16) + 1)) 97 16) : Int32).toInt = ((M 97 16).toInt + 1) := e712; have q3 : (((uI M 97 16 ((M 97 16) + 1)) 97 15) : Int32).toInt = (M 97 15).toInt := e711; have q4 : (((uI M 97 16 ((M 97 16) + 1)) 97 16) : Int32).toInt = ((M 97 16).toInt + 1) := e712; have q5 : (((uI M 97 16 ((M 97 16) + 1)) 97 16) : Int32).toInt = ((M 97 16).toInt + 1) := e712; omega) (by have q0 : (((uI M 97 16 ((M 97 16) + 1)) 97 16) : Int32).toInt = ((M 97 16).toInt + 1) := e712; omega)
      · skip
        intro  M JM hB hk_97_12 hk_97_27 hf hi hm
        refine sg_X12_advance_210 hc _ _ _ ?_
        have b713 := Bd.o hB io9_112_97_12 bd9_12_15
        have b714 := Bd.o hB io9_112_97_12 bd9_12_16
        refine w_X12_look2 ?_
        refine ⟨fun c715 => ?_, fun c715 => ?_⟩
        · skip
          have b716 := Bd.o hB io9_112_97_12 bd9_12_9
          have d717 : (((M 97 9).toInt) : Int) ≤ ((M 97 16).toInt) := ci_le rfl rfl c715
          refine w_X12_isDigit ?_
          refine ⟨fun c718 => ?_, fun c718 => ?_⟩
          · skip
            refine ⟨Or.inl rfl, ?_⟩
            intro o719
            refine ⟨fun c720 => ?_, fun c720 => ?_⟩
            · skip
              refine ⟨fun c721 => ?_, fun c721 => ?_⟩
              · skip
                have e722 : (((M 97 16) - (M 97 15)) : Int32).toInt = ((M 97 16).toInt) - ((M 97 15).toInt) := ti_sub rfl rfl (by omega)
                have d723 : ((((M 97 16).toInt - (M 97 15).toInt)) : Int) ≤ (4) := ci_le e722 rfl c721
                have hB724 : Bd (uI M 97 14 2) := Bd.o1 hB io9_112_97_12 (by decide) bd9_12_14 (show (2 : Int32).toInt = 2 from rfl) (by omega)
                have f725 : Fr pT I (uI M 97 14 2) := Fr.o hf (by decide) (by decide)
                have b726 := Bd.o hB0 io9_112_97_12 bd9_12_14
                have b727 := Bd.o hB0 io9_112_97_12 bd9_12_16
                have e728 : (((uI M 97 14 2) 97 14) : Int32).toInt = 2 := Eq.trans (congrArg Int32.toInt rd_eq) rfl
                have e729 : (((uI M 97 14 2) 97 16) : Int32).toInt = (M 97 16).toInt := Eq.trans (congrArg Int32.toInt (rd_k (by decide))) rfl
                exact hQ _ _ _ _ hB724 ⟨(Eq.trans (rd_k (by decide)) hk_97_12), (Eq.trans (rd_k (by decide)) hk_97_27), f725, (by have q3 : (((uI M 97 14 2) 97 14) : Int32).toInt = 2 := e728; have q4 : (((uI M 97 14 2) 97 16) : Int32).toInt = (M 97 16).toInt := e729; omega)⟩
              · skip
                have e730 : (((M 97 16) - (M 97 15)) : Int32).toInt = ((M 97 16).toInt) - ((M 97 15).toInt) := ti_sub rfl rfl (by omega)
                have d731 : ((4) : Int) < (((M 97 16).toInt - (M 97 15).toInt)) := ci_nle e730 rfl c721
                have hB732 : Bd (uI M 97 14 4) := Bd.o1 hB io9_112_97_12 (by decide) bd9_12_14 (show (4 : Int32).toInt = 4 from rfl) (by omega)
                have f733 : Fr pT I (uI M 97 14 4) := Fr.o hf (by decide) (by decide)
                have b734 := Bd.o hB0 io9_112_97_12 bd9_12_14
                have b735 := Bd.o hB0 io9_112_97_12 bd9_12_16
                have e736 : (((uI M 97 14 4) 97 14) : Int32).toInt = 4 := Eq.trans (congrArg Int32.toInt rd_eq) rfl
                have e737 : (((uI M 97 14 4) 97 16) : Int32).toInt = (M 97 16).toInt := Eq.trans (congrArg Int32.toInt (rd_k (by decide))) rfl
                exact hQ _ _ _ _ hB732 ⟨(Eq.trans (rd_k (by decide)) hk_97_12), (Eq.trans (rd_k (by decide)) hk_97_27), f733, (by have q3 : (((uI M 97 14 4) 97 14) : Int32).toInt = 4 := e736; have q4 : (((uI M 97 14 4) 97 16) : Int32).toInt = (M 97 16).toInt := e737; omega)⟩
            · exact absurd c720 (by decide)
          · exact absurd c718 (by decide)
        · skip
          have b738 := Bd.o hB io9_112_97_12 bd9_12_9
          have d739 : (((M 97 16).toInt) : Int) < ((M 97 9).toInt) := ci_nle rfl rfl c715
          refine ⟨vp_of (a := (M 97 16).toInt) rfl (by omega) (by omega), ?_⟩
          refine w_X12_isDigit ?_
          refine ⟨fun c740 => ?_, fun c740 => ?_⟩
          · skip
            have d741 : (((((M 101 (Int32.toNatClampNeg (M 97 16))) &&& 255) : Int32).toInt) : Int) < (48) := ci_lt rfl rfl c740
            refine ⟨Or.inl rfl, ?_⟩
            intro o742
            refine ⟨fun c743 => ?_, fun c743 => ?_⟩
            · skip
              refine ⟨fun c744 => ?_, fun c744 => ?_⟩
              · skip
                have e745 : (((M 97 16) - (M 97 15)) : Int32).toInt = ((M 97 16).toInt) - ((M 97 15).toInt) := ti_sub rfl rfl (by omega)
                have d746 : ((((M 97 16).toInt - (M 97 15).toInt)) : Int) ≤ (4) := ci_le e745 rfl c744
                have hB747 : Bd (uI M 97 14 2) := Bd.o1 hB io9_112_97_12 (by decide) bd9_12_14 (show (2 : Int32).toInt = 2 from rfl) (by omega)
                have f748 : Fr pT I (uI M 97 14 2) := Fr.o hf (by decide) (by decide)
                have b749 := Bd.o hB0 io9_112_97_12 bd9_12_14
                have b750 := Bd.o hB0 io9_112_97_12 bd9_12_16
                have e751 : (((uI M 97 14 2) 97 14) : Int32).toInt = 2 := Eq.trans (congrArg Int32.toInt rd_eq) rfl
                have e752 : (((uI M 97 14 2) 97 16) : Int32).toInt = (M 97 16).toInt := Eq.trans (congrArg Int32.toInt (rd_k (by decide))) rfl
                exact hQ _ _ _ _ hB747 ⟨(Eq.trans (rd_k (by decide)) hk_97_12), (Eq.trans (rd_k (by decide)) hk_97_27), f748, (by have q3 : (((uI M 97 14 2) 97 14) : Int32).toInt = 2 := e751; have q4 : (((uI M 97 14 2) 97 16) : Int32).toInt = (M 97 16).toInt := e752; omega)⟩
              · skip
                have e753 : (((M 97 16) - (M 97 15)) : Int32).toInt = ((M 97 16).toInt) - ((M 97 15).toInt) := ti_sub rfl rfl (by omega)
                have d754 : ((4) : Int) < (((M 97 16).toInt - (M 97 15).toInt)) := ci_nle e753 rfl c744
                have hB755 : Bd (uI M 97 14 4) := Bd.o1 hB io9_112_97_12 (by decide) bd9_12_14 (show (4 : Int32).toInt = 4 from rfl) (by omega)
                have f756 : Fr pT I (uI M 97 14 4) := Fr.o hf (by decide) (by decide)
                have b757 := Bd.o hB0 io9_112_97_12 bd9_12_14
                have b758 := Bd.o hB0 io9_112_97_12 bd9_12_16
                have e759 : (((uI M 97 14 4) 97 14) : Int32).toInt = 4 := Eq.trans (congrArg Int32.toInt rd_eq) rfl
                have e760 : (((uI M 97 14 4) 97 16) : Int32).toInt = (M 97 16).toInt := Eq.trans (congrArg Int32.toInt (rd_k (by decide))) rfl
                exact hQ _ _ _ _ hB755 ⟨(Eq.trans (rd_k (by decide)) hk_97_12), (Eq.trans (rd_k (by decide)) hk_97_27), f756, (by have q3 : (((uI M 97 14 4) 97 14) : Int32).toInt = 4 := e759; have q4 : (((uI M 97 14 4) 97 16) : Int32).toInt = (M 97 16).toInt := e760; omega)⟩
            · exact absurd c743 (by decide)
          · skip
            have d761 : ((48) : Int) ≤ ((((M 101 (Int32.toNatClampNeg (M 97 16))) &&& 255) : Int32).toInt) := ci_nlt rfl rfl c740
            refine ⟨fun c762 => ?_, fun c762 => ?_⟩
            · skip
              have d763 : ((57) : Int) < ((((M 101 (Int32.toNatClampNeg (M 97 16))) &&& 255) : Int32).toInt) := ci_lt rfl rfl c762
              refine ⟨Or.inl rfl, ?_⟩
              intro o764
              refine ⟨fun c765 => ?_, fun c765 => ?_⟩
              · skip
                refine ⟨fun c766 => ?_, fun c766 => ?_⟩
                · skip
                  have e767 : (((M 97 16) - (M 97 15)) : Int32).toInt = ((M 97 16).toInt) - ((M 97 15).toInt) := ti_sub rfl rfl (by omega)
                  have d768 : ((((M 97 16).toInt - (M 97 15).toInt)) : Int) ≤ (4) := ci_le e767 rfl c766
                  have hB769 : Bd (uI M 97 14 2) := Bd.o1 hB io9_112_97_12 (by decide) bd9_12_14 (show (2 : Int32).toInt = 2 from rfl) (by omega)
                  have f770 : Fr pT I (uI M 97 14 2) := Fr.o hf (by decide) (by decide)
                  have b771 := Bd.o hB0 io9_112_97_12 bd9_12_14
                  have b772 := Bd.o hB0 io9_112_97_12 bd9_12_16
                  have e773 : (((uI M 97 14 2) 97 14) : Int32).toInt = 2 := Eq.trans (congrArg Int32.toInt rd_eq) rfl
                  have e774 : (((uI M 97 14 2) 97 16) : Int32).toInt = (M 97 16).toInt := Eq.trans (congrArg Int32.toInt (rd_k (by decide))) rfl
                  exact hQ _ _ _ _ hB769 ⟨(Eq.trans (rd_k (by decide)) hk_97_12), (Eq.trans (rd_k (by decide)) hk_97_27), f770, (by have q3 : (((uI M 97 14 2) 97 14) : Int32).toInt = 2 := e773; have q4 : (((uI M 97 14 2) 97 16) : Int32).toInt = (M 97 16).toInt := e774; omega)⟩
                · skip
                  have e775 : (((M 97 16) - (M 97 15)) : Int32).toInt = ((M 97 16).toInt) - ((M 97 15).toInt) := ti_sub rfl rfl (by omega)
                  have d776 : ((4) : Int) < (((M 97 16).toInt - (M 97 15).toInt)) := ci_nle e775 rfl c766
                  have hB777 : Bd (uI M 97 14 4) := Bd.o1 hB io9_112_97_12 (by decide) bd9_12_14 (show (4 : Int32).toInt = 4 from rfl) (by omega)
                  have f778 : Fr pT I (uI M 97 14 4) := Fr.o hf (by decide) (by decide)
                  have b779 := Bd.o hB0 io9_112_97_12 bd9_12_14
                  have b780 := Bd.o hB0 io9_112_97_12 bd9_12_16
                  have e781 : (((uI M 97 14 4) 97 14) : Int32).toInt = 4 := Eq.trans (congrArg Int32.toInt rd_eq) rfl
                  have e782 : (((uI M 97 14 4) 97 16) : Int32).toInt = (M 97 16).toInt := Eq.trans (congrArg Int32.toInt (rd_k (by decide))) rfl
                  exact hQ _ _ _ _ hB777 ⟨(Eq.trans (rd_k (by decide)) hk_97_12), (Eq.trans (rd_k (by decide)) hk_97_27), f778, (by have q3 : (((uI M 97 14 4) 97 14) : Int32).toInt = 4 := e781; have q4 : (((uI M 97 14 4) 97 16) : Int32).toInt = (M 97 16).toInt := e782; omega)⟩
              · exact absurd c765 (by decide)
            · skip
              have d783 : (((((M 101 (Int32.toNatClampNeg (M 97 16))) &&& 255) : Int32).toInt) : Int) ≤ (57) := ci_nlt rfl rfl c762
              refine ⟨Or.inr rfl, ?_⟩
              intro o784
              refine ⟨fun c785 => ?_, fun c785 => ?_⟩
              · exact absurd c785 (by decide)
              · skip
                refine ⟨fun c786 => ?_, fun c786 => ?_⟩
                · skip
                  have e787 : (((M 97 16) - (M 97 15)) : Int32).toInt = ((M 97 16).toInt) - ((M 97 15).toInt) := ti_sub rfl rfl (by omega)
                  have d788 : ((4) : Int) ≤ (((M 97 16).toInt - (M 97 15).toInt)) := ci_le rfl e787 c786
                  have e790 : (((M 97 16) + 1) : Int32).toInt = ((M 97 16).toInt) + (1) := ti_add rfl rfl (by omega)
                  have hB789 : Bd (uI M 97 16 ((M 97 16) + 1)) := Bd.o1 hB io9_112_97_12 (by decide) bd9_12_16 (show (((M 97 16) + 1) : Int32).toInt = ((M 97 16).toInt + 1) from e790) (by omega)
                  have f791 : Fr pT I (uI M 97 16 ((M 97 16) + 1)) := Fr.o hf (by decide) (by decide)
                  have e792 : (((uI M 97 16 ((M 97 16) + 1)) 97 15) : Int32).toInt = (M 97 15).toInt := Eq.trans (congrArg Int32.toInt (rd_k (by decide))) rfl
                  have e793 : (((uI M 97 16 ((M 97 16) + 1)) 97 16) : Int32).toInt = ((M 97 16).toInt + 1) := Eq.trans (congrArg Int32.toInt rd_eq) e790
                  exact ih.2.2.2 _ _ hB789 (Eq.trans (rd_k (by decide)) hk_97_12) (Eq.trans (rd_k (by decide)) hk_97_27) f791 (by have q0 : (((uI M 97 16 ((M 97 16) + 1)) 97 15) : Int32).toInt = (M 97 15).toInt := e792; have q1 : (((uI M 97 16 ((M 97 16) + 1)) 97 15) : Int32).toInt = (M 97 15).toInt := e792; have q2 : (((uI M 97 16 ((M 97 16) + 1)) 97 16) : Int32).toInt = ((M 97 16).toInt + 1) := e793; have q3 : (((uI M 97 16 ((M 97 16) + 1)) 97 16) : Int32).toInt = ((M 97 16).toInt + 1) := e793; omega) (by have q0 : (((uI M 97 16 ((M 97 16) + 1)) 97 16) : Int32).toInt = ((M 97 16).toInt + 1) := e793; omega)
                · skip
                  have e794 : (((M 97 16) - (M 97 15)) : Int32).toInt = ((M 97 16).toInt) - ((M 97 15).toInt) := ti_sub rfl rfl (by omega)
                  have d795 : ((((M 97 16).toInt - (M 97 15).toInt)) : Int) < (4) := ci_nle rfl e794 c786
                  refine w_X12_look2 ?_
                  refine ⟨fun c796 => ?_, fun c796 => ?_⟩
                  · skip
                    have d797 : (((M 97 9).toInt) : Int) ≤ ((M 97 16).toInt) := ci_le rfl rfl c796
                    have hB798 : Bd (uI M 97 17 (((10 * (M 97 17)) + 0) - 48)) := Bd.o0 hB io9_112_97_12 (by decide) bd9_12_17
                    have f799 : Fr pT I (uI M 97 17 (((10 * (M 97 17)) + 0) - 48)) := Fr.o hf (by decide) (by decide)
                    have e801 : (((uI M 97 17 (((10 * (M 97 17)) + 0) - 48)) 97 16) : Int32).toInt = (M 97 16).toInt := Eq.trans (congrArg Int32.toInt (rd_k (by decide))) rfl
                    have e802 : ((((uI M 97 17 (((10 * (M 97 17)) + 0) - 48)) 97 16) + 1) : Int32).toInt = ((M 97 16).toInt) + (1) := ti_add e801 rfl (by omega)
                    have hB800 : Bd (uI (uI M 97 17 (((10 * (M 97 17)) + 0) - 48)) 97 16 (((uI M 97 17 (((10 * (M 97 17)) + 0) - 48)) 97 16) + 1)) := Bd.o1 hB798 io9_112_97_12 (by decide) bd9_12_16 (show ((((uI M 97 17 (((10 * (M 97 17)) + 0) - 48)) 97 16) + 1) : Int32).toInt = ((M 97 16).toInt + 1) from e802) (by omega)
                    have f803 : Fr pT I (uI (uI M 97 17 (((10 * (M 97 17)) + 0) - 48)) 97 16 (((uI M 97 17 (((10 * (M 97 17)) + 0) - 48)) 97 16) + 1)) := Fr.o f799 (by decide) (by decide)
                    have e804 : (((uI (uI M 97 17 (((10 * (M 97 17)) + 0) - 48)) 97 16 (((uI M 97 17 (((10 * (M 97 17)) + 0) - 48)) 97 16) + 1)) 97 15) : Int32).toInt = (M 97 15).toInt := Eq.trans (congrArg Int32.toInt (Eq.trans (rd_k (by decide)) (rd_k (by decide)))) rfl
                    have e805 : (((uI (uI M 97 17 (((10 * (M 97 17)) + 0) - 48)) 97 16 (((uI M 97 17 (((10 * (M 97 17)) + 0) - 48)) 97 16) + 1)) 97 16) : Int32).toInt = ((M 97 16).toInt + 1) := Eq.trans (congrArg Int32.toInt rd_eq) e802
                    exact ih.2.2.2 _ _ hB800 (Eq.trans (Eq.trans (rd_k (by decide)) (rd_k (by decide))) hk_97_12) (Eq.trans (Eq.trans (rd_k (by decide)) (rd_k (by decide))) hk_97_27) f803 (by have q0 : (((uI (uI M 97 17 (((10 * (M 97 17)) + 0) - 48)) 97 16 (((uI M 97 17 (((10 * (M 97 17)) + 0) - 48)) 97 16) + 1)) 97 15) : Int32).toInt = (M 97 15).toInt := e804; have q1 : (((uI (uI M 97 17 (((10 * (M 97 17)) + 0) - 48)) 97 16 (((uI M 97 17 (((10 * (M 97 17)) + 0) - 48)) 97 16) + 1)) 97 15) : Int32).toInt = (M 97 15).toInt := e804; have q2 : (((uI (uI M 97 17 (((10 * (M 97 17)) + 0) - 48)) 97 16 (((uI M 97 17 (((10 * (M 97 17)) + 0) - 48)) 97 16) + 1)) 97 16) : Int32).toInt = ((M 97 16).toInt + 1) := e805; have q3 : (((uI (uI M 97 17 (((10 * (M 97 17)) + 0) - 48)) 97 16 (((uI M 97 17 (((10 * (M 97 17)) + 0) - 48)) 97 16) + 1)) 97 16) : Int32).toInt = ((M 97 16).toInt + 1) := e805; omega) (by have q0 : (((uI (uI M 97 17 (((10 * (M 97 17)) + 0) - 48)) 97 16 (((uI M 97 17 (((10 * (M 97 17)) + 0) - 48)) 97 16) + 1)) 97 16) : Int32).toInt = ((M 97 16).toInt + 1) := e805; omega)
                  · skip
                    have d806 : (((M 97 16).toInt) : Int) < ((M 97 9).toInt) := ci_nle rfl rfl c796
                    refine ⟨vp_of (a := (M 97 16).toInt) rfl (by omega) (by omega), ?_⟩
                    have hB807 : Bd (uI M 97 17 (((10 * (M 97 17)) + ((M 101 (Int32.toNatClampNeg (M 97 16))) &&& 255)) - 48)) := Bd.o0 hB io9_112_97_12 (by decide) bd9_12_17
                    have f808 : Fr pT I (uI M 97 17 (((10 * (M 97 17)) + ((M 101 (Int32.toNatClampNeg (M 97 16))) &&& 255)) - 48)) := Fr.o hf (by decide) (by decide)
                    have e810 : (((uI M 97 17 (((10 * (M 97 17)) + ((M 101 (Int32.toNatClampNeg (M 97 16))) &&& 255)) - 48)) 97 16) : Int32).toInt = (M 97 16).toInt := Eq.trans (congrArg Int32.toInt (rd_k (by decide))) rfl
                    have e811 : ((((uI M 97 17 (((10 * (M 97 17)) + ((M 101 (Int32.toNatClampNeg (M 97 16))) &&& 255)) - 48)) 97 16) + 1) : Int32).toInt = ((M 97 16).toInt) + (1) := ti_add e810 rfl (by omega)
                    have hB809 : Bd (uI (uI M 97 17 (((10 * (M 97 17)) + ((M 101 (Int32.toNatClampNeg (M 97 16))) &&& 255)) - 48)) 97 16 (((uI M 97 17 (((10 * (M 97 17)) + ((M 101 (Int32.toNatClampNeg (M 97 16))) &&& 255)) - 48)) 97 16) + 1)) := Bd.o1 hB807 io9_112_97_12 (by decide) bd9_12_16 (show ((((uI M 97 17 (((10 * (M 97 17)) + ((M 101 (Int32.toNatClampNeg (M 97 16))) &&& 255)) - 48)) 97 16) + 1) : Int32).toInt = ((M 97 16).toInt + 1) from e811) (by omega)
                    have f812 : Fr pT I (uI (uI M 97 17 (((10 * (M 97 17)) + ((M 101 (Int32.toNatClampNeg (M 97 16))) &&& 255)) - 48)) 97 16 (((uI M 97 17 (((10 * (M 97 17)) + ((M 101 (Int32.toNatClampNeg (M 97 16))) &&& 255)) - 48)) 97 16) + 1)) := Fr.o f808 (by decide) (by decide)
                    have e813 : (((uI (uI M 97 17 (((10 * (M 97 17)) + ((M 101 (Int32.toNatClampNeg (M 97 16))) &&& 255)) - 48)) 97 16 (((uI M 97 17 (((10 * (M 97 17)) + ((M 101 (Int32.toNatClampNeg (M 97 16))) &&& 255)) - 48)) 97 16) + 1)) 97 15) : Int32).toInt = (M 97 15).toInt := Eq.trans (congrArg Int32.toInt (Eq.trans (rd_k (by decide)) (rd_k (by decide)))) rfl
                    have e814 : (((uI (uI M 97 17 (((10 * (M 97 17)) + ((M 101 (Int32.toNatClampNeg (M 97 16))) &&& 255)) - 48)) 97 16 (((uI M 97 17 (((10 * (M 97 17)) + ((M 101 (Int32.toNatClampNeg (M 97 16))) &&& 255)) - 48)) 97 16) + 1)) 97 16) : Int32).toInt = ((M 97 16).toInt + 1) := Eq.trans (congrArg Int32.toInt rd_eq) e811
                    exact ih.2.2.2 _ _ hB809 (Eq.trans (Eq.trans (rd_k (by decide)) (rd_k (by decide))) hk_97_12) (Eq.trans (Eq.trans (rd_k (by decide)) (rd_k (by decide))) hk_97_27) f812 (by have q0 : (((uI (uI M 97 17 (((10 * (M 97 17)) + ((M 101 (Int32.toNatClampNeg (M 97 16))) &&& 255)) - 48)) 97 16 (((uI M 97 17 (((10 * (M 97 17)) + ((M 101 (Int32.toNatClampNeg (M 97 16))) &&& 255)) - 48)) 97 16) + 1)) 97 15) : Int32).toInt = (M 97 15).toInt := e813; have q1 : (((uI (uI M 97 17 (((10 * (M 97 17)) + ((M 101 (Int32.toNatClampNeg (M 97 16))) &&& 255)) - 48)) 97 16 (((uI M 97 17 (((10 * (M 97 17)) + ((M 101 (Int32.toNatClampNeg (M 97 16))) &&& 255)) - 48)) 97 16) + 1)) 97 15) : Int32).toInt = (M 97 15).toInt := e813; have q2 : (((uI (uI M 97 17 (((10 * (M 97 17)) + ((M 101 (Int32.toNatClampNeg (M 97 16))) &&& 255)) - 48)) 97 16 (((uI M 97 17 (((10 * (M 97 17)) + ((M 101 (Int32.toNatClampNeg (M 97 16))) &&& 255)) - 48)) 97 16) + 1)) 97 16) : Int32).toInt = ((M 97 16).toInt + 1) := e814; have q3 : (((uI (uI M 97 17 (((10 * (M 97 17)) + ((M 101 (Int32.toNatClampNeg (M 97 16))) &&& 255)) - 48)) 97 16 (((uI M 97 17 (((10 * (M 97 17)) + ((M 101 (Int32.toNatClampNeg (M 97 16))) &&& 255)) - 48)) 97 16) + 1)) 97 16) : Int32).toInt = ((M 97 16).toInt + 1) := e814; omega) (by have q0 : (((uI (uI M 97 17 (((10 * (M 97 17)) + ((M 101 (Int32.toNatClampNeg (M 97 16))) &&& 255)) - 48)) 97 16 (((uI M 97 17 (((10 * (M 97 17)) + ((M 101 (Int32.toNatClampNeg (M 97 16))) &&& 255)) - 48)) 97 16) + 1)) 97 16) : Int32).toInt = ((M 97 16).toInt + 1) := e814; omega)
  refine sg_X12_advance_0 hc _ _ _ ?_
  have b816 := Bd.o hB0 io9_112_97_12 bd9_12_16
  have hB815 : Bd (uI I 97 15 (I 97 16)) := Bd.o1 hB0 io9_112_97_12 (by decide) bd9_12_15 (show ((I 97 16) : Int32).toInt = (I 97 16).toInt from rfl) (by omega)
  have f817 : Fr pT I (uI I 97 15 (I 97 16)) := Fr.o (Fr.refl _ _) (by decide) (by decide)
  have e818 : (((uI I 97 15 (I 97 16)) 97 15) : Int32).toInt = (I 97 16).toInt := Eq.trans (congrArg Int32.toInt rd_eq) rfl
  exact (L 1000000).1 _ _ hB815 (rd_k (by decide)) (rd_k (by decide)) f817 (by have q0 : (((uI I 97 15 (I 97 16)) 97 15) : Int32).toInt = (I 97 16).toInt := e818; have q1 : (((uI I 97 15 (I 97 16)) 97 15) : Int32).toInt = (I 97 16).toInt := e818; omega) (by have q0 : (((uI I 97 15 (I 97 16)) 97 15) : Int32).toInt = (I 97 16).toInt := e818; omega)
set_option maxHeartbeats 2000000 in
theorem sp_X12_spelled {d : Nat} {Q : Qt} {v0 : Int32} {v1 : Int32} {v2 : Int32} {v3 : Int32} {v4 : Int32} {I : Im} {J : Jm} {R : Rm} (hB0 : Bd I) (hR0 : RI R) (hQ : ∀ (x : Int32) (y : Int64) (I2 : Im) (J2 : Jm), Bd I2 → (I2 97 12 = I 97 12 ∧ I2 97 27 = I 97 27 ∧ I2 97 14 = I 97 14 ∧ I2 97 16 = I 97 16 ∧ Fr pT I I2) → Q x y I2 J2 R) : AM (d + 1) 197 112 [.int v0, .int v1, .int v2, .int v3, .int v4] I J R Q := by
  have i_v0 := i32 v0
  have i_v1 := i32 v1
  have i_v2 := i32 v2
  have i_v3 := i32 v3
  have i_v4 := i32 v4
  refine w_X12_spelled ?_
  refine ⟨fun c1 => ?_, fun c1 => ?_⟩
  · skip
    have d2 : ((v2.toInt) : Int) ≤ (0) := ci_le rfl rfl c1
    refine ⟨fun c3 => ?_, fun c3 => ?_⟩
    · skip
      have d4 : ((v3.toInt) : Int) ≤ (0) := ci_le rfl rfl c3
      refine ⟨fun c5 => ?_, fun c5 => ?_⟩
      · skip
        have d6 : ((v4.toInt) : Int) ≤ (0) := ci_le rfl rfl c5
        exact hQ _ _ _ _ hB0 ⟨rfl, rfl, rfl, rfl, (Fr.refl _ _)⟩
      · skip
        have d7 : ((0) : Int) < (v4.toInt) := ci_nle rfl rfl c5
        exact hQ _ _ _ _ hB0 ⟨rfl, rfl, rfl, rfl, (Fr.refl _ _)⟩
    · skip
      have d8 : ((0) : Int) < (v3.toInt) := ci_nle rfl rfl c3
      refine ⟨fun c9 => ?_, fun c9 => ?_⟩
      · skip
        have d10 : ((v4.toInt) : Int) ≤ (0) := ci_le rfl rfl c9
        exact hQ _ _ _ _ hB0 ⟨rfl, rfl, rfl, rfl, (Fr.refl _ _)⟩
      · skip
        have d11 : ((0) : Int) < (v4.toInt) := ci_nle rfl rfl c9
        exact hQ _ _ _ _ hB0 ⟨rfl, rfl, rfl, rfl, (Fr.refl _ _)⟩
  · skip
    have d12 : ((0) : Int) < (v2.toInt) := ci_nle rfl rfl c1
    refine ⟨fun c13 => ?_, fun c13 => ?_⟩
    · skip
      have d14 : ((v3.toInt) : Int) ≤ (0) := ci_le rfl rfl c13
      refine ⟨fun c15 => ?_, fun c15 => ?_⟩
      · skip
        have d16 : ((v4.toInt) : Int) ≤ (0) := ci_le rfl rfl c15
        exact hQ _ _ _ _ hB0 ⟨rfl, rfl, rfl, rfl, (Fr.refl _ _)⟩
      · skip
        have d17 : ((0) : Int) < (v4.toInt) := ci_nle rfl rfl c15
        exact hQ _ _ _ _ hB0 ⟨rfl, rfl, rfl, rfl, (Fr.refl _ _)⟩
    · skip
      have d18 : ((0) : Int) < (v3.toInt) := ci_nle rfl rfl c13
      refine ⟨fun c19 => ?_, fun c19 => ?_⟩
      · skip
        have d20 : ((v4.toInt) : Int) ≤ (0) := ci_le rfl rfl c19
        exact hQ _ _ _ _ hB0 ⟨rfl, rfl, rfl, rfl, (Fr.refl _ _)⟩
      · skip
        have d21 : ((0) : Int) < (v4.toInt) := ci_nle rfl rfl c19
        exact hQ _ _ _ _ hB0 ⟨rfl, rfl, rfl, rfl, (Fr.refl _ _)⟩
set_option maxHeartbeats 2000000 in
theorem sp_X12_isWord {d : Nat} {Q : Qt} {v1 : Int64} {I : Im} {J : Jm} {R : Rm} (hB0 : Bd I) (hR0 : RI R) (hQ : ∀ (x : Int32) (y : Int64) (I2 : Im) (J2 : Jm), Bd I2 → (I2 97 12 = I 97 12 ∧ I2 97 27 = I 97 27 ∧ I2 97 14 = I 97 14 ∧ I2 97 16 = I 97 16 ∧ Fr pT I I2 ∧ (x.toInt = 0 ∨ (I 97 14).toInt = 1)) → Q x y I2 J2 R) : AM (d + 1) 198 112 [.ref 97, .long v1] I J R Q := by
  have i_v1 := i64 v1
  refine w_X12_isWord ?_
  refine ⟨fun c1 => ?_, fun c1 => ?_⟩
  · skip
    have b2 := Bd.o hB0 io9_112_97_12 bd9_12_14
    have d3 : ¬ (((I 97 14).toInt) : Int) = (1) := ci_ne rfl rfl c1
    refine ⟨Or.inl rfl, ?_⟩
    exact hQ _ _ _ _ hB0 ⟨rfl, rfl, rfl, rfl, (Fr.refl _ _), (by have q0 : (0 : Int32).toInt = 0 := rfl; omega)⟩
  · skip
    have b4 := Bd.o hB0 io9_112_97_12 bd9_12_14
    have d5 : (((I 97 14).toInt) : Int) = (1) := ci_eq rfl rfl c1
    refine ⟨fun c6 => ?_, fun c6 => ?_⟩
    · skip
      rw [lg_cmp_eq] at c6
      have d7 : ¬ ((((J 97 19) : Int64).toInt) : Int) = ((v1 : Int64).toInt) := cl_ne rfl rfl c6
      refine ⟨Or.inl rfl, ?_⟩
      exact hQ _ _ _ _ hB0 ⟨rfl, rfl, rfl, rfl, (Fr.refl _ _), (by have q0 : (0 : Int32).toInt = 0 := rfl; omega)⟩
    · skip
      rw [lg_cmp_eq] at c6
      have d8 : ((((J 97 19) : Int64).toInt) : Int) = ((v1 : Int64).toInt) := cl_eq rfl rfl c6
      refine ⟨Or.inr rfl, ?_⟩
      exact hQ _ _ _ _ hB0 ⟨rfl, rfl, rfl, rfl, (Fr.refl _ _), (by have q0 : (1 : Int32).toInt = 1 := rfl; omega)⟩
set_option maxHeartbeats 2000000 in
theorem sp_X12_isOdds {d : Nat} {Q : Qt} {I : Im} {J : Jm} {R : Rm} (hB0 : Bd I) (hR0 : RI R) (hQ : ∀ (x : Int32) (y : Int64) (I2 : Im) (J2 : Jm), Bd I2 → (I2 97 12 = I 97 12 ∧ I2 97 27 = I 97 27 ∧ I2 97 14 = I 97 14 ∧ I2 97 16 = I 97 16 ∧ Fr pT I I2 ∧ (x.toInt = 0 ∨ (I 97 14).toInt = 1)) → Q x y I2 J2 R) : AM (d + 2) 199 112 [.ref 97] I J R Q := by
  refine w_X12_isOdds ?_
  refine sp_X12_spelled hB0 hR0 (fun x1 y6 I2 J3 hB4 p5 => ?_)
  have f7 : Fr pT I I2 := p5.2.2.2.2
  have f8 : Fr pT I I2 := Fr.tr (Fr.refl _ _) f7 (fun _ _ => trivial)
  refine sp_X12_isWord hB4 hR0 (fun x9 y14 I10 J11 hB12 p13 => ?_)
  intro o15
  have f16 : Fr pT I2 I10 := p13.2.2.2.2.1
  have f17 : Fr pT I I10 := Fr.tr f8 f16 (fun _ _ => trivial)
  have b18 := Bd.o hB0 io9_112_97_12 bd9_12_14
  have e19 : ((I2 97 14) : Int32).toInt = (I 97 14).toInt := Eq.trans (congrArg Int32.toInt p5.2.2.1) rfl
  have i20 := i32 x9
  refine ⟨o15, ?_⟩
  exact hQ _ _ _ _ hB12 ⟨(Eq.trans p13.1 p5.1), (Eq.trans p13.2.1 p5.2.1), (Eq.trans p13.2.2.1 p5.2.2.1), (Eq.trans p13.2.2.2.1 p5.2.2.2.1), f17, (by have q0 : (x9 : Int32).toInt = x9.toInt := rfl; omega)⟩
set_option maxHeartbeats 2000000 in
theorem sp_X12_isStore {d : Nat} {Q : Qt} {I : Im} {J : Jm} {R : Rm} (hB0 : Bd I) (hR0 : RI R) (hQ : ∀ (x : Int32) (y : Int64) (I2 : Im) (J2 : Jm), Bd I2 → (I2 97 12 = I 97 12 ∧ I2 97 27 = I 97 27 ∧ I2 97 14 = I 97 14 ∧ I2 97 16 = I 97 16 ∧ Fr pT I I2 ∧ (x.toInt = 0 ∨ (I 97 14).toInt = 1)) → Q x y I2 J2 R) : AM (d + 2) 200 112 [.ref 97] I J R Q := by
  refine w_X12_isStore ?_
  refine sp_X12_spelled hB0 hR0 (fun x1 y6 I2 J3 hB4 p5 => ?_)
  have f7 : Fr pT I I2 := p5.2.2.2.2
  have f8 : Fr pT I I2 := Fr.tr (Fr.refl _ _) f7 (fun _ _ => trivial)
  refine sp_X12_isWord hB4 hR0 (fun x9 y14 I10 J11 hB12 p13 => ?_)
  intro o15
  have f16 : Fr pT I2 I10 := p13.2.2.2.2.1
  have f17 : Fr pT I I10 := Fr.tr f8 f16 (fun _ _ => trivial)
  have b18 := Bd.o hB0 io9_112_97_12 bd9_12_14
  have e19 : ((I2 97 14) : Int32).toInt = (I 97 14).toInt := Eq.trans (congrArg Int32.toInt p5.2.2.1) rfl
  have i20 := i32 x9
  refine ⟨o15, ?_⟩
  exact hQ _ _ _ _ hB12 ⟨(Eq.trans p13.1 p5.1), (Eq.trans p13.2.1 p5.2.1), (Eq.trans p13.2.2.1 p5.2.2.1), (Eq.trans p13.2.2.2.1 p5.2.2.2.1), f17, (by have q0 : (x9 : Int32).toInt = x9.toInt := rfl; omega)⟩
set_option maxHeartbeats 2000000 in
theorem sp_X12_isTimes {d : Nat} {Q : Qt} {I : Im} {J : Jm} {R : Rm} (hB0 : Bd I) (hR0 : RI R) (hQ : ∀ (x : Int32) (y : Int64) (I2 : Im) (J2 : Jm), Bd I2 → (I2 97 12 = I 97 12 ∧ I2 97 27 = I 97 27 ∧ I2 97 14 = I 97 14 ∧ I2 97 16 = I 97 16 ∧ Fr pT I I2 ∧ (x.toInt = 0 ∨ (I 97 14).toInt = 1)) → Q x y I2 J2 R) : AM (d + 2) 201 112 [.ref 97] I J R Q := by
  refine w_X12_isTimes ?_
  refine sp_X12_spelled hB0 hR0 (fun x1 y6 I2 J3 hB4 p5 => ?_)
  have f7 : Fr pT I I2 := p5.2.2.2.2
  have f8 : Fr pT I I2 := Fr.tr (Fr.refl _ _) f7 (fun _ _ => trivial)
  refine sp_X12_isWord hB4 hR0 (fun x9 y14 I10 J11 hB12 p13 => ?_)
  intro o15
  have f16 : Fr pT I2 I10 := p13.2.2.2.2.1
  have f17 : Fr pT I I10 := Fr.tr f8 f16 (fun _ _ => trivial)
  have b18 := Bd.o hB0 io9_112_97_12 bd9_12_14
  have e19 : ((I2 97 14) : Int32).toInt = (I 97 14).toInt := Eq.trans (congrArg Int32.toInt p5.2.2.1) rfl
  have i20 := i32 x9
  refine ⟨o15, ?_⟩
  exact hQ _ _ _ _ hB12 ⟨(Eq.trans p13.1 p5.1), (Eq.trans p13.2.1 p5.2.1), (Eq.trans p13.2.2.1 p5.2.2.1), (Eq.trans p13.2.2.2.1 p5.2.2.2.1), f17, (by have q0 : (x9 : Int32).toInt = x9.toInt := rfl; omega)⟩
set_option maxHeartbeats 2000000 in
theorem sp_X12_isMan {d : Nat} {Q : Qt} {I : Im} {J : Jm} {R : Rm} (hB0 : Bd I) (hR0 : RI R) (hQ : ∀ (x : Int32) (y : Int64) (I2 : Im) (J2 : Jm), Bd I2 → (I2 97 12 = I 97 12 ∧ I2 97 27 = I 97 27 ∧ I2 97 14 = I 97 14 ∧ I2 97 16 = I 97 16 ∧ Fr pT I I2 ∧ (x.toInt = 0 ∨ (I 97 14).toInt = 1)) → Q x y I2 J2 R) : AM (d + 2) 202 112 [.ref 97] I J R Q := by
  refine w_X12_isMan ?_
  refine sp_X12_spelled hB0 hR0 (fun x1 y6 I2 J3 hB4 p5 => ?_)
  have f7 : Fr pT I I2 := p5.2.2.2.2
  have f8 : Fr pT I I2 := Fr.tr (Fr.refl _ _) f7 (fun _ _ => trivial)
  refine sp_X12_isWord hB4 hR0 (fun x9 y14 I10 J11 hB12 p13 => ?_)
  intro o15
  have f16 : Fr pT I2 I10 := p13.2.2.2.2.1
  have f17 : Fr pT I I10 := Fr.tr f8 f16 (fun _ _ => trivial)
  have b18 := Bd.o hB0 io9_112_97_12 bd9_12_14
  have e19 : ((I2 97 14) : Int32).toInt = (I 97 14).toInt := Eq.trans (congrArg Int32.toInt p5.2.2.1) rfl
  have i20 := i32 x9
  refine ⟨o15, ?_⟩
  exact hQ _ _ _ _ hB12 ⟨(Eq.trans p13.1 p5.1), (Eq.trans p13.2.1 p5.2.1), (Eq.trans p13.2.2.1 p5.2.2.1), (Eq.trans p13.2.2.2.1 p5.2.2.2.1), f17, (by have q0 : (x9 : Int32).toInt = x9.toInt := rfl; omega)⟩
set_option maxHeartbeats 2000000 in
theorem sp_X12_isDue {d : Nat} {Q : Qt} {I : Im} {J : Jm} {R : Rm} (hB0 : Bd I) (hR0 : RI R) (hQ : ∀ (x : Int32) (y : Int64) (I2 : Im) (J2 : Jm), Bd I2 → (I2 97 12 = I 97 12 ∧ I2 97 27 = I 97 27 ∧ I2 97 14 = I 97 14 ∧ I2 97 16 = I 97 16 ∧ Fr pT I I2 ∧ (x.toInt = 0 ∨ (I 97 14).toInt = 1)) → Q x y I2 J2 R) : AM (d + 2) 203 112 [.ref 97] I J R Q := by
  refine w_X12_isDue ?_
  refine sp_X12_spelled hB0 hR0 (fun x1 y6 I2 J3 hB4 p5 => ?_)
  have f7 : Fr pT I I2 := p5.2.2.2.2
  have f8 : Fr pT I I2 := Fr.tr (Fr.refl _ _) f7 (fun _ _ => trivial)
  refine sp_X12_isWord hB4 hR0 (fun x9 y14 I10 J11 hB12 p13 => ?_)
  intro o15
  have f16 : Fr pT I2 I10 := p13.2.2.2.2.1
  have f17 : Fr pT I I10 := Fr.tr f8 f16 (fun _ _ => trivial)
  have b18 := Bd.o hB0 io9_112_97_12 bd9_12_14
  have e19 : ((I2 97 14) : Int32).toInt = (I 97 14).toInt := Eq.trans (congrArg Int32.toInt p5.2.2.1) rfl
  have i20 := i32 x9
  refine ⟨o15, ?_⟩
  exact hQ _ _ _ _ hB12 ⟨(Eq.trans p13.1 p5.1), (Eq.trans p13.2.1 p5.2.1), (Eq.trans p13.2.2.1 p5.2.2.1), (Eq.trans p13.2.2.2.1 p5.2.2.2.1), f17, (by have q0 : (x9 : Int32).toInt = x9.toInt := rfl; omega)⟩
set_option maxHeartbeats 2000000 in
theorem sp_X12_isBy {d : Nat} {Q : Qt} {I : Im} {J : Jm} {R : Rm} (hB0 : Bd I) (hR0 : RI R) (hQ : ∀ (x : Int32) (y : Int64) (I2 : Im) (J2 : Jm), Bd I2 → (I2 97 12 = I 97 12 ∧ I2 97 27 = I 97 27 ∧ I2 97 14 = I 97 14 ∧ I2 97 16 = I 97 16 ∧ Fr pT I I2 ∧ (x.toInt = 0 ∨ (I 97 14).toInt = 1)) → Q x y I2 J2 R) : AM (d + 2) 204 112 [.ref 97] I J R Q := by
  refine w_X12_isBy ?_
  refine sp_X12_spelled hB0 hR0 (fun x1 y6 I2 J3 hB4 p5 => ?_)
  have f7 : Fr pT I I2 := p5.2.2.2.2
  have f8 : Fr pT I I2 := Fr.tr (Fr.refl _ _) f7 (fun _ _ => trivial)
  refine sp_X12_isWord hB4 hR0 (fun x9 y14 I10 J11 hB12 p13 => ?_)
  intro o15
  have f16 : Fr pT I2 I10 := p13.2.2.2.2.1
  have f17 : Fr pT I I10 := Fr.tr f8 f16 (fun _ _ => trivial)
  have b18 := Bd.o hB0 io9_112_97_12 bd9_12_14
  have e19 : ((I2 97 14) : Int32).toInt = (I 97 14).toInt := Eq.trans (congrArg Int32.toInt p5.2.2.1) rfl
  have i20 := i32 x9
  refine ⟨o15, ?_⟩
  exact hQ _ _ _ _ hB12 ⟨(Eq.trans p13.1 p5.1), (Eq.trans p13.2.1 p5.2.1), (Eq.trans p13.2.2.1 p5.2.2.1), (Eq.trans p13.2.2.2.1 p5.2.2.2.1), f17, (by have q0 : (x9 : Int32).toInt = x9.toInt := rfl; omega)⟩
set_option maxHeartbeats 2000000 in
theorem sp_X12_isHas {d : Nat} {Q : Qt} {I : Im} {J : Jm} {R : Rm} (hB0 : Bd I) (hR0 : RI R) (hQ : ∀ (x : Int32) (y : Int64) (I2 : Im) (J2 : Jm), Bd I2 → (I2 97 12 = I 97 12 ∧ I2 97 27 = I 97 27 ∧ I2 97 14 = I 97 14 ∧ I2 97 16 = I 97 16 ∧ Fr pT I I2 ∧ (x.toInt = 0 ∨ (I 97 14).toInt = 1)) → Q x y I2 J2 R) : AM (d + 2) 205 112 [.ref 97] I J R Q := by
  refine w_X12_isHas ?_
  refine sp_X12_spelled hB0 hR0 (fun x1 y6 I2 J3 hB4 p5 => ?_)
  have f7 : Fr pT I I2 := p5.2.2.2.2
  have f8 : Fr pT I I2 := Fr.tr (Fr.refl _ _) f7 (fun _ _ => trivial)
  refine sp_X12_isWord hB4 hR0 (fun x9 y14 I10 J11 hB12 p13 => ?_)
  intro o15
  have f16 : Fr pT I2 I10 := p13.2.2.2.2.1
  have f17 : Fr pT I I10 := Fr.tr f8 f16 (fun _ _ => trivial)
  have b18 := Bd.o hB0 io9_112_97_12 bd9_12_14
  have e19 : ((I2 97 14) : Int32).toInt = (I 97 14).toInt := Eq.trans (congrArg Int32.toInt p5.2.2.1) rfl
  have i20 := i32 x9
  refine ⟨o15, ?_⟩
  exact hQ _ _ _ _ hB12 ⟨(Eq.trans p13.1 p5.1), (Eq.trans p13.2.1 p5.2.1), (Eq.trans p13.2.2.1 p5.2.2.1), (Eq.trans p13.2.2.2.1 p5.2.2.2.1), f17, (by have q0 : (x9 : Int32).toInt = x9.toInt := rfl; omega)⟩
set_option maxHeartbeats 2000000 in
theorem sp_X12_isKnown {d : Nat} {Q : Qt} {I : Im} {J : Jm} {R : Rm} (hB0 : Bd I) (hR0 : RI R) (hQ : ∀ (x : Int32) (y : Int64) (I2 : Im) (J2 : Jm), Bd I2 → (I2 97 12 = I 97 12 ∧ I2 97 27 = I 97 27 ∧ I2 97 14 = I 97 14 ∧ I2 97 16 = I 97 16 ∧ Fr pT I I2 ∧ (x.toInt = 0 ∨ (I 97 14).toInt = 1)) → Q x y I2 J2 R) : AM (d + 2) 206 112 [.ref 97] I J R Q := by
  refine w_X12_isKnown ?_
  refine sp_X12_spelled hB0 hR0 (fun x1 y6 I2 J3 hB4 p5 => ?_)
  have f7 : Fr pT I I2 := p5.2.2.2.2
  have f8 : Fr pT I I2 := Fr.tr (Fr.refl _ _) f7 (fun _ _ => trivial)
  refine sp_X12_isWord hB4 hR0 (fun x9 y14 I10 J11 hB12 p13 => ?_)
  intro o15
  have f16 : Fr pT I2 I10 := p13.2.2.2.2.1
  have f17 : Fr pT I I10 := Fr.tr f8 f16 (fun _ _ => trivial)
  have b18 := Bd.o hB0 io9_112_97_12 bd9_12_14
  have e19 : ((I2 97 14) : Int32).toInt = (I 97 14).toInt := Eq.trans (congrArg Int32.toInt p5.2.2.1) rfl
  have i20 := i32 x9
  refine ⟨o15, ?_⟩
  exact hQ _ _ _ _ hB12 ⟨(Eq.trans p13.1 p5.1), (Eq.trans p13.2.1 p5.2.1), (Eq.trans p13.2.2.1 p5.2.2.1), (Eq.trans p13.2.2.2.1 p5.2.2.2.1), f17, (by have q0 : (x9 : Int32).toInt = x9.toInt := rfl; omega)⟩
set_option maxHeartbeats 2000000 in
theorem sp_X12_isEnd {d : Nat} {Q : Qt} {I : Im} {J : Jm} {R : Rm} (hB0 : Bd I) (hR0 : RI R) (hQ : ∀ (x : Int32) (y : Int64) (I2 : Im) (J2 : Jm), Bd I2 → (I2 97 12 = I 97 12 ∧ I2 97 27 = I 97 27 ∧ I2 97 14 = I 97 14 ∧ I2 97 16 = I 97 16 ∧ Fr pT I I2 ∧ (x.toInt = 0 ∨ (I 97 14).toInt = 1)) → Q x y I2 J2 R) : AM (d + 2) 209 112 [.ref 97] I J R Q := by
  refine w_X12_isEnd ?_
  refine sp_X12_spelled hB0 hR0 (fun x1 y6 I2 J3 hB4 p5 => ?_)
  have f7 : Fr pT I I2 := p5.2.2.2.2
  have f8 : Fr pT I I2 := Fr.tr (Fr.refl _ _) f7 (fun _ _ => trivial)
  refine sp_X12_isWord hB4 hR0 (fun x9 y14 I10 J11 hB12 p13 => ?_)
  intro o15
  have f16 : Fr pT I2 I10 := p13.2.2.2.2.1
  have f17 : Fr pT I I10 := Fr.tr f8 f16 (fun _ _ => trivial)
  have b18 := Bd.o hB0 io9_112_97_12 bd9_12_14
  have e19 : ((I2 97 14) : Int32).toInt = (I 97 14).toInt := Eq.trans (congrArg Int32.toInt p5.2.2.1) rfl
  have i20 := i32 x9
  refine ⟨o15, ?_⟩
  exact hQ _ _ _ _ hB12 ⟨(Eq.trans p13.1 p5.1), (Eq.trans p13.2.1 p5.2.1), (Eq.trans p13.2.2.1 p5.2.2.1), (Eq.trans p13.2.2.2.1 p5.2.2.2.1), f17, (by have q0 : (x9 : Int32).toInt = x9.toInt := rfl; omega)⟩
set_option maxHeartbeats 2000000 in
theorem sp_X12_stepWord {d : Nat} {Q : Qt} {I : Im} {J : Jm} {R : Rm} (hB0 : Bd I) (hR0 : RI R) (hQ : ∀ (x : Int32) (y : Int64) (I2 : Im) (J2 : Jm), Bd I2 → (I2 97 12 = I 97 12 ∧ I2 97 27 = I 97 27 ∧ I2 97 14 = I 97 14 ∧ I2 97 16 = I 97 16 ∧ Fr pT I I2 ∧ (-1 ≤ x.toInt ∧ x.toInt ≤ 8 ∧ (x.toInt = -1 ∨ (I 97 14).toInt = 1))) → Q x y I2 J2 R) : AM (d + 2) 207 112 [.ref 97] I J R Q := by
  refine w_X12_stepWord ?_
  refine sp_X12_spelled hB0 hR0 (fun x1 y6 I2 J3 hB4 p5 => ?_)
  have f7 : Fr pT I I2 := p5.2.2.2.2
  have f8 : Fr pT I I2 := Fr.tr (Fr.refl _ _) f7 (fun _ _ => trivial)
  refine sp_X12_isWord hB4 hR0 (fun x9 y14 I10 J11 hB12 p13 => ?_)
  intro o15
  have f16 : Fr pT I2 I10 := p13.2.2.2.2.1
  have f17 : Fr pT I I10 := Fr.tr f8 f16 (fun _ _ => trivial)
  have b18 := Bd.o hB0 io9_112_97_12 bd9_12_14
  have e19 : ((I2 97 14) : Int32).toInt = (I 97 14).toInt := Eq.trans (congrArg Int32.toInt p5.2.2.1) rfl
  have i20 := i32 x9
  refine ⟨fun c21 => ?_, fun c21 => ?_⟩
  · skip
    have d22 : ((x9.toInt) : Int) = (0) := ci_eq rfl rfl c21
    refine sp_X12_spelled hB12 hR0 (fun x23 y28 I24 J25 hB26 p27 => ?_)
    have f29 : Fr pT I10 I24 := p27.2.2.2.2
    have f30 : Fr pT I I24 := Fr.tr f17 f29 (fun _ _ => trivial)
    refine sp_X12_isWord hB26 hR0 (fun x31 y36 I32 J33 hB34 p35 => ?_)
    intro o37
    have f38 : Fr pT I24 I32 := p35.2.2.2.2.1
    have f39 : Fr pT I I32 := Fr.tr f30 f38 (fun _ _ => trivial)
    have e40 : ((I24 97 14) : Int32).toInt = (I 97 14).toInt := Eq.trans (congrArg Int32.toInt (Eq.trans (Eq.trans p27.2.2.1 p13.2.2.1) p5.2.2.1)) rfl
    have i41 := i32 x31
    refine ⟨fun c42 => ?_, fun c42 => ?_⟩
    · skip
      have d43 : ((x31.toInt) : Int) = (0) := ci_eq rfl rfl c42
      refine sp_X12_spelled hB34 hR0 (fun x44 y49 I45 J46 hB47 p48 => ?_)
      have f50 : Fr pT I32 I45 := p48.2.2.2.2
      have f51 : Fr pT I I45 := Fr.tr f39 f50 (fun _ _ => trivial)
      refine sp_X12_isWord hB47 hR0 (fun x52 y57 I53 J54 hB55 p56 => ?_)
      intro o58
      have f59 : Fr pT I45 I53 := p56.2.2.2.2.1
      have f60 : Fr pT I I53 := Fr.tr f51 f59 (fun _ _ => trivial)
      have e61 : ((I45 97 14) : Int32).toInt = (I 97 14).toInt := Eq.trans (congrArg Int32.toInt (Eq.trans (Eq.trans (Eq.trans (Eq.trans p48.2.2.1 p35.2.2.1) p27.2.2.1) p13.2.2.1) p5.2.2.1)) rfl
      have i62 := i32 x52
      refine ⟨fun c63 => ?_, fun c63 => ?_⟩
      · skip
        have d64 : ((x52.toInt) : Int) = (0) := ci_eq rfl rfl c63
        refine sp_X12_spelled hB55 hR0 (fun x65 y70 I66 J67 hB68 p69 => ?_)
        have f71 : Fr pT I53 I66 := p69.2.2.2.2
        have f72 : Fr pT I I66 := Fr.tr f60 f71 (fun _ _ => trivial)
        refine sp_X12_isWord hB68 hR0 (fun x73 y78 I74 J75 hB76 p77 => ?_)
        intro o79
        have f80 : Fr pT I66 I74 := p77.2.2.2.2.1
        have f81 : Fr pT I I74 := Fr.tr f72 f80 (fun _ _ => trivial)
        have e82 : ((I66 97 14) : Int32).toInt = (I 97 14).toInt := Eq.trans (congrArg Int32.toInt (Eq.trans (Eq.trans (Eq.trans (Eq.trans (Eq.trans (Eq.trans p69.2.2.1 p56.2.2.1) p48.2.2.1) p35.2.2.1) p27.2.2.1) p13.2.2.1) p5.2.2.1)) rfl
        have i83 := i32 x73
        refine ⟨fun c84 => ?_, fun c84 => ?_⟩
        · skip
          have d85 : ((x73.toInt) : Int) = (0) := ci_eq rfl rfl c84
          refine sp_X12_spelled hB76 hR0 (fun x86 y91 I87 J88 hB89 p90 => ?_)
          have f92 : Fr pT I74 I87 := p90.2.2.2.2
          have f93 : Fr pT I I87 := Fr.tr f81 f92 (fun _ _ => trivial)
          refine sp_X12_isWord hB89 hR0 (fun x94 y99 I95 J96 hB97 p98 => ?_)
          intro o100
          have f101 : Fr pT I87 I95 := p98.2.2.2.2.1
          have f102 : Fr pT I I95 := Fr.tr f93 f101 (fun _ _ => trivial)
          have e103 : ((I87 97 14) : Int32).toInt = (I 97 14).toInt := Eq.trans (congrArg Int32.toInt (Eq.trans (Eq.trans (Eq.trans (Eq.trans (Eq.trans (Eq.trans (Eq.trans (Eq.trans p90.2.2.1 p77.2.2.1) p69.2.2.1) p56.2.2.1) p48.2.2.1) p35.2.2.1) p27.2.2.1) p13.2.2.1) p5.2.2.1)) rfl
          have i104 := i32 x94
          refine ⟨fun c105 => ?_, fun c105 => ?_⟩
          · skip
            have d106 : ((x94.toInt) : Int) = (0) := ci_eq rfl rfl c105
            refine sp_X12_spelled hB97 hR0 (fun x107 y112 I108 J109 hB110 p111 => ?_)
            have f113 : Fr pT I95 I108 := p111.2.2.2.2
            have f114 : Fr pT I I108 := Fr.tr f102 f113 (fun _ _ => trivial)
            refine sp_X12_isWord hB110 hR0 (fun x115 y120 I116 J117 hB118 p119 => ?_)
            intro o121
            have f122 : Fr pT I108 I116 := p119.2.2.2.2.1
            have f123 : Fr pT I I116 := Fr.tr f114 f122 (fun _ _ => trivial)
            have e124 : ((I108 97 14) : Int32).toInt = (I 97 14).toInt := Eq.trans (congrArg Int32.toInt (Eq.trans (Eq.trans (Eq.trans (Eq.trans (Eq.trans (Eq.trans (Eq.trans (Eq.trans (Eq.trans (Eq.trans p111.2.2.1 p98.2.2.1) p90.2.2.1) p77.2.2.1) p69.2.2.1) p56.2.2.1) p48.2.2.1) p35.2.2.1) p27.2.2.1) p13.2.2.1) p5.2.2.1)) rfl
            have i125 := i32 x115
            refine ⟨fun c126 => ?_, fun c126 => ?_⟩
            · skip
              have d127 : ((x115.toInt) : Int) = (0) := ci_eq rfl rfl c126
              refine sp_X12_spelled hB118 hR0 (fun x128 y133 I129 J130 hB131 p132 => ?_)
              have f134 : Fr pT I116 I129 := p132.2.2.2.2
              have f135 : Fr pT I I129 := Fr.tr f123 f134 (fun _ _ => trivial)
              refine sp_X12_isWord hB131 hR0 (fun x136 y141 I137 J138 hB139 p140 => ?_)
              intro o142
              have f143 : Fr pT I129 I137 := p140.2.2.2.2.1
              have f144 : Fr pT I I137 := Fr.tr f135 f143 (fun _ _ => trivial)
              have e145 : ((I129 97 14) : Int32).toInt = (I 97 14).toInt := Eq.trans (congrArg Int32.toInt (Eq.trans (Eq.trans (Eq.trans (Eq.trans (Eq.trans (Eq.trans (Eq.trans (Eq.trans (Eq.trans (Eq.trans (Eq.trans (Eq.trans p132.2.2.1 p119.2.2.1) p111.2.2.1) p98.2.2.1) p90.2.2.1) p77.2.2.1) p69.2.2.1) p56.2.2.1) p48.2.2.1) p35.2.2.1) p27.2.2.1) p13.2.2.1) p5.2.2.1)) rfl
              have i146 := i32 x136
              refine ⟨fun c147 => ?_, fun c147 => ?_⟩
              · skip
                have d148 : ((x136.toInt) : Int) = (0) := ci_eq rfl rfl c147
                refine sp_X12_spelled hB139 hR0 (fun x149 y154 I150 J151 hB152 p153 => ?_)
                have f155 : Fr pT I137 I150 := p153.2.2.2.2
                have f156 : Fr pT I I150 := Fr.tr f144 f155 (fun _ _ => trivial)
                refine sp_X12_isWord hB152 hR0 (fun x157 y162 I158 J159 hB160 p161 => ?_)
                intro o163
                have f164 : Fr pT I150 I158 := p161.2.2.2.2.1
                have f165 : Fr pT I I158 := Fr.tr f156 f164 (fun _ _ => trivial)
                have e166 : ((I150 97 14) : Int32).toInt = (I 97 14).toInt := Eq.trans (congrArg Int32.toInt (Eq.trans (Eq.trans (Eq.trans (Eq.trans (Eq.trans (Eq.trans (Eq.trans (Eq.trans (Eq.trans (Eq.trans (Eq.trans (Eq.trans (Eq.trans (Eq.trans p153.2.2.1 p140.2.2.1) p132.2.2.1) p119.2.2.1) p111.2.2.1) p98.2.2.1) p90.2.2.1) p77.2.2.1) p69.2.2.1) p56.2.2.1) p48.2.2.1) p35.2.2.1) p27.2.2.1) p13.2.2.1) p5.2.2.1)) rfl
                have i167 := i32 x157
                refine ⟨fun c168 => ?_, fun c168 => ?_⟩
                · skip
                  have d169 : ((x157.toInt) : Int) = (0) := ci_eq rfl rfl c168
                  refine sp_X12_spelled hB160 hR0 (fun x170 y175 I171 J172 hB173 p174 => ?_)
                  have f176 : Fr pT I158 I171 := p174.2.2.2.2
                  have f177 : Fr pT I I171 := Fr.tr f165 f176 (fun _ _ => trivial)
                  refine sp_X12_isWord hB173 hR0 (fun x178 y183 I179 J180 hB181 p182 => ?_)
                  intro o184
                  have f185 : Fr pT I171 I179 := p182.2.2.2.2.1
                  have f186 : Fr pT I I179 := Fr.tr f177 f185 (fun _ _ => trivial)
                  have e187 : ((I171 97 14) : Int32).toInt = (I 97 14).toInt := Eq.trans (congrArg Int32.toInt (Eq.trans (Eq.trans (Eq.trans (Eq.trans (Eq.trans (Eq.trans (Eq.trans (Eq.trans (Eq.trans (Eq.trans (Eq.trans (Eq.trans (Eq.trans (Eq.trans (Eq.trans (Eq.trans p174.2.2.1 p161.2.2.1) p153.2.2.1) p140.2.2.1) p132.2.2.1) p119.2.2.1) p111.2.2.1) p98.2.2.1) p90.2.2.1) p77.2.2.1) p69.2.2.1) p56.2.2.1) p48.2.2.1) p35.2.2.1) p27.2.2.1) p13.2.2.1) p5.2.2.1)) rfl
                  have i188 := i32 x178
                  refine ⟨fun c189 => ?_, fun c189 => ?_⟩
                  · skip
                    have d190 : ((x178.toInt) : Int) = (0) := ci_eq rfl rfl c189
                    exact hQ _ _ _ _ hB181 ⟨(Eq.trans (Eq.trans (Eq.trans (Eq.trans (Eq.trans (Eq.trans (Eq.trans (Eq.trans (Eq.trans (Eq.trans (Eq.trans (Eq.trans (Eq.trans (Eq.trans (Eq.trans (Eq.trans (Eq.trans p182.1 p174.1) p161.1) p153.1) p140.1) p132.1) p119.1) p111.1) p98.1) p90.1) p77.1) p69.1) p56.1) p48.1) p35.1) p27.1) p13.1) p5.1), (Eq.trans (Eq.trans (Eq.trans (Eq.trans (Eq.trans (Eq.trans (Eq.trans (Eq.trans (Eq.trans (Eq.trans (Eq.trans (Eq.trans (Eq.trans (Eq.trans (Eq.trans (Eq.trans (Eq.trans p182.2.1 p174.2.1) p161.2.1) p153.2.1) p140.2.1) p132.2.1) p119.2.1) p111.2.1) p98.2.1) p90.2.1) p77.2.1) p69.2.1) p56.2.1) p48.2.1) p35.2.1) p27.2.1) p13.2.1) p5.2.1), (Eq.trans (Eq.trans (Eq.trans (Eq.trans (Eq.trans (Eq.trans (Eq.trans (Eq.trans (Eq.trans (Eq.trans (Eq.trans (Eq.trans (Eq.trans (Eq.trans (Eq.trans (Eq.trans (Eq.trans p182.2.2.1 p174.2.2.1) p161.2.2.1) p153.2.2.1) p140.2.2.1) p132.2.2.1) p119.2.2.1) p111.2.2.1) p98.2.2.1) p90.2.2.1) p77.2.2.1) p69.2.2.1) p56.2.2.1) p48.2.2.1) p35.2.2.1) p27.2.2.1) p13.2.2.1) p5.2.2.1), (Eq.trans (Eq.trans (Eq.trans (Eq.trans (Eq.trans (Eq.trans (Eq.trans (Eq.trans (Eq.trans (Eq.trans (Eq.trans (Eq.trans (Eq.trans (Eq.trans (Eq.trans (Eq.trans (Eq.trans p182.2.2.2.1 p174.2.2.2.1) p161.2.2.2.1) p153.2.2.2.1) p140.2.2.2.1) p132.2.2.2.1) p119.2.2.2.1) p111.2.2.2.1) p98.2.2.2.1) p90.2.2.2.1) p77.2.2.2.1) p69.2.2.2.1) p56.2.2.2.1) p48.2.2.2.1) p35.2.2.2.1) p27.2.2.2.1) p13.2.2.2.1) p5.2.2.2.1), f186, (by have q0 : ((-1) : Int32).toInt = (-1) := rfl; omega)⟩
                  · skip
                    have d191 : ¬ ((x178.toInt) : Int) = (0) := ci_ne rfl rfl c189
                    exact hQ _ _ _ _ hB181 ⟨(Eq.trans (Eq.trans (Eq.trans (Eq.trans (Eq.trans (Eq.trans (Eq.trans (Eq.trans (Eq.trans (Eq.trans (Eq.trans (Eq.trans (Eq.trans (Eq.trans (Eq.trans (Eq.trans (Eq.trans p182.1 p174.1) p161.1) p153.1) p140.1) p132.1) p119.1) p111.1) p98.1) p90.1) p77.1) p69.1) p56.1) p48.1) p35.1) p27.1) p13.1) p5.1), (Eq.trans (Eq.trans (Eq.trans (Eq.trans (Eq.trans (Eq.trans (Eq.trans (Eq.trans (Eq.trans (Eq.trans (Eq.trans (Eq.trans (Eq.trans (Eq.trans (Eq.trans (Eq.trans (Eq.trans p182.2.1 p174.2.1) p161.2.1) p153.2.1) p140.2.1) p132.2.1) p119.2.1) p111.2.1) p98.2.1) p90.2.1) p77.2.1) p69.2.1) p56.2.1) p48.2.1) p35.2.1) p27.2.1) p13.2.1) p5.2.1), (Eq.trans (Eq.trans (Eq.trans (Eq.trans (Eq.trans (Eq.trans (Eq.trans (Eq.trans (Eq.trans (Eq.trans (Eq.trans (Eq.trans (Eq.trans (Eq.trans (Eq.trans (Eq.trans (Eq.trans p182.2.2.1 p174.2.2.1) p161.2.2.1) p153.2.2.1) p140.2.2.1) p132.2.2.1) p119.2.2.1) p111.2.2.1) p98.2.2.1) p90.2.2.1) p77.2.2.1) p69.2.2.1) p56.2.2.1) p48.2.2.1) p35.2.2.1) p27.2.2.1) p13.2.2.1) p5.2.2.1), (Eq.trans (Eq.trans (Eq.trans (Eq.trans (Eq.trans (Eq.trans (Eq.trans (Eq.trans (Eq.trans (Eq.trans (Eq.trans (Eq.trans (Eq.trans (Eq.trans (Eq.trans (Eq.trans (Eq.trans p182.2.2.2.1 p174.2.2.2.1) p161.2.2.2.1) p153.2.2.2.1) p140.2.2.2.1) p132.2.2.2.1) p119.2.2.2.1) p111.2.2.2.1) p98.2.2.2.1) p90.2.2.2.1) p77.2.2.2.1) p69.2.2.2.1) p56.2.2.2.1) p48.2.2.2.1) p35.2.2.2.1) p27.2.2.2.1) p13.2.2.2.1) p5.2.2.2.1), f186, (by have q0 : (8 : Int32).toInt = 8 := rfl; omega)⟩
                · skip
                  have d192 : ¬ ((x157.toInt) : Int) = (0) := ci_ne rfl rfl c168
                  exact hQ _ _ _ _ hB160 ⟨(Eq.trans (Eq.trans (Eq.trans (Eq.trans (Eq.trans (Eq.trans (Eq.trans (Eq.trans (Eq.trans (Eq.trans (Eq.trans (Eq.trans (Eq.trans (Eq.trans (Eq.trans p161.1 p153.1) p140.1) p132.1) p119.1) p111.1) p98.1) p90.1) p77.1) p69.1) p56.1) p48.1) p35.1) p27.1) p13.1) p5.1), (Eq.trans (Eq.trans (Eq.trans (Eq.trans (Eq.trans (Eq.trans (Eq.trans (Eq.trans (Eq.trans (Eq.trans (Eq.trans (Eq.trans (Eq.trans (Eq.trans (Eq.trans p161.2.1 p153.2.1) p140.2.1) p132.2.1) p119.2.1) p111.2.1) p98.2.1) p90.2.1) p77.2.1) p69.2.1) p56.2.1) p48.2.1) p35.2.1) p27.2.1) p13.2.1) p5.2.1), (Eq.trans (Eq.trans (Eq.trans (Eq.trans (Eq.trans (Eq.trans (Eq.trans (Eq.trans (Eq.trans (Eq.trans (Eq.trans (Eq.trans (Eq.trans (Eq.trans (Eq.trans p161.2.2.1 p153.2.2.1) p140.2.2.1) p132.2.2.1) p119.2.2.1) p111.2.2.1) p98.2.2.1) p90.2.2.1) p77.2.2.1) p69.2.2.1) p56.2.2.1) p48.2.2.1) p35.2.2.1) p27.2.2.1) p13.2.2.1) p5.2.2.1), (Eq.trans (Eq.trans (Eq.trans (Eq.trans (Eq.trans (Eq.trans (Eq.trans (Eq.trans (Eq.trans (Eq.trans (Eq.trans (Eq.trans (Eq.trans (Eq.trans (Eq.trans p161.2.2.2.1 p153.2.2.2.1) p140.2.2.2.1) p132.2.2.2.1) p119.2.2.2.1) p111.2.2.2.1) p98.2.2.2.1) p90.2.2.2.1) p77.2.2.2.1) p69.2.2.2.1) p56.2.2.2.1) p48.2.2.2.1) p35.2.2.2.1) p27.2.2.2.1) p13.2.2.2.1) p5.2.2.2.1), f165, (by have q0 : (7 : Int32).toInt = 7 := rfl; omega)⟩
              · skip
                have d193 : ¬ ((x136.toInt) : Int) = (0) := ci_ne rfl rfl c147
                exact hQ _ _ _ _ hB139 ⟨(Eq.trans (Eq.trans (Eq.trans (Eq.trans (Eq.trans (Eq.trans (Eq.trans (Eq.trans (Eq.trans (Eq.trans (Eq.trans (Eq.trans (Eq.trans p140.1 p132.1) p119.1) p111.1) p98.1) p90.1) p77.1) p69.1) p56.1) p48.1) p35.1) p27.1) p13.1) p5.1), (Eq.trans (Eq.trans (Eq.trans (Eq.trans (Eq.trans (Eq.trans (Eq.trans (Eq.trans (Eq.trans (Eq.trans (Eq.trans (Eq.trans (Eq.trans p140.2.1 p132.2.1) p119.2.1) p111.2.1) p98.2.1) p90.2.1) p77.2.1) p69.2.1) p56.2.1) p48.2.1) p35.2.1) p27.2.1) p13.2.1) p5.2.1), (Eq.trans (Eq.trans (Eq.trans (Eq.trans (Eq.trans (Eq.trans (Eq.trans (Eq.trans (Eq.trans (Eq.trans (Eq.trans (Eq.trans (Eq.trans p140.2.2.1 p132.2.2.1) p119.2.2.1) p111.2.2.1) p98.2.2.1) p90.2.2.1) p77.2.2.1) p69.2.2.1) p56.2.2.1) p48.2.2.1) p35.2.2.1) p27.2.2.1) p13.2.2.1) p5.2.2.1), (Eq.trans (Eq.trans (Eq.trans (Eq.trans (Eq.trans (Eq.trans (Eq.trans (Eq.trans (Eq.trans (Eq.trans (Eq.trans (Eq.trans (Eq.trans p140.2.2.2.1 p132.2.2.2.1) p119.2.2.2.1) p111.2.2.2.1) p98.2.2.2.1) p90.2.2.2.1) p77.2.2.2.1) p69.2.2.2.1) p56.2.2.2.1) p48.2.2.2.1) p35.2.2.2.1) p27.2.2.2.1) p13.2.2.2.1) p5.2.2.2.1), f144, (by have q0 : (6 : Int32).toInt = 6 := rfl; omega)⟩
            · skip
              have d194 : ¬ ((x115.toInt) : Int) = (0) := ci_ne rfl rfl c126
              exact hQ _ _ _ _ hB118 ⟨(Eq.trans (Eq.trans (Eq.trans (Eq.trans (Eq.trans (Eq.trans (Eq.trans (Eq.trans (Eq.trans (Eq.trans (Eq.trans p119.1 p111.1) p98.1) p90.1) p77.1) p69.1) p56.1) p48.1) p35.1) p27.1) p13.1) p5.1), (Eq.trans (Eq.trans (Eq.trans (Eq.trans (Eq.trans (Eq.trans (Eq.trans (Eq.trans (Eq.trans (Eq.trans (Eq.trans p119.2.1 p111.2.1) p98.2.1) p90.2.1) p77.2.1) p69.2.1) p56.2.1) p48.2.1) p35.2.1) p27.2.1) p13.2.1) p5.2.1), (Eq.trans (Eq.trans (Eq.trans (Eq.trans (Eq.trans (Eq.trans (Eq.trans (Eq.trans (Eq.trans (Eq.trans (Eq.trans p119.2.2.1 p111.2.2.1) p98.2.2.1) p90.2.2.1) p77.2.2.1) p69.2.2.1) p56.2.2.1) p48.2.2.1) p35.2.2.1) p27.2.2.1) p13.2.2.1) p5.2.2.1), (Eq.trans (Eq.trans (Eq.trans (Eq.trans (Eq.trans (Eq.trans (Eq.trans (Eq.trans (Eq.trans (Eq.trans (Eq.trans p119.2.2.2.1 p111.2.2.2.1) p98.2.2.2.1) p90.2.2.2.1) p77.2.2.2.1) p69.2.2.2.1) p56.2.2.2.1) p48.2.2.2.1) p35.2.2.2.1) p27.2.2.2.1) p13.2.2.2.1) p5.2.2.2.1), f123, (by have q0 : (5 : Int32).toInt = 5 := rfl; omega)⟩
          · skip
            have d195 : ¬ ((x94.toInt) : Int) = (0) := ci_ne rfl rfl c105
            exact hQ _ _ _ _ hB97 ⟨(Eq.trans (Eq.trans (Eq.trans (Eq.trans (Eq.trans (Eq.trans (Eq.trans (Eq.trans (Eq.trans p98.1 p90.1) p77.1) p69.1) p56.1) p48.1) p35.1) p27.1) p13.1) p5.1), (Eq.trans (Eq.trans (Eq.trans (Eq.trans (Eq.trans (Eq.trans (Eq.trans (Eq.trans (Eq.trans p98.2.1 p90.2.1) p77.2.1) p69.2.1) p56.2.1) p48.2.1) p35.2.1) p27.2.1) p13.2.1) p5.2.1), (Eq.trans (Eq.trans (Eq.trans (Eq.trans (Eq.trans (Eq.trans (Eq.trans (Eq.trans (Eq.trans p98.2.2.1 p90.2.2.1) p77.2.2.1) p69.2.2.1) p56.2.2.1) p48.2.2.1) p35.2.2.1) p27.2.2.1) p13.2.2.1) p5.2.2.1), (Eq.trans (Eq.trans (Eq.trans (Eq.trans (Eq.trans (Eq.trans (Eq.trans (Eq.trans (Eq.trans p98.2.2.2.1 p90.2.2.2.1) p77.2.2.2.1) p69.2.2.2.1) p56.2.2.2.1) p48.2.2.2.1) p35.2.2.2.1) p27.2.2.2.1) p13.2.2.2.1) p5.2.2.2.1), f102, (by have q0 : (4 : Int32).toInt = 4 := rfl; omega)⟩
        · skip
          have d196 : ¬ ((x73.toInt) : Int) = (0) := ci_ne rfl rfl c84
          exact hQ _ _ _ _ hB76 ⟨(Eq.trans (Eq.trans (Eq.trans (Eq.trans (Eq.trans (Eq.trans (Eq.trans p77.1 p69.1) p56.1) p48.1) p35.1) p27.1) p13.1) p5.1), (Eq.trans (Eq.trans (Eq.trans (Eq.trans (Eq.trans (Eq.trans (Eq.trans p77.2.1 p69.2.1) p56.2.1) p48.2.1) p35.2.1) p27.2.1) p13.2.1) p5.2.1), (Eq.trans (Eq.trans (Eq.trans (Eq.trans (Eq.trans (Eq.trans (Eq.trans p77.2.2.1 p69.2.2.1) p56.2.2.1) p48.2.2.1) p35.2.2.1) p27.2.2.1) p13.2.2.1) p5.2.2.1), (Eq.trans (Eq.trans (Eq.trans (Eq.trans (Eq.trans (Eq.trans (Eq.trans p77.2.2.2.1 p69.2.2.2.1) p56.2.2.2.1) p48.2.2.2.1) p35.2.2.2.1) p27.2.2.2.1) p13.2.2.2.1) p5.2.2.2.1), f81, (by have q0 : (3 : Int32).toInt = 3 := rfl; omega)⟩
      · skip
        have d197 : ¬ ((x52.toInt) : Int) = (0) := ci_ne rfl rfl c63
        exact hQ _ _ _ _ hB55 ⟨(Eq.trans (Eq.trans (Eq.trans (Eq.trans (Eq.trans p56.1 p48.1) p35.1) p27.1) p13.1) p5.1), (Eq.trans (Eq.trans (Eq.trans (Eq.trans (Eq.trans p56.2.1 p48.2.1) p35.2.1) p27.2.1) p13.2.1) p5.2.1), (Eq.trans (Eq.trans (Eq.trans (Eq.trans (Eq.trans p56.2.2.1 p48.2.2.1) p35.2.2.1) p27.2.2.1) p13.2.2.1) p5.2.2.1), (Eq.trans (Eq.trans (Eq.trans (Eq.trans (Eq.trans p56.2.2.2.1 p48.2.2.2.1) p35.2.2.2.1) p27.2.2.2.1) p13.2.2.2.1) p5.2.2.2.1), f60, (by have q0 : (2 : Int32).toInt = 2 := rfl; omega)⟩
    · skip
      have d198 : ¬ ((x31.toInt) : Int) = (0) := ci_ne rfl rfl c42
      exact hQ _ _ _ _ hB34 ⟨(Eq.trans (Eq.trans (Eq.trans p35.1 p27.1) p13.1) p5.1), (Eq.trans (Eq.trans (Eq.trans p35.2.1 p27.2.1) p13.2.1) p5.2.1), (Eq.trans (Eq.trans (Eq.trans p35.2.2.1 p27.2.2.1) p13.2.2.1) p5.2.2.1), (Eq.trans (Eq.trans (Eq.trans p35.2.2.2.1 p27.2.2.2.1) p13.2.2.2.1) p5.2.2.2.1), f39, (by have q0 : (1 : Int32).toInt = 1 := rfl; omega)⟩
  · skip
    have d199 : ¬ ((x9.toInt) : Int) = (0) := ci_ne rfl rfl c21
    exact hQ _ _ _ _ hB12 ⟨(Eq.trans p13.1 p5.1), (Eq.trans p13.2.1 p5.2.1), (Eq.trans p13.2.2.1 p5.2.2.1), (Eq.trans p13.2.2.2.1 p5.2.2.2.1), f17, (by have q0 : (0 : Int32).toInt = 0 := rfl; omega)⟩
set_option maxHeartbeats 2000000 in
theorem sp_X12_testWord {d : Nat} {Q : Qt} {I : Im} {J : Jm} {R : Rm} (hB0 : Bd I) (hR0 : RI R) (hQ : ∀ (x : Int32) (y : Int64) (I2 : Im) (J2 : Jm), Bd I2 → (I2 97 12 = I 97 12 ∧ I2 97 27 = I 97 27 ∧ I2 97 14 = I 97 14 ∧ I2 97 16 = I 97 16 ∧ Fr pT I I2 ∧ (-1 ≤ x.toInt ∧ x.toInt ≤ 2)) → Q x y I2 J2 R) : AM (d + 2) 208 112 [.ref 97] I J R Q := by
  refine w_X12_testWord ?_
  refine sp_X12_spelled hB0 hR0 (fun x1 y6 I2 J3 hB4 p5 => ?_)
  have f7 : Fr pT I I2 := p5.2.2.2.2
  have f8 : Fr pT I I2 := Fr.tr (Fr.refl _ _) f7 (fun _ _ => trivial)
  refine sp_X12_isWord hB4 hR0 (fun x9 y14 I10 J11 hB12 p13 => ?_)
  intro o15
  have f16 : Fr pT I2 I10 := p13.2.2.2.2.1
  have f17 : Fr pT I I10 := Fr.tr f8 f16 (fun _ _ => trivial)
  have b18 := Bd.o hB0 io9_112_97_12 bd9_12_14
  have e19 : ((I2 97 14) : Int32).toInt = (I 97 14).toInt := Eq.trans (congrArg Int32.toInt p5.2.2.1) rfl
  have i20 := i32 x9
  refine ⟨fun c21 => ?_, fun c21 => ?_⟩
  · skip
    have d22 : ((x9.toInt) : Int) = (0) := ci_eq rfl rfl c21
    refine sp_X12_spelled hB12 hR0 (fun x23 y28 I24 J25 hB26 p27 => ?_)
    have f29 : Fr pT I10 I24 := p27.2.2.2.2
    have f30 : Fr pT I I24 := Fr.tr f17 f29 (fun _ _ => trivial)
    refine sp_X12_isWord hB26 hR0 (fun x31 y36 I32 J33 hB34 p35 => ?_)
    intro o37
    have f38 : Fr pT I24 I32 := p35.2.2.2.2.1
    have f39 : Fr pT I I32 := Fr.tr f30 f38 (fun _ _ => trivial)
    have e40 : ((I24 97 14) : Int32).toInt = (I 97 14).toInt := Eq.trans (congrArg Int32.toInt (Eq.trans (Eq.trans p27.2.2.1 p13.2.2.1) p5.2.2.1)) rfl
    have i41 := i32 x31
    refine ⟨fun c42 => ?_, fun c42 => ?_⟩
    · skip
      have d43 : ((x31.toInt) : Int) = (0) := ci_eq rfl rfl c42
      refine sp_X12_spelled hB34 hR0 (fun x44 y49 I45 J46 hB47 p48 => ?_)
      have f50 : Fr pT I32 I45 := p48.2.2.2.2
      have f51 : Fr pT I I45 := Fr.tr f39 f50 (fun _ _ => trivial)
      refine sp_X12_isWord hB47 hR0 (fun x52 y57 I53 J54 hB55 p56 => ?_)
      intro o58
      have f59 : Fr pT I45 I53 := p56.2.2.2.2.1
      have f60 : Fr pT I I53 := Fr.tr f51 f59 (fun _ _ => trivial)
      have e61 : ((I45 97 14) : Int32).toInt = (I 97 14).toInt := Eq.trans (congrArg Int32.toInt (Eq.trans (Eq.trans (Eq.trans (Eq.trans p48.2.2.1 p35.2.2.1) p27.2.2.1) p13.2.2.1) p5.2.2.1)) rfl
      have i62 := i32 x52
      refine ⟨fun c63 => ?_, fun c63 => ?_⟩
      · skip
        have d64 : ((x52.toInt) : Int) = (0) := ci_eq rfl rfl c63
        exact hQ _ _ _ _ hB55 ⟨(Eq.trans (Eq.trans (Eq.trans (Eq.trans (Eq.trans p56.1 p48.1) p35.1) p27.1) p13.1) p5.1), (Eq.trans (Eq.trans (Eq.trans (Eq.trans (Eq.trans p56.2.1 p48.2.1) p35.2.1) p27.2.1) p13.2.1) p5.2.1), (Eq.trans (Eq.trans (Eq.trans (Eq.trans (Eq.trans p56.2.2.1 p48.2.2.1) p35.2.2.1) p27.2.2.1) p13.2.2.1) p5.2.2.1), (Eq.trans (Eq.trans (Eq.trans (Eq.trans (Eq.trans p56.2.2.2.1 p48.2.2.2.1) p35.2.2.2.1) p27.2.2.2.1) p13.2.2.2.1) p5.2.2.2.1), f60, (by have q0 : ((-1) : Int32).toInt = (-1) := rfl; omega)⟩
      · skip
        have d65 : ¬ ((x52.toInt) : Int) = (0) := ci_ne rfl rfl c63
        exact hQ _ _ _ _ hB55 ⟨(Eq.trans (Eq.trans (Eq.trans (Eq.trans (Eq.trans p56.1 p48.1) p35.1) p27.1) p13.1) p5.1), (Eq.trans (Eq.trans (Eq.trans (Eq.trans (Eq.trans p56.2.1 p48.2.1) p35.2.1) p27.2.1) p13.2.1) p5.2.1), (Eq.trans (Eq.trans (Eq.trans (Eq.trans (Eq.trans p56.2.2.1 p48.2.2.1) p35.2.2.1) p27.2.2.1) p13.2.2.1) p5.2.2.1), (Eq.trans (Eq.trans (Eq.trans (Eq.trans (Eq.trans p56.2.2.2.1 p48.2.2.2.1) p35.2.2.2.1) p27.2.2.2.1) p13.2.2.2.1) p5.2.2.2.1), f60, (by have q0 : (2 : Int32).toInt = 2 := rfl; omega)⟩
    · skip
      have d66 : ¬ ((x31.toInt) : Int) = (0) := ci_ne rfl rfl c42
      exact hQ _ _ _ _ hB34 ⟨(Eq.trans (Eq.trans (Eq.trans p35.1 p27.1) p13.1) p5.1), (Eq.trans (Eq.trans (Eq.trans p35.2.1 p27.2.1) p13.2.1) p5.2.1), (Eq.trans (Eq.trans (Eq.trans p35.2.2.1 p27.2.2.1) p13.2.2.1) p5.2.2.1), (Eq.trans (Eq.trans (Eq.trans p35.2.2.2.1 p27.2.2.2.1) p13.2.2.2.1) p5.2.2.2.1), f39, (by have q0 : (1 : Int32).toInt = 1 := rfl; omega)⟩
  · skip
    have d67 : ¬ ((x9.toInt) : Int) = (0) := ci_ne rfl rfl c21
    exact hQ _ _ _ _ hB12 ⟨(Eq.trans p13.1 p5.1), (Eq.trans p13.2.1 p5.2.1), (Eq.trans p13.2.2.1 p5.2.2.1), (Eq.trans p13.2.2.2.1 p5.2.2.2.1), f17, (by have q0 : (0 : Int32).toInt = 0 := rfl; omega)⟩
set_option maxHeartbeats 2000000 in
theorem sp_X12_isKept {d : Nat} {Q : Qt} {I : Im} {J : Jm} {R : Rm} (hB0 : Bd I) (hR0 : RI R) (hQ : ∀ (x : Int32) (y : Int64) (I2 : Im) (J2 : Jm), Bd I2 → (I2 97 12 = I 97 12 ∧ I2 97 27 = I 97 27 ∧ I2 97 14 = I 97 14 ∧ I2 97 16 = I 97 16 ∧ Fr pT I I2) → Q x y I2 J2 R) : AM (d + 3) 210 112 [.ref 97] I J R Q := by
  refine w_X12_isKept ?_
  refine sp_X12_isOdds hB0 hR0 (fun x1 y6 I2 J3 hB4 p5 => ?_)
  intro o7
  have f8 : Fr pT I I2 := p5.2.2.2.2.1
  have f9 : Fr pT I I2 := Fr.tr (Fr.refl _ _) f8 (fun _ _ => trivial)
  have b10 := Bd.o hB0 io9_112_97_12 bd9_12_14
  have i11 := i32 x1
  refine ⟨fun c12 => ?_, fun c12 => ?_⟩
  · skip
    have d13 : ¬ ((x1.toInt) : Int) = (0) := ci_ne rfl rfl c12
    refine ⟨Or.inr rfl, ?_⟩
    exact hQ _ _ _ _ hB4 ⟨p5.1, p5.2.1, p5.2.2.1, p5.2.2.2.1, f9⟩
  · skip
    have d14 : ((x1.toInt) : Int) = (0) := ci_eq rfl rfl c12
    refine sp_X12_isStore hB4 hR0 (fun x15 y20 I16 J17 hB18 p19 => ?_)
    intro o21
    have f22 : Fr pT I2 I16 := p19.2.2.2.2.1
    have f23 : Fr pT I I16 := Fr.tr f9 f22 (fun _ _ => trivial)
    have e24 : ((I2 97 14) : Int32).toInt = (I 97 14).toInt := Eq.trans (congrArg Int32.toInt p5.2.2.1) rfl
    have i25 := i32 x15
    refine ⟨fun c26 => ?_, fun c26 => ?_⟩
    · skip
      have d27 : ¬ ((x15.toInt) : Int) = (0) := ci_ne rfl rfl c26
      refine ⟨Or.inr rfl, ?_⟩
      exact hQ _ _ _ _ hB18 ⟨(Eq.trans p19.1 p5.1), (Eq.trans p19.2.1 p5.2.1), (Eq.trans p19.2.2.1 p5.2.2.1), (Eq.trans p19.2.2.2.1 p5.2.2.2.1), f23⟩
    · skip
      have d28 : ((x15.toInt) : Int) = (0) := ci_eq rfl rfl c26
      refine sp_X12_isTimes hB18 hR0 (fun x29 y34 I30 J31 hB32 p33 => ?_)
      intro o35
      have f36 : Fr pT I16 I30 := p33.2.2.2.2.1
      have f37 : Fr pT I I30 := Fr.tr f23 f36 (fun _ _ => trivial)
      have e38 : ((I16 97 14) : Int32).toInt = (I 97 14).toInt := Eq.trans (congrArg Int32.toInt (Eq.trans p19.2.2.1 p5.2.2.1)) rfl
      have i39 := i32 x29
      refine ⟨fun c40 => ?_, fun c40 => ?_⟩
      · skip
        have d41 : ¬ ((x29.toInt) : Int) = (0) := ci_ne rfl rfl c40
        refine ⟨Or.inr rfl, ?_⟩
        exact hQ _ _ _ _ hB32 ⟨(Eq.trans (Eq.trans p33.1 p19.1) p5.1), (Eq.trans (Eq.trans p33.2.1 p19.2.1) p5.2.1), (Eq.trans (Eq.trans p33.2.2.1 p19.2.2.1) p5.2.2.1), (Eq.trans (Eq.trans p33.2.2.2.1 p19.2.2.2.1) p5.2.2.2.1), f37⟩
      · skip
        have d42 : ((x29.toInt) : Int) = (0) := ci_eq rfl rfl c40
        refine sp_X12_isMan hB32 hR0 (fun x43 y48 I44 J45 hB46 p47 => ?_)
        intro o49
        have f50 : Fr pT I30 I44 := p47.2.2.2.2.1
        have f51 : Fr pT I I44 := Fr.tr f37 f50 (fun _ _ => trivial)
        have e52 : ((I30 97 14) : Int32).toInt = (I 97 14).toInt := Eq.trans (congrArg Int32.toInt (Eq.trans (Eq.trans p33.2.2.1 p19.2.2.1) p5.2.2.1)) rfl
        have i53 := i32 x43
        refine ⟨fun c54 => ?_, fun c54 => ?_⟩
        · skip
          have d55 : ¬ ((x43.toInt) : Int) = (0) := ci_ne rfl rfl c54
          refine ⟨Or.inr rfl, ?_⟩
          exact hQ _ _ _ _ hB46 ⟨(Eq.trans (Eq.trans (Eq.trans p47.1 p33.1) p19.1) p5.1), (Eq.trans (Eq.trans (Eq.trans p47.2.1 p33.2.1) p19.2.1) p5.2.1), (Eq.trans (Eq.trans (Eq.trans p47.2.2.1 p33.2.2.1) p19.2.2.1) p5.2.2.1), (Eq.trans (Eq.trans (Eq.trans p47.2.2.2.1 p33.2.2.2.1) p19.2.2.2.1) p5.2.2.2.1), f51⟩
        · skip
          have d56 : ((x43.toInt) : Int) = (0) := ci_eq rfl rfl c54
          refine sp_X12_isDue hB46 hR0 (fun x57 y62 I58 J59 hB60 p61 => ?_)
          intro o63
          have f64 : Fr pT I44 I58 := p61.2.2.2.2.1
          have f65 : Fr pT I I58 := Fr.tr f51 f64 (fun _ _ => trivial)
          have e66 : ((I44 97 14) : Int32).toInt = (I 97 14).toInt := Eq.trans (congrArg Int32.toInt (Eq.trans (Eq.trans (Eq.trans p47.2.2.1 p33.2.2.1) p19.2.2.1) p5.2.2.1)) rfl
          have i67 := i32 x57
          refine ⟨fun c68 => ?_, fun c68 => ?_⟩
          · skip
            have d69 : ¬ ((x57.toInt) : Int) = (0) := ci_ne rfl rfl c68
            refine ⟨Or.inr rfl, ?_⟩
            exact hQ _ _ _ _ hB60 ⟨(Eq.trans (Eq.trans (Eq.trans (Eq.trans p61.1 p47.1) p33.1) p19.1) p5.1), (Eq.trans (Eq.trans (Eq.trans (Eq.trans p61.2.1 p47.2.1) p33.2.1) p19.2.1) p5.2.1), (Eq.trans (Eq.trans (Eq.trans (Eq.trans p61.2.2.1 p47.2.2.1) p33.2.2.1) p19.2.2.1) p5.2.2.1), (Eq.trans (Eq.trans (Eq.trans (Eq.trans p61.2.2.2.1 p47.2.2.2.1) p33.2.2.2.1) p19.2.2.2.1) p5.2.2.2.1), f65⟩
          · skip
            have d70 : ((x57.toInt) : Int) = (0) := ci_eq rfl rfl c68
            refine sp_X12_isBy hB60 hR0 (fun x71 y76 I72 J73 hB74 p75 => ?_)
            intro o77
            have f78 : Fr pT I58 I72 := p75.2.2.2.2.1
            have f79 : Fr pT I I72 := Fr.tr f65 f78 (fun _ _ => trivial)
            have e80 : ((I58 97 14) : Int32).toInt = (I 97 14).toInt := Eq.trans (congrArg Int32.toInt (Eq.trans (Eq.trans (Eq.trans (Eq.trans p61.2.2.1 p47.2.2.1) p33.2.2.1) p19.2.2.1) p5.2.2.1)) rfl
            have i81 := i32 x71
            refine ⟨fun c82 => ?_, fun c82 => ?_⟩
            · skip
              have d83 : ¬ ((x71.toInt) : Int) = (0) := ci_ne rfl rfl c82
              refine ⟨Or.inr rfl, ?_⟩
              exact hQ _ _ _ _ hB74 ⟨(Eq.trans (Eq.trans (Eq.trans (Eq.trans (Eq.trans p75.1 p61.1) p47.1) p33.1) p19.1) p5.1), (Eq.trans (Eq.trans (Eq.trans (Eq.trans (Eq.trans p75.2.1 p61.2.1) p47.2.1) p33.2.1) p19.2.1) p5.2.1), (Eq.trans (Eq.trans (Eq.trans (Eq.trans (Eq.trans p75.2.2.1 p61.2.2.1) p47.2.2.1) p33.2.2.1) p19.2.2.1) p5.2.2.1), (Eq.trans (Eq.trans (Eq.trans (Eq.trans (Eq.trans p75.2.2.2.1 p61.2.2.2.1) p47.2.2.2.1) p33.2.2.2.1) p19.2.2.2.1) p5.2.2.2.1), f79⟩
            · skip
              have d84 : ((x71.toInt) : Int) = (0) := ci_eq rfl rfl c82
              refine sp_X12_isHas hB74 hR0 (fun x85 y90 I86 J87 hB88 p89 => ?_)
              intro o91
              have f92 : Fr pT I72 I86 := p89.2.2.2.2.1
              have f93 : Fr pT I I86 := Fr.tr f79 f92 (fun _ _ => trivial)
              have e94 : ((I72 97 14) : Int32).toInt = (I 97 14).toInt := Eq.trans (congrArg Int32.toInt (Eq.trans (Eq.trans (Eq.trans (Eq.trans (Eq.trans p75.2.2.1 p61.2.2.1) p47.2.2.1) p33.2.2.1) p19.2.2.1) p5.2.2.1)) rfl
              have i95 := i32 x85
              refine ⟨fun c96 => ?_, fun c96 => ?_⟩
              · skip
                have d97 : ¬ ((x85.toInt) : Int) = (0) := ci_ne rfl rfl c96
                refine ⟨Or.inr rfl, ?_⟩
                exact hQ _ _ _ _ hB88 ⟨(Eq.trans (Eq.trans (Eq.trans (Eq.trans (Eq.trans (Eq.trans p89.1 p75.1) p61.1) p47.1) p33.1) p19.1) p5.1), (Eq.trans (Eq.trans (Eq.trans (Eq.trans (Eq.trans (Eq.trans p89.2.1 p75.2.1) p61.2.1) p47.2.1) p33.2.1) p19.2.1) p5.2.1), (Eq.trans (Eq.trans (Eq.trans (Eq.trans (Eq.trans (Eq.trans p89.2.2.1 p75.2.2.1) p61.2.2.1) p47.2.2.1) p33.2.2.1) p19.2.2.1) p5.2.2.1), (Eq.trans (Eq.trans (Eq.trans (Eq.trans (Eq.trans (Eq.trans p89.2.2.2.1 p75.2.2.2.1) p61.2.2.2.1) p47.2.2.2.1) p33.2.2.2.1) p19.2.2.2.1) p5.2.2.2.1), f93⟩
              · skip
                have d98 : ((x85.toInt) : Int) = (0) := ci_eq rfl rfl c96
                refine sp_X12_isKnown hB88 hR0 (fun x99 y104 I100 J101 hB102 p103 => ?_)
                intro o105
                have f106 : Fr pT I86 I100 := p103.2.2.2.2.1
                have f107 : Fr pT I I100 := Fr.tr f93 f106 (fun _ _ => trivial)
                have e108 : ((I86 97 14) : Int32).toInt = (I 97 14).toInt := Eq.trans (congrArg Int32.toInt (Eq.trans (Eq.trans (Eq.trans (Eq.trans (Eq.trans (Eq.trans p89.2.2.1 p75.2.2.1) p61.2.2.1) p47.2.2.1) p33.2.2.1) p19.2.2.1) p5.2.2.1)) rfl
                have i109 := i32 x99
                refine ⟨fun c110 => ?_, fun c110 => ?_⟩
                · skip
                  have d111 : ((x99.toInt) : Int) = (0) := ci_eq rfl rfl c110
                  refine sp_X12_stepWord hB102 hR0 (fun x112 y117 I113 J114 hB115 p116 => ?_)
                  have f118 : Fr pT I100 I113 := p116.2.2.2.2.1
                  have f119 : Fr pT I I113 := Fr.tr f107 f118 (fun _ _ => trivial)
                  have e120 : ((I100 97 14) : Int32).toInt = (I 97 14).toInt := Eq.trans (congrArg Int32.toInt (Eq.trans (Eq.trans (Eq.trans (Eq.trans (Eq.trans (Eq.trans (Eq.trans p103.2.2.1 p89.2.2.1) p75.2.2.1) p61.2.2.1) p47.2.2.1) p33.2.2.1) p19.2.2.1) p5.2.2.1)) rfl
                  have i121 := i32 x112
                  refine ⟨fun c122 => ?_, fun c122 => ?_⟩
                  · skip
                    have d123 : ((0) : Int) ≤ (x112.toInt) := ci_le rfl rfl c122
                    refine ⟨Or.inr rfl, ?_⟩
                    exact hQ _ _ _ _ hB115 ⟨(Eq.trans (Eq.trans (Eq.trans (Eq.trans (Eq.trans (Eq.trans (Eq.trans (Eq.trans p116.1 p103.1) p89.1) p75.1) p61.1) p47.1) p33.1) p19.1) p5.1), (Eq.trans (Eq.trans (Eq.trans (Eq.trans (Eq.trans (Eq.trans (Eq.trans (Eq.trans p116.2.1 p103.2.1) p89.2.1) p75.2.1) p61.2.1) p47.2.1) p33.2.1) p19.2.1) p5.2.1), (Eq.trans (Eq.trans (Eq.trans (Eq.trans (Eq.trans (Eq.trans (Eq.trans (Eq.trans p116.2.2.1 p103.2.2.1) p89.2.2.1) p75.2.2.1) p61.2.2.1) p47.2.2.1) p33.2.2.1) p19.2.2.1) p5.2.2.1), (Eq.trans (Eq.trans (Eq.trans (Eq.trans (Eq.trans (Eq.trans (Eq.trans (Eq.trans p116.2.2.2.1 p103.2.2.2.1) p89.2.2.2.1) p75.2.2.2.1) p61.2.2.2.1) p47.2.2.2.1) p33.2.2.2.1) p19.2.2.2.1) p5.2.2.2.1), f119⟩
                  · skip
                    have d124 : ((x112.toInt) : Int) < (0) := ci_nle rfl rfl c122
                    refine sp_X12_testWord hB115 hR0 (fun x125 y130 I126 J127 hB128 p129 => ?_)
                    have f131 : Fr pT I113 I126 := p129.2.2.2.2.1
                    have f132 : Fr pT I I126 := Fr.tr f119 f131 (fun _ _ => trivial)
                    have i133 := i32 x125
                    refine ⟨fun c134 => ?_, fun c134 => ?_⟩
                    · skip
                      have d135 : ((0) : Int) ≤ (x125.toInt) := ci_le rfl rfl c134
                      refine ⟨Or.inr rfl, ?_⟩
                      exact hQ _ _ _ _ hB128 ⟨(Eq.trans (Eq.trans (Eq.trans (Eq.trans (Eq.trans (Eq.trans (Eq.trans (Eq.trans (Eq.trans p129.1 p116.1) p103.1) p89.1) p75.1) p61.1) p47.1) p33.1) p19.1) p5.1), (Eq.trans (Eq.trans (Eq.trans (Eq.trans (Eq.trans (Eq.trans (Eq.trans (Eq.trans (Eq.trans p129.2.1 p116.2.1) p103.2.1) p89.2.1) p75.2.1) p61.2.1) p47.2.1) p33.2.1) p19.2.1) p5.2.1), (Eq.trans (Eq.trans (Eq.trans (Eq.trans (Eq.trans (Eq.trans (Eq.trans (Eq.trans (Eq.trans p129.2.2.1 p116.2.2.1) p103.2.2.1) p89.2.2.1) p75.2.2.1) p61.2.2.1) p47.2.2.1) p33.2.2.1) p19.2.2.1) p5.2.2.1), (Eq.trans (Eq.trans (Eq.trans (Eq.trans (Eq.trans (Eq.trans (Eq.trans (Eq.trans (Eq.trans p129.2.2.2.1 p116.2.2.2.1) p103.2.2.2.1) p89.2.2.2.1) p75.2.2.2.1) p61.2.2.2.1) p47.2.2.2.1) p33.2.2.2.1) p19.2.2.2.1) p5.2.2.2.1), f132⟩
                    · skip
                      have d136 : ((x125.toInt) : Int) < (0) := ci_nle rfl rfl c134
                      refine sp_X12_isEnd hB128 hR0 (fun x137 y142 I138 J139 hB140 p141 => ?_)
                      intro o143
                      have f144 : Fr pT I126 I138 := p141.2.2.2.2.1
                      have f145 : Fr pT I I138 := Fr.tr f132 f144 (fun _ _ => trivial)
                      have e146 : ((I126 97 14) : Int32).toInt = (I 97 14).toInt := Eq.trans (congrArg Int32.toInt (Eq.trans (Eq.trans (Eq.trans (Eq.trans (Eq.trans (Eq.trans (Eq.trans (Eq.trans (Eq.trans p129.2.2.1 p116.2.2.1) p103.2.2.1) p89.2.2.1) p75.2.2.1) p61.2.2.1) p47.2.2.1) p33.2.2.1) p19.2.2.1) p5.2.2.1)) rfl
                      have i147 := i32 x137
                      refine ⟨fun c148 => ?_, fun c148 => ?_⟩
                      · skip
                        have d149 : ((x137.toInt) : Int) = (0) := ci_eq rfl rfl c148
                        refine ⟨Or.inl rfl, ?_⟩
                        exact hQ _ _ _ _ hB140 ⟨(Eq.trans (Eq.trans (Eq.trans (Eq.trans (Eq.trans (Eq.trans (Eq.trans (Eq.trans (Eq.trans (Eq.trans p141.1 p129.1) p116.1) p103.1) p89.1) p75.1) p61.1) p47.1) p33.1) p19.1) p5.1), (Eq.trans (Eq.trans (Eq.trans (Eq.trans (Eq.trans (Eq.trans (Eq.trans (Eq.trans (Eq.trans (Eq.trans p141.2.1 p129.2.1) p116.2.1) p103.2.1) p89.2.1) p75.2.1) p61.2.1) p47.2.1) p33.2.1) p19.2.1) p5.2.1), (Eq.trans (Eq.trans (Eq.trans (Eq.trans (Eq.trans (Eq.trans (Eq.trans (Eq.trans (Eq.trans (Eq.trans p141.2.2.1 p129.2.2.1) p116.2.2.1) p103.2.2.1) p89.2.2.1) p75.2.2.1) p61.2.2.1) p47.2.2.1) p33.2.2.1) p19.2.2.1) p5.2.2.1), (Eq.trans (Eq.trans (Eq.trans (Eq.trans (Eq.trans (Eq.trans (Eq.trans (Eq.trans (Eq.trans (Eq.trans p141.2.2.2.1 p129.2.2.2.1) p116.2.2.2.1) p103.2.2.2.1) p89.2.2.2.1) p75.2.2.2.1) p61.2.2.2.1) p47.2.2.2.1) p33.2.2.2.1) p19.2.2.2.1) p5.2.2.2.1), f145⟩
                      · skip
                        have d150 : ¬ ((x137.toInt) : Int) = (0) := ci_ne rfl rfl c148
                        refine ⟨Or.inr rfl, ?_⟩
                        exact hQ _ _ _ _ hB140 ⟨(Eq.trans (Eq.trans (Eq.trans (Eq.trans (Eq.trans (Eq.trans (Eq.trans (Eq.trans (Eq.trans (Eq.trans p141.1 p129.1) p116.1) p103.1) p89.1) p75.1) p61.1) p47.1) p33.1) p19.1) p5.1), (Eq.trans (Eq.trans (Eq.trans (Eq.trans (Eq.trans (Eq.trans (Eq.trans (Eq.trans (Eq.trans (Eq.trans p141.2.1 p129.2.1) p116.2.1) p103.2.1) p89.2.1) p75.2.1) p61.2.1) p47.2.1) p33.2.1) p19.2.1) p5.2.1), (Eq.trans (Eq.trans (Eq.trans (Eq.trans (Eq.trans (Eq.trans (Eq.trans (Eq.trans (Eq.trans (Eq.trans p141.2.2.1 p129.2.2.1) p116.2.2.1) p103.2.2.1) p89.2.2.1) p75.2.2.1) p61.2.2.1) p47.2.2.1) p33.2.2.1) p19.2.2.1) p5.2.2.1), (Eq.trans (Eq.trans (Eq.trans (Eq.trans (Eq.trans (Eq.trans (Eq.trans (Eq.trans (Eq.trans (Eq.trans p141.2.2.2.1 p129.2.2.2.1) p116.2.2.2.1) p103.2.2.2.1) p89.2.2.2.1) p75.2.2.2.1) p61.2.2.2.1) p47.2.2.2.1) p33.2.2.2.1) p19.2.2.2.1) p5.2.2.2.1), f145⟩
                · skip
                  have d151 : ¬ ((x99.toInt) : Int) = (0) := ci_ne rfl rfl c110
                  refine ⟨Or.inr rfl, ?_⟩
                  exact hQ _ _ _ _ hB102 ⟨(Eq.trans (Eq.trans (Eq.trans (Eq.trans (Eq.trans (Eq.trans (Eq.trans p103.1 p89.1) p75.1) p61.1) p47.1) p33.1) p19.1) p5.1), (Eq.trans (Eq.trans (Eq.trans (Eq.trans (Eq.trans (Eq.trans (Eq.trans p103.2.1 p89.2.1) p75.2.1) p61.2.1) p47.2.1) p33.2.1) p19.2.1) p5.2.1), (Eq.trans (Eq.trans (Eq.trans (Eq.trans (Eq.trans (Eq.trans (Eq.trans p103.2.2.1 p89.2.2.1) p75.2.2.1) p61.2.2.1) p47.2.2.1) p33.2.2.1) p19.2.2.1) p5.2.2.1), (Eq.trans (Eq.trans (Eq.trans (Eq.trans (Eq.trans (Eq.trans (Eq.trans p103.2.2.2.1 p89.2.2.2.1) p75.2.2.2.1) p61.2.2.2.1) p47.2.2.2.1) p33.2.2.2.1) p19.2.2.2.1) p5.2.2.2.1), f107⟩
set_option maxHeartbeats 2000000 in
theorem sp_X12_isName {d : Nat} {Q : Qt} {I : Im} {J : Jm} {R : Rm} (hB0 : Bd I) (hR0 : RI R) (hQ : ∀ (x : Int32) (y : Int64) (I2 : Im) (J2 : Jm), Bd I2 → (I2 97 12 = I 97 12 ∧ I2 97 27 = I 97 27 ∧ I2 97 14 = I 97 14 ∧ I2 97 16 = I 97 16 ∧ Fr pT I I2) → Q x y I2 J2 R) : AM (d + 4) 211 112 [.ref 97] I J R Q := by
  refine w_X12_isName ?_
  refine ⟨fun c1 => ?_, fun c1 => ?_⟩
  · skip
    have b2 := Bd.o hB0 io9_112_97_12 bd9_12_14
    have d3 : ¬ (((I 97 14).toInt) : Int) = (1) := ci_ne rfl rfl c1
    refine ⟨Or.inl rfl, ?_⟩
    exact hQ _ _ _ _ hB0 ⟨rfl, rfl, rfl, rfl, (Fr.refl _ _)⟩
  · skip
    have b4 := Bd.o hB0 io9_112_97_12 bd9_12_14
    have d5 : (((I 97 14).toInt) : Int) = (1) := ci_eq rfl rfl c1
    refine ⟨fun c6 => ?_, fun c6 => ?_⟩
    · skip
      have d7 : ((8) : Int) < ((I 97 18).toInt) := ci_lt rfl rfl c6
      refine ⟨Or.inl rfl, ?_⟩
      exact hQ _ _ _ _ hB0 ⟨rfl, rfl, rfl, rfl, (Fr.refl _ _)⟩
    · skip
      have d8 : (((I 97 18).toInt) : Int) ≤ (8) := ci_nlt rfl rfl c6
      refine sp_X12_isKept hB0 hR0 (fun x9 y14 I10 J11 hB12 p13 => ?_)
      intro o15
      have f16 : Fr pT I I10 := p13.2.2.2.2
      have f17 : Fr pT I I10 := Fr.tr (Fr.refl _ _) f16 (fun _ _ => trivial)
      have i18 := i32 x9
      refine ⟨fun c19 => ?_, fun c19 => ?_⟩
      · skip
        have d20 : ¬ ((x9.toInt) : Int) = (0) := ci_ne rfl rfl c19
        refine ⟨Or.inl rfl, ?_⟩
        exact hQ _ _ _ _ hB12 ⟨p13.1, p13.2.1, p13.2.2.1, p13.2.2.2.1, f17⟩
      · skip
        have d21 : ((x9.toInt) : Int) = (0) := ci_eq rfl rfl c19
        refine ⟨Or.inr rfl, ?_⟩
        exact hQ _ _ _ _ hB12 ⟨p13.1, p13.2.1, p13.2.2.1, p13.2.2.2.1, f17⟩
set_option maxHeartbeats 2000000 in
theorem sp_X12_isSign {d : Nat} {Q : Qt} {v1 : Int32} {I : Im} {J : Jm} {R : Rm} (hB0 : Bd I) (hR0 : RI R) (hQ : ∀ (x : Int32) (y : Int64) (I2 : Im) (J2 : Jm), Bd I2 → (I2 97 12 = I 97 12 ∧ I2 97 27 = I 97 27 ∧ I2 97 14 = I 97 14 ∧ I2 97 16 = I 97 16 ∧ Fr pT I I2 ∧ (x.toInt = 0 ∨ (I 97 14).toInt = 3)) → Q x y I2 J2 R) : AM (d + 1) 196 112 [.ref 97, .int v1] I J R Q := by
  have i_v1 := i32 v1
  refine w_X12_isSign ?_
  refine ⟨fun c1 => ?_, fun c1 => ?_⟩
  · skip
    have b2 := Bd.o hB0 io9_112_97_12 bd9_12_14
    have d3 : ¬ (((I 97 14).toInt) : Int) = (3) := ci_ne rfl rfl c1
    refine ⟨Or.inl rfl, ?_⟩
    exact hQ _ _ _ _ hB0 ⟨rfl, rfl, rfl, rfl, (Fr.refl _ _), (by have q0 : (0 : Int32).toInt = 0 := rfl; omega)⟩
  · skip
    have b4 := Bd.o hB0 io9_112_97_12 bd9_12_14
    have d5 : (((I 97 14).toInt) : Int) = (3) := ci_eq rfl rfl c1
    refine ⟨fun c6 => ?_, fun c6 => ?_⟩
    · skip
      have d7 : ¬ (((I 97 17).toInt) : Int) = (v1.toInt) := ci_ne rfl rfl c6
      refine ⟨Or.inl rfl, ?_⟩
      exact hQ _ _ _ _ hB0 ⟨rfl, rfl, rfl, rfl, (Fr.refl _ _), (by have q0 : (0 : Int32).toInt = 0 := rfl; omega)⟩
    · skip
      have d8 : (((I 97 17).toInt) : Int) = (v1.toInt) := ci_eq rfl rfl c6
      refine ⟨Or.inr rfl, ?_⟩
      exact hQ _ _ _ _ hB0 ⟨rfl, rfl, rfl, rfl, (Fr.refl _ _), (by have q0 : (1 : Int32).toInt = 1 := rfl; omega)⟩
