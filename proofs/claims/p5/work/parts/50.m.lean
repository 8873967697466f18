set_option maxHeartbeats 2000000 in
theorem sp_X12_trims {d : Nat} {Q : Qt} {v0 : Int32} {v1 : Int64} {I : Im} {J : Jm} {R : Rm} (hB0 : Bd I) (hR0 : RI R) (hQ : ∀ (x : Int32) (y : Int64) (I2 : Im) (J2 : Jm), Bd I2 → (True) → Q x y I2 J2 R) : AM (d + 1) 180 112 [.int v0, .long v1] I J R Q := by
  have i_v0 := i32 v0
  have i_v1 := i64 v1
  refine am_X12_trims (fun P hc => ?_)
  refine sg_X12_trims_0 hc _ _ _ _ _ ?_
  refine ⟨fun c1 => ?_, fun c1 => ?_⟩
  · skip
    have d2 : ¬ ((v0.toInt) : Int) = (0) := ci_ne rfl rfl c1
    refine ⟨fun c3 => ?_, fun c3 => ?_⟩
    · skip
      have d4 : ¬ ((v0.toInt) : Int) = (1) := ci_ne rfl rfl c3
      refine ⟨fun c5 => ?_, fun c5 => ?_⟩
      · skip
        have d6 : ¬ ((v0.toInt) : Int) = (2) := ci_ne rfl rfl c5
        exact hQ _ _ _ _ hB0 trivial
      · skip
        have d7 : ((v0.toInt) : Int) = (2) := ci_eq rfl rfl c5
        exact hQ _ _ _ _ hB0 trivial
    · skip
      have d8 : ((v0.toInt) : Int) = (1) := ci_eq rfl rfl c3
      exact hQ _ _ _ _ hB0 trivial
  · skip
    have d9 : ((v0.toInt) : Int) = (0) := ci_eq rfl rfl c1
    exact hQ _ _ _ _ hB0 trivial
set_option maxHeartbeats 2000000 in
theorem sp_X12_tray {d : Nat} {Q : Qt} {v1 : Int32} {v2 : Int32} {v3 : Int32} {I : Im} {J : Jm} {R : Rm} (hB0 : Bd I) (hR0 : RI R) (hQ : ∀ (x : Int32) (y : Int64) (I2 : Im) (J2 : Jm), Bd I2 → (True) → Q x y I2 J2 R) : AM (d + 2) 181 112 [.ref 97, .int v1, .int v2, .int v3] I J R Q := by
  have i_v1 := i32 v1
  have i_v2 := i32 v2
  have i_v3 := i32 v3
  refine am_X12_tray (fun P hc => ?_)
  have L : ∀ n : Nat, (∀ (v4 : Int32) (M : Im) (J : Jm), Bd M → (0 ≤ v1.toInt ∧ v1.toInt ≤ 3 ∧ 0 ≤ v3.toInt ∧ v3.toInt ≤ 60 ∧ 0 ≤ v4.toInt ∧ v4.toInt ≤ v3.toInt) → 100 - v4.toInt < (n : Int) → P 74 112 [(0, .ref 97), (1, .int v1), (3, .int v3), (4, .int v4)] [] M J R) := by
    intro n
    induction n with
    | zero =>
      exact fun v4 M J _ hi hm => absurd hm (by omega)
    | succ n ih =>
      intro v4 M J hB hi hm
      have i_v1 := i32 v1
      have i_v3 := i32 v3
      have i_v4 := i32 v4
      refine sg_X12_tray_74 hc _ _ _ _ _ _ ?_
      refine ⟨fun c1 => ?_, fun c1 => ?_⟩
      · skip
        have d2 : ((v3.toInt) : Int) ≤ (v4.toInt) := ci_le rfl rfl c1
        refine ⟨Or.inr rfl, ?_⟩
        exact hQ _ _ _ _ hB trivial
      · skip
        have d3 : ((v4.toInt) : Int) < (v3.toInt) := ci_nle rfl rfl c1
        have e4 : ((60 * v1) : Int32).toInt = (60) * (v1.toInt) := ti_mul rfl rfl (by omega)
        have e5 : (((60 * v1) + v4) : Int32).toInt = ((60 * v1.toInt)) + (v4.toInt) := ti_add e4 rfl (by omega)
        refine ⟨vp_of (a := ((60 * v1.toInt) + v4.toInt)) e5 (by omega) (by omega), ?_⟩
        have e6 : ((v4 + 1) : Int32).toInt = (v4.toInt) + (1) := ti_add rfl rfl (by omega)
        exact ih _ _ _ hB (by have q0 : ((v4 + 1) : Int32).toInt = (v4.toInt + 1) := e6; omega) (by have q0 : ((v4 + 1) : Int32).toInt = (v4.toInt + 1) := e6; omega)
  refine sg_X12_tray_0 hc _ _ _ _ _ _ ?_
  have hB7 : Bd (uI I 97 1 0) := Bd.o0 hB0 (show isO 112 97 12 = true from rfl) (by omega) (show bnd 12 1 = none from rfl)
  have hB8 : Bd (uI (uI I 97 1 0) 97 0 0) := Bd.o0 hB7 (show isO 112 97 12 = true from rfl) (by omega) (show bnd 12 0 = none from rfl)
  refine ⟨fun c9 => ?_, fun c9 => ?_⟩
  · skip
    have d10 : ((v1.toInt) : Int) < (0) := ci_lt rfl rfl c9
    refine w_X12_no ?_
    have hB11 : Bd (uI (uI (uI I 97 1 0) 97 0 0) 97 0 1) := Bd.o0 hB8 (show isO 112 97 12 = true from rfl) (by omega) (show bnd 12 0 = none from rfl)
    refine ⟨Or.inl rfl, ?_⟩
    intro o12
    refine ⟨Or.inl rfl, ?_⟩
    exact hQ _ _ _ _ hB11 trivial
  · skip
    have d13 : ((0) : Int) ≤ (v1.toInt) := ci_nlt rfl rfl c9
    refine ⟨fun c14 => ?_, fun c14 => ?_⟩
    · skip
      have d15 : ((4) : Int) ≤ (v1.toInt) := ci_le rfl rfl c14
      refine w_X12_no ?_
      have hB16 : Bd (uI (uI (uI I 97 1 0) 97 0 0) 97 0 1) := Bd.o0 hB8 (show isO 112 97 12 = true from rfl) (by omega) (show bnd 12 0 = none from rfl)
      refine ⟨Or.inl rfl, ?_⟩
      intro o17
      refine ⟨Or.inl rfl, ?_⟩
      exact hQ _ _ _ _ hB16 trivial
    · skip
      have d18 : ((v1.toInt) : Int) < (4) := ci_nle rfl rfl c14
      refine ⟨fun c19 => ?_, fun c19 => ?_⟩
      · skip
        have d20 : ((v2.toInt) : Int) < (0) := ci_lt rfl rfl c19
        refine w_X12_no ?_
        have hB21 : Bd (uI (uI (uI I 97 1 0) 97 0 0) 97 0 1) := Bd.o0 hB8 (show isO 112 97 12 = true from rfl) (by omega) (show bnd 12 0 = none from rfl)
        refine ⟨Or.inl rfl, ?_⟩
        intro o22
        refine ⟨Or.inl rfl, ?_⟩
        exact hQ _ _ _ _ hB21 trivial
      · skip
        have d23 : ((0) : Int) ≤ (v2.toInt) := ci_nlt rfl rfl c19
        refine ⟨fun c24 => ?_, fun c24 => ?_⟩
        · skip
          have d25 : ((v2.toInt) : Int) ≤ (3) := ci_le rfl rfl c24
          refine ⟨fun c26 => ?_, fun c26 => ?_⟩
          · skip
            have d27 : ((v3.toInt) : Int) ≤ (60) := ci_le rfl rfl c26
            refine ⟨fun c28 => ?_, fun c28 => ?_⟩
            · skip
              have d29 : ((0) : Int) ≤ (v3.toInt) := ci_le rfl rfl c28
              refine ⟨vp_of (a := v1.toInt) rfl (by omega) (by omega), ?_⟩
              have hB30 : Bd (uI (uI (uI I 97 1 0) 97 0 0) 98 (Int32.toNatClampNeg v1) v2) := Bd.a0 hB8 (show isA 112 98 0 = true from rfl) (show bna 98 = none from rfl)
              refine ⟨vp_of (a := v1.toInt) rfl (by omega) (by omega), ?_⟩
              have hB31 : Bd (uI (uI (uI (uI I 97 1 0) 97 0 0) 98 (Int32.toNatClampNeg v1) v2) 99 (Int32.toNatClampNeg v1) v3) := Bd.a1 hB30 (show isA 112 99 0 = true from rfl) (show bna 99 = some _ from rfl) (show (v3 : Int32).toInt = v3.toInt from rfl) (by omega)
              exact (L 1000000) _ _ _ hB31 (by have q0 : (0 : Int32).toInt = 0 := rfl; omega) (by have q0 : (0 : Int32).toInt = 0 := rfl; omega)
            · skip
              have d32 : ((v3.toInt) : Int) < (0) := ci_nle rfl rfl c28
              refine w_X12_no ?_
              have hB33 : Bd (uI (uI (uI I 97 1 0) 97 0 0) 97 0 6) := Bd.o0 hB8 (show isO 112 97 12 = true from rfl) (by omega) (show bnd 12 0 = none from rfl)
              refine ⟨Or.inl rfl, ?_⟩
              intro o34
              refine ⟨Or.inl rfl, ?_⟩
              exact hQ _ _ _ _ hB33 trivial
          · skip
            have d35 : ((60) : Int) < (v3.toInt) := ci_nle rfl rfl c26
            refine w_X12_no ?_
            have hB36 : Bd (uI (uI (uI I 97 1 0) 97 0 0) 97 0 5) := Bd.o0 hB8 (show isO 112 97 12 = true from rfl) (by omega) (show bnd 12 0 = none from rfl)
            refine ⟨Or.inl rfl, ?_⟩
            intro o37
            refine ⟨Or.inl rfl, ?_⟩
            exact hQ _ _ _ _ hB36 trivial
        · skip
          have d38 : ((3) : Int) < (v2.toInt) := ci_nle rfl rfl c24
          refine w_X12_no ?_
          have hB39 : Bd (uI (uI (uI I 97 1 0) 97 0 0) 97 0 1) := Bd.o0 hB8 (show isO 112 97 12 = true from rfl) (by omega) (show bnd 12 0 = none from rfl)
          refine ⟨Or.inl rfl, ?_⟩
          intro o40
          refine ⟨Or.inl rfl, ?_⟩
          exact hQ _ _ _ _ hB39 trivial
set_option maxHeartbeats 2000000 in
theorem sp_X12_write {d : Nat} {Q : Qt} {v1 : Int32} {v2 : Int32} {v3 : Int64} {I : Im} {J : Jm} {R : Rm} (hB0 : Bd I) (hR0 : RI R) (hQ : ∀ (x : Int32) (y : Int64) (I2 : Im) (J2 : Jm), Bd I2 → (True) → Q x y I2 J2 R) : AM (d + 3) 184 112 [.ref 97, .int v1, .int v2, .long v3] I J R Q := by
  have i_v1 := i32 v1
  have i_v2 := i32 v2
  have i_v3 := i64 v3
  refine am_X12_write (fun P hc => ?_)
  refine sg_X12_write_0 hc _ _ _ _ _ _ ?_
  have hB1 : Bd (uI I 97 1 0) := Bd.o0 hB0 (show isO 112 97 12 = true from rfl) (by omega) (show bnd 12 1 = none from rfl)
  refine w_X12_placed ?_
  refine w_X12_trayed ?_
  refine ⟨fun c2 => ?_, fun c2 => ?_⟩
  · skip
    have d3 : ((v1.toInt) : Int) < (0) := ci_lt rfl rfl c2
    refine ⟨fun c4 => ?_, fun c4 => ?_⟩
    · exact absurd c4 (by decide)
    · skip
      have hB5 : Bd (uI (uI I 97 1 0) 97 0 1) := Bd.o0 hB1 (show isO 112 97 12 = true from rfl) (by omega) (show bnd 12 0 = none from rfl)
      refine ⟨fun c6 => ?_, fun c6 => ?_⟩
      · skip
        have e7 : (((uI (uI I 97 1 0) 97 0 1) 97 0) : Int32).toInt = 1 := Eq.trans (congrArg Int32.toInt rd_eq) rfl
        have d8 : ((1) : Int) ≤ (0) := ci_le e7 rfl c6
        refine ⟨vp_of (a := v1.toInt) rfl (by omega) (by omega), ?_⟩
        refine sp_X12_trims hB5 hR0 (fun x9 y14 I10 J11 hB12 p13 => ?_)
        have e15 : ((60 * v1) : Int32).toInt = (60) * (v1.toInt) := ti_mul rfl rfl (by omega)
        have e16 : (((60 * v1) + v2) : Int32).toInt = ((60 * v1.toInt)) + (v2.toInt) := ti_add e15 rfl (by omega)
        refine ⟨vp_of (a := ((60 * v1.toInt) + v2.toInt)) e16 (by omega) (by omega), ?_⟩
        refine ⟨Or.inr rfl, ?_⟩
        exact hQ _ _ _ _ hB12 trivial
      · skip
        have e17 : (((uI (uI I 97 1 0) 97 0 1) 97 0) : Int32).toInt = 1 := Eq.trans (congrArg Int32.toInt rd_eq) rfl
        have d18 : ((0) : Int) < (1) := ci_nle e17 rfl c6
        refine ⟨Or.inl rfl, ?_⟩
        exact hQ _ _ _ _ hB5 trivial
  · skip
    have d19 : ((0) : Int) ≤ (v1.toInt) := ci_nlt rfl rfl c2
    refine ⟨fun c20 => ?_, fun c20 => ?_⟩
    · skip
      have d21 : ((v1.toInt) : Int) < (4) := ci_lt rfl rfl c20
      refine ⟨vp_of (a := v1.toInt) rfl (by omega) (by omega), ?_⟩
      refine ⟨fun c22 => ?_, fun c22 => ?_⟩
      · skip
        have b23 := Bd.a hB0 (Int32.toNatClampNeg v1) (show bna 99 = some _ from rfl)
        have e24 : (((uI I 97 1 0) 99 (Int32.toNatClampNeg v1)) : Int32).toInt = (I 99 (Int32.toNatClampNeg v1)).toInt := Eq.trans (congrArg Int32.toInt (rd_ne (by omega))) rfl
        have d25 : ((0) : Int) ≤ ((I 99 (Int32.toNatClampNeg v1)).toInt) := ci_le rfl e24 c22
        refine ⟨fun c26 => ?_, fun c26 => ?_⟩
        · skip
          refine ⟨fun c27 => ?_, fun c27 => ?_⟩
          · skip
            have d28 : ((v2.toInt) : Int) < (0) := ci_lt rfl rfl c27
            have hB29 : Bd (uI (uI I 97 1 0) 97 0 4) := Bd.o0 hB1 (show isO 112 97 12 = true from rfl) (by omega) (show bnd 12 0 = none from rfl)
            refine ⟨fun c30 => ?_, fun c30 => ?_⟩
            · skip
              have e31 : (((uI (uI I 97 1 0) 97 0 4) 97 0) : Int32).toInt = 4 := Eq.trans (congrArg Int32.toInt rd_eq) rfl
              have d32 : ((4) : Int) ≤ (0) := ci_le e31 rfl c30
              refine ⟨vp_of (a := v1.toInt) rfl (by omega) (by omega), ?_⟩
              refine sp_X12_trims hB29 hR0 (fun x33 y38 I34 J35 hB36 p37 => ?_)
              have e39 : ((60 * v1) : Int32).toInt = (60) * (v1.toInt) := ti_mul rfl rfl (by omega)
              have e40 : (((60 * v1) + v2) : Int32).toInt = ((60 * v1.toInt)) + (v2.toInt) := ti_add e39 rfl (by omega)
              refine ⟨vp_of (a := ((60 * v1.toInt) + v2.toInt)) e40 (by omega) (by omega), ?_⟩
              refine ⟨Or.inr rfl, ?_⟩
              exact hQ _ _ _ _ hB36 trivial
            · skip
              have e41 : (((uI (uI I 97 1 0) 97 0 4) 97 0) : Int32).toInt = 4 := Eq.trans (congrArg Int32.toInt rd_eq) rfl
              have d42 : ((0) : Int) < (4) := ci_nle e41 rfl c30
              refine ⟨Or.inl rfl, ?_⟩
              exact hQ _ _ _ _ hB29 trivial
          · skip
            have d43 : ((0) : Int) ≤ (v2.toInt) := ci_nlt rfl rfl c27
            refine ⟨vp_of (a := v1.toInt) rfl (by omega) (by omega), ?_⟩
            refine ⟨fun c44 => ?_, fun c44 => ?_⟩
            · skip
              have d45 : ((v2.toInt) : Int) < ((I 99 (Int32.toNatClampNeg v1)).toInt) := ci_lt rfl e24 c44
              have hB46 : Bd (uI (uI I 97 1 0) 97 0 0) := Bd.o0 hB1 (show isO 112 97 12 = true from rfl) (by omega) (show bnd 12 0 = none from rfl)
              refine ⟨fun c47 => ?_, fun c47 => ?_⟩
              · skip
                have e48 : (((uI (uI I 97 1 0) 97 0 0) 97 0) : Int32).toInt = 0 := Eq.trans (congrArg Int32.toInt rd_eq) rfl
                have d49 : ((0) : Int) ≤ (0) := ci_le e48 rfl c47
                refine ⟨vp_of (a := v1.toInt) rfl (by omega) (by omega), ?_⟩
                refine sp_X12_trims hB46 hR0 (fun x50 y55 I51 J52 hB53 p54 => ?_)
                have e56 : ((60 * v1) : Int32).toInt = (60) * (v1.toInt) := ti_mul rfl rfl (by omega)
                have e57 : (((60 * v1) + v2) : Int32).toInt = ((60 * v1.toInt)) + (v2.toInt) := ti_add e56 rfl (by omega)
                refine ⟨vp_of (a := ((60 * v1.toInt) + v2.toInt)) e57 (by omega) (by omega), ?_⟩
                refine ⟨Or.inr rfl, ?_⟩
                exact hQ _ _ _ _ hB53 trivial
              · skip
                have e58 : (((uI (uI I 97 1 0) 97 0 0) 97 0) : Int32).toInt = 0 := Eq.trans (congrArg Int32.toInt rd_eq) rfl
                have d59 : ((0) : Int) < (0) := ci_nle e58 rfl c47
                refine ⟨Or.inl rfl, ?_⟩
                exact hQ _ _ _ _ hB46 trivial
            · skip
              have d60 : (((I 99 (Int32.toNatClampNeg v1)).toInt) : Int) ≤ (v2.toInt) := ci_nlt rfl e24 c44
              have hB61 : Bd (uI (uI I 97 1 0) 97 0 4) := Bd.o0 hB1 (show isO 112 97 12 = true from rfl) (by omega) (show bnd 12 0 = none from rfl)
              refine ⟨fun c62 => ?_, fun c62 => ?_⟩
              · skip
                have e63 : (((uI (uI I 97 1 0) 97 0 4) 97 0) : Int32).toInt = 4 := Eq.trans (congrArg Int32.toInt rd_eq) rfl
                have d64 : ((4) : Int) ≤ (0) := ci_le e63 rfl c62
                refine ⟨vp_of (a := v1.toInt) rfl (by omega) (by omega), ?_⟩
                refine sp_X12_trims hB61 hR0 (fun x65 y70 I66 J67 hB68 p69 => ?_)
                have e71 : ((60 * v1) : Int32).toInt = (60) * (v1.toInt) := ti_mul rfl rfl (by omega)
                have e72 : (((60 * v1) + v2) : Int32).toInt = ((60 * v1.toInt)) + (v2.toInt) := ti_add e71 rfl (by omega)
                refine ⟨vp_of (a := ((60 * v1.toInt) + v2.toInt)) e72 (by omega) (by omega), ?_⟩
                refine ⟨Or.inr rfl, ?_⟩
                exact hQ _ _ _ _ hB68 trivial
              · skip
                have e73 : (((uI (uI I 97 1 0) 97 0 4) 97 0) : Int32).toInt = 4 := Eq.trans (congrArg Int32.toInt rd_eq) rfl
                have d74 : ((0) : Int) < (4) := ci_nle e73 rfl c62
                refine ⟨Or.inl rfl, ?_⟩
                exact hQ _ _ _ _ hB61 trivial
        · exact absurd c26 (by decide)
      · skip
        have b75 := Bd.a hB0 (Int32.toNatClampNeg v1) (show bna 99 = some _ from rfl)
        have e76 : (((uI I 97 1 0) 99 (Int32.toNatClampNeg v1)) : Int32).toInt = (I 99 (Int32.toNatClampNeg v1)).toInt := Eq.trans (congrArg Int32.toInt (rd_ne (by omega))) rfl
        have d77 : (((I 99 (Int32.toNatClampNeg v1)).toInt) : Int) < (0) := ci_nle rfl e76 c22
        refine ⟨fun c78 => ?_, fun c78 => ?_⟩
        · exact absurd c78 (by decide)
        · skip
          have hB79 : Bd (uI (uI I 97 1 0) 97 0 3) := Bd.o0 hB1 (show isO 112 97 12 = true from rfl) (by omega) (show bnd 12 0 = none from rfl)
          refine ⟨fun c80 => ?_, fun c80 => ?_⟩
          · skip
            have e81 : (((uI (uI I 97 1 0) 97 0 3) 97 0) : Int32).toInt = 3 := Eq.trans (congrArg Int32.toInt rd_eq) rfl
            have d82 : ((3) : Int) ≤ (0) := ci_le e81 rfl c80
            refine ⟨vp_of (a := v1.toInt) rfl (by omega) (by omega), ?_⟩
            refine sp_X12_trims hB79 hR0 (fun x83 y88 I84 J85 hB86 p87 => ?_)
            have e89 : ((60 * v1) : Int32).toInt = (60) * (v1.toInt) := ti_mul rfl rfl (by omega)
            have e90 : (((60 * v1) + v2) : Int32).toInt = ((60 * v1.toInt)) + (v2.toInt) := ti_add e89 rfl (by omega)
            refine ⟨vp_of (a := ((60 * v1.toInt) + v2.toInt)) e90 (by omega) (by omega), ?_⟩
            refine ⟨Or.inr rfl, ?_⟩
            exact hQ _ _ _ _ hB86 trivial
          · skip
            have e91 : (((uI (uI I 97 1 0) 97 0 3) 97 0) : Int32).toInt = 3 := Eq.trans (congrArg Int32.toInt rd_eq) rfl
            have d92 : ((0) : Int) < (3) := ci_nle e91 rfl c80
            refine ⟨Or.inl rfl, ?_⟩
            exact hQ _ _ _ _ hB79 trivial
    · skip
      have d93 : ((4) : Int) ≤ (v1.toInt) := ci_nlt rfl rfl c20
      refine ⟨fun c94 => ?_, fun c94 => ?_⟩
      · exact absurd c94 (by decide)
      · skip
        have hB95 : Bd (uI (uI I 97 1 0) 97 0 1) := Bd.o0 hB1 (show isO 112 97 12 = true from rfl) (by omega) (show bnd 12 0 = none from rfl)
        refine ⟨fun c96 => ?_, fun c96 => ?_⟩
        · skip
          have e97 : (((uI (uI I 97 1 0) 97 0 1) 97 0) : Int32).toInt = 1 := Eq.trans (congrArg Int32.toInt rd_eq) rfl
          have d98 : ((1) : Int) ≤ (0) := ci_le e97 rfl c96
          refine ⟨vp_of (a := v1.toInt) rfl (by omega) (by omega), ?_⟩
          refine sp_X12_trims hB95 hR0 (fun x99 y104 I100 J101 hB102 p103 => ?_)
          have e105 : ((60 * v1) : Int32).toInt = (60) * (v1.toInt) := ti_mul rfl rfl (by omega)
          have e106 : (((60 * v1) + v2) : Int32).toInt = ((60 * v1.toInt)) + (v2.toInt) := ti_add e105 rfl (by omega)
          refine ⟨vp_of (a := ((60 * v1.toInt) + v2.toInt)) e106 (by omega) (by omega), ?_⟩
          refine ⟨Or.inr rfl, ?_⟩
          exact hQ _ _ _ _ hB102 trivial
        · skip
          have e107 : (((uI (uI I 97 1 0) 97 0 1) 97 0) : Int32).toInt = 1 := Eq.trans (congrArg Int32.toInt rd_eq) rfl
          have d108 : ((0) : Int) < (1) := ci_nle e107 rfl c96
          refine ⟨Or.inl rfl, ?_⟩
          exact hQ _ _ _ _ hB95 trivial
set_option maxHeartbeats 2000000 in
theorem sp_X12_read {d : Nat} {Q : Qt} {v1 : Int32} {v2 : Int32} {I : Im} {J : Jm} {R : Rm} (hB0 : Bd I) (hR0 : RI R) (hQ : ∀ (x : Int32) (y : Int64) (I2 : Im) (J2 : Jm), Bd I2 → (True) → Q x y I2 J2 R) : AM (d + 3) 185 112 [.ref 97, .int v1, .int v2] I J R Q := by
  have i_v1 := i32 v1
  have i_v2 := i32 v2
  refine am_X12_read (fun P hc => ?_)
  refine sg_X12_read_0 hc _ _ _ _ _ ?_
  have hB1 : Bd (uI I 97 1 0) := Bd.o0 hB0 (show isO 112 97 12 = true from rfl) (by omega) (show bnd 12 1 = none from rfl)
  refine w_X12_placed ?_
  refine w_X12_trayed ?_
  refine ⟨fun c2 => ?_, fun c2 => ?_⟩
  · skip
    have d3 : ((v1.toInt) : Int) < (0) := ci_lt rfl rfl c2
    refine ⟨fun c4 => ?_, fun c4 => ?_⟩
    · exact absurd c4 (by decide)
    · skip
      have hB5 : Bd (uI (uI I 97 1 0) 97 0 1) := Bd.o0 hB1 (show isO 112 97 12 = true from rfl) (by omega) (show bnd 12 0 = none from rfl)
      refine ⟨fun c6 => ?_, fun c6 => ?_⟩
      · skip
        have e7 : (((uI (uI I 97 1 0) 97 0 1) 97 0) : Int32).toInt = 1 := Eq.trans (congrArg Int32.toInt rd_eq) rfl
        have d8 : ((1) : Int) ≤ (0) := ci_le e7 rfl c6
        have e9 : ((60 * v1) : Int32).toInt = (60) * (v1.toInt) := ti_mul rfl rfl (by omega)
        have e10 : (((60 * v1) + v2) : Int32).toInt = ((60 * v1.toInt)) + (v2.toInt) := ti_add e9 rfl (by omega)
        refine ⟨vp_of (a := ((60 * v1.toInt) + v2.toInt)) e10 (by omega) (by omega), ?_⟩
        exact hQ _ _ _ _ hB5 trivial
      · skip
        have e11 : (((uI (uI I 97 1 0) 97 0 1) 97 0) : Int32).toInt = 1 := Eq.trans (congrArg Int32.toInt rd_eq) rfl
        have d12 : ((0) : Int) < (1) := ci_nle e11 rfl c6
        exact hQ _ _ _ _ hB5 trivial
  · skip
    have d13 : ((0) : Int) ≤ (v1.toInt) := ci_nlt rfl rfl c2
    refine ⟨fun c14 => ?_, fun c14 => ?_⟩
    · skip
      have d15 : ((v1.toInt) : Int) < (4) := ci_lt rfl rfl c14
      refine ⟨vp_of (a := v1.toInt) rfl (by omega) (by omega), ?_⟩
      refine ⟨fun c16 => ?_, fun c16 => ?_⟩
      · skip
        have b17 := Bd.a hB0 (Int32.toNatClampNeg v1) (show bna 99 = some _ from rfl)
        have e18 : (((uI I 97 1 0) 99 (Int32.toNatClampNeg v1)) : Int32).toInt = (I 99 (Int32.toNatClampNeg v1)).toInt := Eq.trans (congrArg Int32.toInt (rd_ne (by omega))) rfl
        have d19 : ((0) : Int) ≤ ((I 99 (Int32.toNatClampNeg v1)).toInt) := ci_le rfl e18 c16
        refine ⟨fun c20 => ?_, fun c20 => ?_⟩
        · skip
          refine ⟨fun c21 => ?_, fun c21 => ?_⟩
          · skip
            have d22 : ((v2.toInt) : Int) < (0) := ci_lt rfl rfl c21
            have hB23 : Bd (uI (uI I 97 1 0) 97 0 4) := Bd.o0 hB1 (show isO 112 97 12 = true from rfl) (by omega) (show bnd 12 0 = none from rfl)
            refine ⟨fun c24 => ?_, fun c24 => ?_⟩
            · skip
              have e25 : (((uI (uI I 97 1 0) 97 0 4) 97 0) : Int32).toInt = 4 := Eq.trans (congrArg Int32.toInt rd_eq) rfl
              have d26 : ((4) : Int) ≤ (0) := ci_le e25 rfl c24
              have e27 : ((60 * v1) : Int32).toInt = (60) * (v1.toInt) := ti_mul rfl rfl (by omega)
              have e28 : (((60 * v1) + v2) : Int32).toInt = ((60 * v1.toInt)) + (v2.toInt) := ti_add e27 rfl (by omega)
              refine ⟨vp_of (a := ((60 * v1.toInt) + v2.toInt)) e28 (by omega) (by omega), ?_⟩
              exact hQ _ _ _ _ hB23 trivial
            · skip
              have e29 : (((uI (uI I 97 1 0) 97 0 4) 97 0) : Int32).toInt = 4 := Eq.trans (congrArg Int32.toInt rd_eq) rfl
              have d30 : ((0) : Int) < (4) := ci_nle e29 rfl c24
              exact hQ _ _ _ _ hB23 trivial
          · skip
            have d31 : ((0) : Int) ≤ (v2.toInt) := ci_nlt rfl rfl c21
            refine ⟨vp_of (a := v1.toInt) rfl (by omega) (by omega), ?_⟩
            refine ⟨fun c32 => ?_, fun c32 => ?_⟩
            · skip
              have d33 : ((v2.toInt) : Int) < ((I 99 (Int32.toNatClampNeg v1)).toInt) := ci_lt rfl e18 c32
              have hB34 : Bd (uI (uI I 97 1 0) 97 0 0) := Bd.o0 hB1 (show isO 112 97 12 = true from rfl) (by omega) (show bnd 12 0 = none from rfl)
              refine ⟨fun c35 => ?_, fun c35 => ?_⟩
              · skip
                have e36 : (((uI (uI I 97 1 0) 97 0 0) 97 0) : Int32).toInt = 0 := Eq.trans (congrArg Int32.toInt rd_eq) rfl
                have d37 : ((0) : Int) ≤ (0) := ci_le e36 rfl c35
                have e38 : ((60 * v1) : Int32).toInt = (60) * (v1.toInt) := ti_mul rfl rfl (by omega)
                have e39 : (((60 * v1) + v2) : Int32).toInt = ((60 * v1.toInt)) + (v2.toInt) := ti_add e38 rfl (by omega)
                refine ⟨vp_of (a := ((60 * v1.toInt) + v2.toInt)) e39 (by omega) (by omega), ?_⟩
                exact hQ _ _ _ _ hB34 trivial
              · skip
                have e40 : (((uI (uI I 97 1 0) 97 0 0) 97 0) : Int32).toInt = 0 := Eq.trans (congrArg Int32.toInt rd_eq) rfl
                have d41 : ((0) : Int) < (0) := ci_nle e40 rfl c35
                exact hQ _ _ _ _ hB34 trivial
            · skip
              have d42 : (((I 99 (Int32.toNatClampNeg v1)).toInt) : Int) ≤ (v2.toInt) := ci_nlt rfl e18 c32
              have hB43 : Bd (uI (uI I 97 1 0) 97 0 4) := Bd.o0 hB1 (show isO 112 97 12 = true from rfl) (by omega) (show bnd 12 0 = none from rfl)
              refine ⟨fun c44 => ?_, fun c44 => ?_⟩
              · skip
                have e45 : (((uI (uI I 97 1 0) 97 0 4) 97 0) : Int32).toInt = 4 := Eq.trans (congrArg Int32.toInt rd_eq) rfl
                have d46 : ((4) : Int) ≤ (0) := ci_le e45 rfl c44
                have e47 : ((60 * v1) : Int32).toInt = (60) * (v1.toInt) := ti_mul rfl rfl (by omega)
                have e48 : (((60 * v1) + v2) : Int32).toInt = ((60 * v1.toInt)) + (v2.toInt) := ti_add e47 rfl (by omega)
                refine ⟨vp_of (a := ((60 * v1.toInt) + v2.toInt)) e48 (by omega) (by omega), ?_⟩
                exact hQ _ _ _ _ hB43 trivial
              · skip
                have e49 : (((uI (uI I 97 1 0) 97 0 4) 97 0) : Int32).toInt = 4 := Eq.trans (congrArg Int32.toInt rd_eq) rfl
                have d50 : ((0) : Int) < (4) := ci_nle e49 rfl c44
                exact hQ _ _ _ _ hB43 trivial
        · exact absurd c20 (by decide)
      · skip
        have b51 := Bd.a hB0 (Int32.toNatClampNeg v1) (show bna 99 = some _ from rfl)
        have e52 : (((uI I 97 1 0) 99 (Int32.toNatClampNeg v1)) : Int32).toInt = (I 99 (Int32.toNatClampNeg v1)).toInt := Eq.trans (congrArg Int32.toInt (rd_ne (by omega))) rfl
        have d53 : (((I 99 (Int32.toNatClampNeg v1)).toInt) : Int) < (0) := ci_nle rfl e52 c16
        refine ⟨fun c54 => ?_, fun c54 => ?_⟩
        · exact absurd c54 (by decide)
        · skip
          have hB55 : Bd (uI (uI I 97 1 0) 97 0 3) := Bd.o0 hB1 (show isO 112 97 12 = true from rfl) (by omega) (show bnd 12 0 = none from rfl)
          refine ⟨fun c56 => ?_, fun c56 => ?_⟩
          · skip
            have e57 : (((uI (uI I 97 1 0) 97 0 3) 97 0) : Int32).toInt = 3 := Eq.trans (congrArg Int32.toInt rd_eq) rfl
            have d58 : ((3) : Int) ≤ (0) := ci_le e57 rfl c56
            have e59 : ((60 * v1) : Int32).toInt = (60) * (v1.toInt) := ti_mul rfl rfl (by omega)
            have e60 : (((60 * v1) + v2) : Int32).toInt = ((60 * v1.toInt)) + (v2.toInt) := ti_add e59 rfl (by omega)
            refine ⟨vp_of (a := ((60 * v1.toInt) + v2.toInt)) e60 (by omega) (by omega), ?_⟩
            exact hQ _ _ _ _ hB55 trivial
          · skip
            have e61 : (((uI (uI I 97 1 0) 97 0 3) 97 0) : Int32).toInt = 3 := Eq.trans (congrArg Int32.toInt rd_eq) rfl
            have d62 : ((0) : Int) < (3) := ci_nle e61 rfl c56
            exact hQ _ _ _ _ hB55 trivial
    · skip
      have d63 : ((4) : Int) ≤ (v1.toInt) := ci_nlt rfl rfl c14
      refine ⟨fun c64 => ?_, fun c64 => ?_⟩
      · exact absurd c64 (by decide)
      · skip
        have hB65 : Bd (uI (uI I 97 1 0) 97 0 1) := Bd.o0 hB1 (show isO 112 97 12 = true from rfl) (by omega) (show bnd 12 0 = none from rfl)
        refine ⟨fun c66 => ?_, fun c66 => ?_⟩
        · skip
          have e67 : (((uI (uI I 97 1 0) 97 0 1) 97 0) : Int32).toInt = 1 := Eq.trans (congrArg Int32.toInt rd_eq) rfl
          have d68 : ((1) : Int) ≤ (0) := ci_le e67 rfl c66
          have e69 : ((60 * v1) : Int32).toInt = (60) * (v1.toInt) := ti_mul rfl rfl (by omega)
          have e70 : (((60 * v1) + v2) : Int32).toInt = ((60 * v1.toInt)) + (v2.toInt) := ti_add e69 rfl (by omega)
          refine ⟨vp_of (a := ((60 * v1.toInt) + v2.toInt)) e70 (by omega) (by omega), ?_⟩
          exact hQ _ _ _ _ hB65 trivial
        · skip
          have e71 : (((uI (uI I 97 1 0) 97 0 1) 97 0) : Int32).toInt = 1 := Eq.trans (congrArg Int32.toInt rd_eq) rfl
          have d72 : ((0) : Int) < (1) := ci_nle e71 rfl c66
          exact hQ _ _ _ _ hB65 trivial
set_option maxHeartbeats 2000000 in
theorem sp_X12_pour {d : Nat} {Q : Qt} {v1 : Int32} {v2 : Int32} {v3 : Int32} {v4 : Int32} {v5 : Int32} {I : Im} {J : Jm} {R : Rm} (hB0 : Bd I) (hR0 : RI R) (hQ : ∀ (x : Int32) (y : Int64) (I2 : Im) (J2 : Jm), Bd I2 → (True) → Q x y I2 J2 R) : AM (d + 2) 186 112 [.ref 97, .int v1, .int v2, .int v3, .int v4, .int v5] I J R Q := by
  have i_v1 := i32 v1
  have i_v2 := i32 v2
  have i_v3 := i32 v3
  have i_v4 := i32 v4
  have i_v5 := i32 v5
  refine am_X12_pour (fun P hc => ?_)
  have L : ∀ n : Nat, (∀ (v6 : Int32) (v7 : Int32) (M : Im) (J : Jm), Bd M → (0 ≤ v1.toInt ∧ v1.toInt ≤ 3 ∧ 0 ≤ v3.toInt ∧ v3.toInt ≤ 3 ∧ 0 ≤ v2.toInt ∧ 0 ≤ v4.toInt ∧ v2.toInt + v5.toInt ≤ 60 ∧ v4.toInt + v5.toInt ≤ 60 ∧ 0 ≤ v5.toInt ∧ 0 ≤ v7.toInt ∧ v7.toInt ≤ v5.toInt) → 100 - v7.toInt < (n : Int) → P 158 112 [(0, .ref 97), (1, .int v1), (2, .int v2), (3, .int v3), (4, .int v4), (5, .int v5), (6, .int v6), (7, .int v7)] [] M J R) := by
    intro n
    induction n with
    | zero =>
      exact fun v6 v7 M J _ hi hm => absurd hm (by omega)
    | succ n ih =>
      intro v6 v7 M J hB hi hm
      have i_v1 := i32 v1
      have i_v2 := i32 v2
      have i_v3 := i32 v3
      have i_v4 := i32 v4
      have i_v5 := i32 v5
      have i_v6 := i32 v6
      have i_v7 := i32 v7
      refine sg_X12_pour_158 hc _ _ _ _ _ _ _ _ _ _ ?_
      refine ⟨fun c1 => ?_, fun c1 => ?_⟩
      · skip
        have d2 : ((v5.toInt) : Int) ≤ (v7.toInt) := ci_le rfl rfl c1
        refine ⟨Or.inr rfl, ?_⟩
        exact hQ _ _ _ _ hB trivial
      · skip
        have d3 : ((v7.toInt) : Int) < (v5.toInt) := ci_nle rfl rfl c1
        refine ⟨fun c4 => ?_, fun c4 => ?_⟩
        · skip
          have d5 : ((v6.toInt) : Int) = (0) := ci_eq rfl rfl c4
          have e6 : ((60 * v1) : Int32).toInt = (60) * (v1.toInt) := ti_mul rfl rfl (by omega)
          have e7 : (((60 * v1) + v2) : Int32).toInt = ((60 * v1.toInt)) + (v2.toInt) := ti_add e6 rfl (by omega)
          have e8 : ((((60 * v1) + v2) + v7) : Int32).toInt = (((60 * v1.toInt) + v2.toInt)) + (v7.toInt) := ti_add e7 rfl (by omega)
          refine ⟨vp_of (a := (((60 * v1.toInt) + v2.toInt) + v7.toInt)) e8 (by omega) (by omega), ?_⟩
          have e9 : ((60 * v3) : Int32).toInt = (60) * (v3.toInt) := ti_mul rfl rfl (by omega)
          have e10 : (((60 * v3) + v4) : Int32).toInt = ((60 * v3.toInt)) + (v4.toInt) := ti_add e9 rfl (by omega)
          have e11 : ((((60 * v3) + v4) + v7) : Int32).toInt = (((60 * v3.toInt) + v4.toInt)) + (v7.toInt) := ti_add e10 rfl (by omega)
          refine ⟨vp_of (a := (((60 * v3.toInt) + v4.toInt) + v7.toInt)) e11 (by omega) (by omega), ?_⟩
          have e12 : ((v7 + 1) : Int32).toInt = (v7.toInt) + (1) := ti_add rfl rfl (by omega)
          exact ih _ _ _ _ hB (by have q0 : ((v7 + 1) : Int32).toInt = (v7.toInt + 1) := e12; omega) (by have q0 : ((v7 + 1) : Int32).toInt = (v7.toInt + 1) := e12; omega)
        · skip
          have d13 : ¬ ((v6.toInt) : Int) = (0) := ci_ne rfl rfl c4
          have e14 : ((60 * v1) : Int32).toInt = (60) * (v1.toInt) := ti_mul rfl rfl (by omega)
          have e15 : (((60 * v1) + v2) : Int32).toInt = ((60 * v1.toInt)) + (v2.toInt) := ti_add e14 rfl (by omega)
          have e16 : ((v5 - 1) : Int32).toInt = (v5.toInt) - (1) := ti_sub rfl rfl (by omega)
          have e17 : (((v5 - 1) - v7) : Int32).toInt = ((v5.toInt - 1)) - (v7.toInt) := ti_sub e16 rfl (by omega)
          have e18 : ((((60 * v1) + v2) + ((v5 - 1) - v7)) : Int32).toInt = (((60 * v1.toInt) + v2.toInt)) + (((v5.toInt - 1) - v7.toInt)) := ti_add e15 e17 (by omega)
          refine ⟨vp_of (a := (((60 * v1.toInt) + v2.toInt) + ((v5.toInt - 1) - v7.toInt))) e18 (by omega) (by omega), ?_⟩
          have e19 : ((60 * v3) : Int32).toInt = (60) * (v3.toInt) := ti_mul rfl rfl (by omega)
          have e20 : (((60 * v3) + v4) : Int32).toInt = ((60 * v3.toInt)) + (v4.toInt) := ti_add e19 rfl (by omega)
          have e21 : ((((60 * v3) + v4) + ((v5 - 1) - v7)) : Int32).toInt = (((60 * v3.toInt) + v4.toInt)) + (((v5.toInt - 1) - v7.toInt)) := ti_add e20 e17 (by omega)
          refine ⟨vp_of (a := (((60 * v3.toInt) + v4.toInt) + ((v5.toInt - 1) - v7.toInt))) e21 (by omega) (by omega), ?_⟩
          have e22 : ((v7 + 1) : Int32).toInt = (v7.toInt) + (1) := ti_add rfl rfl (by omega)
          exact ih _ _ _ _ hB (by have q0 : ((v7 + 1) : Int32).toInt = (v7.toInt + 1) := e22; omega) (by have q0 : ((v7 + 1) : Int32).toInt = (v7.toInt + 1) := e22; omega)
  refine sg_X12_pour_0 hc _ _ _ _ _ _ _ _ ?_
  have hB23 : Bd (uI I 97 1 0) := Bd.o0 hB0 (show isO 112 97 12 = true from rfl) (by omega) (show bnd 12 1 = none from rfl)
  have hB24 : Bd (uI (uI I 97 1 0) 97 0 0) := Bd.o0 hB23 (show isO 112 97 12 = true from rfl) (by omega) (show bnd 12 0 = none from rfl)
  refine ⟨fun c25 => ?_, fun c25 => ?_⟩
  · skip
    have d26 : ((v1.toInt) : Int) < (0) := ci_lt rfl rfl c25
    refine w_X12_no ?_
    have hB27 : Bd (uI (uI (uI I 97 1 0) 97 0 0) 97 0 1) := Bd.o0 hB24 (show isO 112 97 12 = true from rfl) (by omega) (show bnd 12 0 = none from rfl)
    refine ⟨Or.inl rfl, ?_⟩
    intro o28
    refine ⟨Or.inl rfl, ?_⟩
    exact hQ _ _ _ _ hB27 trivial
  · skip
    have d29 : ((0) : Int) ≤ (v1.toInt) := ci_nlt rfl rfl c25
    refine ⟨fun c30 => ?_, fun c30 => ?_⟩
    · skip
      have d31 : ((4) : Int) ≤ (v1.toInt) := ci_le rfl rfl c30
      refine w_X12_no ?_
      have hB32 : Bd (uI (uI (uI I 97 1 0) 97 0 0) 97 0 1) := Bd.o0 hB24 (show isO 112 97 12 = true from rfl) (by omega) (show bnd 12 0 = none from rfl)
      refine ⟨Or.inl rfl, ?_⟩
      intro o33
      refine ⟨Or.inl rfl, ?_⟩
      exact hQ _ _ _ _ hB32 trivial
    · skip
      have d34 : ((v1.toInt) : Int) < (4) := ci_nle rfl rfl c30
      refine ⟨fun c35 => ?_, fun c35 => ?_⟩
      · skip
        have d36 : ((v3.toInt) : Int) < (0) := ci_lt rfl rfl c35
        refine w_X12_no ?_
        have hB37 : Bd (uI (uI (uI I 97 1 0) 97 0 0) 97 0 1) := Bd.o0 hB24 (show isO 112 97 12 = true from rfl) (by omega) (show bnd 12 0 = none from rfl)
        refine ⟨Or.inl rfl, ?_⟩
        intro o38
        refine ⟨Or.inl rfl, ?_⟩
        exact hQ _ _ _ _ hB37 trivial
      · skip
        have d39 : ((0) : Int) ≤ (v3.toInt) := ci_nlt rfl rfl c35
        refine ⟨fun c40 => ?_, fun c40 => ?_⟩
        · skip
          have d41 : ((v3.toInt) : Int) < (4) := ci_lt rfl rfl c40
          refine ⟨vp_of (a := v1.toInt) rfl (by omega) (by omega), ?_⟩
          refine ⟨fun c42 => ?_, fun c42 => ?_⟩
          · skip
            have b43 := Bd.a hB0 (Int32.toNatClampNeg v1) (show bna 99 = some _ from rfl)
            have e44 : (((uI (uI I 97 1 0) 97 0 0) 99 (Int32.toNatClampNeg v1)) : Int32).toInt = (I 99 (Int32.toNatClampNeg v1)).toInt := Eq.trans (congrArg Int32.toInt (Eq.trans (rd_ne (by omega)) (rd_ne (by omega)))) rfl
            have d45 : (((I 99 (Int32.toNatClampNeg v1)).toInt) : Int) < (0) := ci_lt e44 rfl c42
            refine w_X12_no ?_
            have hB46 : Bd (uI (uI (uI I 97 1 0) 97 0 0) 97 0 3) := Bd.o0 hB24 (show isO 112 97 12 = true from rfl) (by omega) (show bnd 12 0 = none from rfl)
            refine ⟨Or.inl rfl, ?_⟩
            intro o47
            refine ⟨Or.inl rfl, ?_⟩
            exact hQ _ _ _ _ hB46 trivial
          · skip
            have b48 := Bd.a hB0 (Int32.toNatClampNeg v1) (show bna 99 = some _ from rfl)
            have e49 : (((uI (uI I 97 1 0) 97 0 0) 99 (Int32.toNatClampNeg v1)) : Int32).toInt = (I 99 (Int32.toNatClampNeg v1)).toInt := Eq.trans (congrArg Int32.toInt (Eq.trans (rd_ne (by omega)) (rd_ne (by omega)))) rfl
            have d50 : ((0) : Int) ≤ ((I 99 (Int32.toNatClampNeg v1)).toInt) := ci_nlt e49 rfl c42
            refine ⟨vp_of (a := v3.toInt) rfl (by omega) (by omega), ?_⟩
            refine ⟨fun c51 => ?_, fun c51 => ?_⟩
            · skip
              have b52 := Bd.a hB0 (Int32.toNatClampNeg v3) (show bna 99 = some _ from rfl)
              have e53 : (((uI (uI I 97 1 0) 97 0 0) 99 (Int32.toNatClampNeg v3)) : Int32).toInt = (I 99 (Int32.toNatClampNeg v3)).toInt := Eq.trans (congrArg Int32.toInt (Eq.trans (rd_ne (by omega)) (rd_ne (by omega)))) rfl
              have d54 : ((0) : Int) ≤ ((I 99 (Int32.toNatClampNeg v3)).toInt) := ci_le rfl e53 c51
              refine ⟨vp_of (a := v1.toInt) rfl (by omega) (by omega), ?_⟩
              refine ⟨vp_of (a := v3.toInt) rfl (by omega) (by omega), ?_⟩
              refine ⟨fun c55 => ?_, fun c55 => ?_⟩
              · skip
                have e56 : (((uI (uI I 97 1 0) 97 0 0) 98 (Int32.toNatClampNeg v1)) : Int32).toInt = (I 98 (Int32.toNatClampNeg v1)).toInt := Eq.trans (congrArg Int32.toInt (Eq.trans (rd_ne (by omega)) (rd_ne (by omega)))) rfl
                have e57 : (((uI (uI I 97 1 0) 97 0 0) 98 (Int32.toNatClampNeg v3)) : Int32).toInt = (I 98 (Int32.toNatClampNeg v3)).toInt := Eq.trans (congrArg Int32.toInt (Eq.trans (rd_ne (by omega)) (rd_ne (by omega)))) rfl
                have d58 : (((I 98 (Int32.toNatClampNeg v1)).toInt) : Int) = ((I 98 (Int32.toNatClampNeg v3)).toInt) := ci_eq e56 e57 c55
                refine ⟨fun c59 => ?_, fun c59 => ?_⟩
                · skip
                  have d60 : ((0) : Int) ≤ (v5.toInt) := ci_le rfl rfl c59
                  refine ⟨fun c61 => ?_, fun c61 => ?_⟩
                  · skip
                    have d62 : ((v2.toInt) : Int) < (0) := ci_lt rfl rfl c61
                    refine w_X12_no ?_
                    have hB63 : Bd (uI (uI (uI I 97 1 0) 97 0 0) 97 0 4) := Bd.o0 hB24 (show isO 112 97 12 = true from rfl) (by omega) (show bnd 12 0 = none from rfl)
                    refine ⟨Or.inl rfl, ?_⟩
                    intro o64
                    refine ⟨Or.inl rfl, ?_⟩
                    exact hQ _ _ _ _ hB63 trivial
                  · skip
                    have d65 : ((0) : Int) ≤ (v2.toInt) := ci_nlt rfl rfl c61
                    refine ⟨fun c66 => ?_, fun c66 => ?_⟩
                    · skip
                      have d67 : ((v4.toInt) : Int) < (0) := ci_lt rfl rfl c66
                      refine w_X12_no ?_
                      have hB68 : Bd (uI (uI (uI I 97 1 0) 97 0 0) 97 0 4) := Bd.o0 hB24 (show isO 112 97 12 = true from rfl) (by omega) (show bnd 12 0 = none from rfl)
                      refine ⟨Or.inl rfl, ?_⟩
                      intro o69
                      refine ⟨Or.inl rfl, ?_⟩
                      exact hQ _ _ _ _ hB68 trivial
                    · skip
                      have d70 : ((0) : Int) ≤ (v4.toInt) := ci_nlt rfl rfl c66
                      refine ⟨vp_of (a := v1.toInt) rfl (by omega) (by omega), ?_⟩
                      refine ⟨fun c71 => ?_, fun c71 => ?_⟩
                      · skip
                        rw [lg_cmp_gt] at c71
                        have e72 : (((Int32.toInt64 v2) + (Int32.toInt64 v5)) : Int64).toInt = (v2.toInt) + (v5.toInt) := tl_add (tl_i2l rfl) (tl_i2l rfl) (by omega)
                        have i73 := i32 (((uI (uI I 97 1 0) 97 0 0) 99 (Int32.toNatClampNeg v1)))
                        have d74 : (((I 99 (Int32.toNatClampNeg v1)).toInt) : Int) < ((v2.toInt + v5.toInt)) := cl_lt (tl_i2l e49) e72 c71
                        refine w_X12_no ?_
                        have hB75 : Bd (uI (uI (uI I 97 1 0) 97 0 0) 97 0 4) := Bd.o0 hB24 (show isO 112 97 12 = true from rfl) (by omega) (show bnd 12 0 = none from rfl)
                        refine ⟨Or.inl rfl, ?_⟩
                        intro o76
                        refine ⟨Or.inl rfl, ?_⟩
                        exact hQ _ _ _ _ hB75 trivial
                      · skip
                        rw [lg_cmp_gt] at c71
                        have e77 : (((Int32.toInt64 v2) + (Int32.toInt64 v5)) : Int64).toInt = (v2.toInt) + (v5.toInt) := tl_add (tl_i2l rfl) (tl_i2l rfl) (by omega)
                        have i78 := i32 (((uI (uI I 97 1 0) 97 0 0) 99 (Int32.toNatClampNeg v1)))
                        have d79 : (((v2.toInt + v5.toInt)) : Int) ≤ ((I 99 (Int32.toNatClampNeg v1)).toInt) := cl_nlt (tl_i2l e49) e77 c71
                        refine ⟨vp_of (a := v3.toInt) rfl (by omega) (by omega), ?_⟩
                        refine ⟨fun c80 => ?_, fun c80 => ?_⟩
                        · skip
                          rw [lg_cmp_le] at c80
                          have e81 : (((Int32.toInt64 v4) + (Int32.toInt64 v5)) : Int64).toInt = (v4.toInt) + (v5.toInt) := tl_add (tl_i2l rfl) (tl_i2l rfl) (by omega)
                          have i82 := i32 (((uI (uI I 97 1 0) 97 0 0) 99 (Int32.toNatClampNeg v3)))
                          have d83 : (((v4.toInt + v5.toInt)) : Int) ≤ ((I 99 (Int32.toNatClampNeg v3)).toInt) := cl_le e81 (tl_i2l e53) c80
                          refine ⟨fun c84 => ?_, fun c84 => ?_⟩
                          · skip
                            have d85 : ((v4.toInt) : Int) ≤ (v2.toInt) := ci_le rfl rfl c84
                            exact (L 1000000) _ _ _ _ hB24 (by have q0 : (0 : Int32).toInt = 0 := rfl; omega) (by have q0 : (0 : Int32).toInt = 0 := rfl; omega)
                          · skip
                            have d86 : ((v2.toInt) : Int) < (v4.toInt) := ci_nle rfl rfl c84
                            exact (L 1000000) _ _ _ _ hB24 (by have q0 : (0 : Int32).toInt = 0 := rfl; omega) (by have q0 : (0 : Int32).toInt = 0 := rfl; omega)
                        · skip
                          rw [lg_cmp_le] at c80
                          have e87 : (((Int32.toInt64 v4) + (Int32.toInt64 v5)) : Int64).toInt = (v4.toInt) + (v5.toInt) := tl_add (tl_i2l rfl) (tl_i2l rfl) (by omega)
                          have i88 := i32 (((uI (uI I 97 1 0) 97 0 0) 99 (Int32.toNatClampNeg v3)))
                          have d89 : (((I 99 (Int32.toNatClampNeg v3)).toInt) : Int) < ((v4.toInt + v5.toInt)) := cl_nle e87 (tl_i2l e53) c80
                          refine w_X12_no ?_
                          have hB90 : Bd (uI (uI (uI I 97 1 0) 97 0 0) 97 0 4) := Bd.o0 hB24 (show isO 112 97 12 = true from rfl) (by omega) (show bnd 12 0 = none from rfl)
                          refine ⟨Or.inl rfl, ?_⟩
                          intro o91
                          refine ⟨Or.inl rfl, ?_⟩
                          exact hQ _ _ _ _ hB90 trivial
                · skip
                  have d92 : ((v5.toInt) : Int) < (0) := ci_nle rfl rfl c59
                  refine w_X12_no ?_
                  have hB93 : Bd (uI (uI (uI I 97 1 0) 97 0 0) 97 0 6) := Bd.o0 hB24 (show isO 112 97 12 = true from rfl) (by omega) (show bnd 12 0 = none from rfl)
                  refine ⟨Or.inl rfl, ?_⟩
                  intro o94
                  refine ⟨Or.inl rfl, ?_⟩
                  exact hQ _ _ _ _ hB93 trivial
              · skip
                have e95 : (((uI (uI I 97 1 0) 97 0 0) 98 (Int32.toNatClampNeg v1)) : Int32).toInt = (I 98 (Int32.toNatClampNeg v1)).toInt := Eq.trans (congrArg Int32.toInt (Eq.trans (rd_ne (by omega)) (rd_ne (by omega)))) rfl
                have e96 : (((uI (uI I 97 1 0) 97 0 0) 98 (Int32.toNatClampNeg v3)) : Int32).toInt = (I 98 (Int32.toNatClampNeg v3)).toInt := Eq.trans (congrArg Int32.toInt (Eq.trans (rd_ne (by omega)) (rd_ne (by omega)))) rfl
                have d97 : ¬ (((I 98 (Int32.toNatClampNeg v1)).toInt) : Int) = ((I 98 (Int32.toNatClampNeg v3)).toInt) := ci_ne e95 e96 c55
                refine w_X12_no ?_
                have hB98 : Bd (uI (uI (uI I 97 1 0) 97 0 0) 97 0 11) := Bd.o0 hB24 (show isO 112 97 12 = true from rfl) (by omega) (show bnd 12 0 = none from rfl)
                refine ⟨Or.inl rfl, ?_⟩
                intro o99
                refine ⟨Or.inl rfl, ?_⟩
                exact hQ _ _ _ _ hB98 trivial
            · skip
              have b100 := Bd.a hB0 (Int32.toNatClampNeg v3) (show bna 99 = some _ from rfl)
              have e101 : (((uI (uI I 97 1 0) 97 0 0) 99 (Int32.toNatClampNeg v3)) : Int32).toInt = (I 99 (Int32.toNatClampNeg v3)).toInt := Eq.trans (congrArg Int32.toInt (Eq.trans (rd_ne (by omega)) (rd_ne (by omega)))) rfl
              have d102 : (((I 99 (Int32.toNatClampNeg v3)).toInt) : Int) < (0) := ci_nle rfl e101 c51
              refine w_X12_no ?_
              have hB103 : Bd (uI (uI (uI I 97 1 0) 97 0 0) 97 0 3) := Bd.o0 hB24 (show isO 112 97 12 = true from rfl) (by omega) (show bnd 12 0 = none from rfl)
              refine ⟨Or.inl rfl, ?_⟩
              intro o104
              refine ⟨Or.inl rfl, ?_⟩
              exact hQ _ _ _ _ hB103 trivial
        · skip
          have d105 : ((4) : Int) ≤ (v3.toInt) := ci_nlt rfl rfl c40
          refine w_X12_no ?_
          have hB106 : Bd (uI (uI (uI I 97 1 0) 97 0 0) 97 0 1) := Bd.o0 hB24 (show isO 112 97 12 = true from rfl) (by omega) (show bnd 12 0 = none from rfl)
          refine ⟨Or.inl rfl, ?_⟩
          intro o107
          refine ⟨Or.inl rfl, ?_⟩
          exact hQ _ _ _ _ hB106 trivial
set_option maxHeartbeats 2000000 in
theorem sp_X12_sizeOf {d : Nat} {Q : Qt} {v0 : Int32} {I : Im} {J : Jm} {R : Rm} (hB0 : Bd I) (hR0 : RI R) (hQ : ∀ (x : Int32) (y : Int64) (I2 : Im) (J2 : Jm), Bd I2 → (I2 97 12 = I 97 12 ∧ I2 97 27 = I 97 27 ∧ (0 ≤ x.toInt ∧ x.toInt ≤ 30)) → Q x y I2 J2 R) : AM (d + 2) 190 112 [.int v0] I J R Q := by
  have i_v0 := i32 v0
  refine am_X12_sizeOf (fun P hc => ?_)
  have L : ∀ n : Nat, (∀ (v1 : Int32) (v2 : Int32) (M : Im) (J : Jm), Bd M → (M 97 12 = I 97 12) → (M 97 27 = I 97 27) → (0 ≤ v2.toInt ∧ v2.toInt ≤ 30 ∧ 0 ≤ v1.toInt ∧ v1.toInt ≤ v2.toInt) → 40 - v2.toInt < (n : Int) → P 4 112 [(0, .int v0), (1, .int v1), (2, .int v2)] [] M J R) := by
    intro n
    induction n with
    | zero =>
      exact fun v1 v2 M J _ _ _ hi hm => absurd hm (by omega)
    | succ n ih =>
      intro v1 v2 M J hB hk_97_12 hk_97_27 hi hm
      have i_v0 := i32 v0
      have i_v1 := i32 v1
      have i_v2 := i32 v2
      refine sg_X12_sizeOf_4 hc _ _ _ _ _ _ ?_
      refine ⟨fun c1 => ?_, fun c1 => ?_⟩
      · skip
        have d2 : ((30) : Int) ≤ (v2.toInt) := ci_le rfl rfl c1
        exact hQ _ _ _ _ hB ⟨hk_97_12, hk_97_27, (by have q0 : (v1 : Int32).toInt = v1.toInt := rfl; omega)⟩
      · skip
        have d3 : ((v2.toInt) : Int) < (30) := ci_nle rfl rfl c1
        refine w_X12_isOf ?_
        refine ⟨fun c4 => ?_, fun c4 => ?_⟩
        · skip
          have d5 : ¬ (((((v0 >>> (v2 &&& 31)) &&& 1) : Int32).toInt) : Int) = (1) := ci_ne rfl rfl c4
          refine ⟨Or.inl rfl, ?_⟩
          intro o6
          refine ⟨fun c7 => ?_, fun c7 => ?_⟩
          · skip
            have e8 : ((v1 + 0) : Int32).toInt = (v1.toInt) + (0) := ti_add rfl rfl (by omega)
            have e9 : ((v2 + 1) : Int32).toInt = (v2.toInt) + (1) := ti_add rfl rfl (by omega)
            exact ih _ _ _ _ hB hk_97_12 hk_97_27 (by have q0 : ((v1 + 0) : Int32).toInt = (v1.toInt + 0) := e8; have q1 : ((v2 + 1) : Int32).toInt = (v2.toInt + 1) := e9; omega) (by have q0 : ((v2 + 1) : Int32).toInt = (v2.toInt + 1) := e9; omega)
          · exact absurd c7 (by decide)
        · skip
          have d10 : (((((v0 >>> (v2 &&& 31)) &&& 1) : Int32).toInt) : Int) = (1) := ci_eq rfl rfl c4
          refine ⟨Or.inr rfl, ?_⟩
          intro o11
          refine ⟨fun c12 => ?_, fun c12 => ?_⟩
          · exact absurd c12 (by decide)
          · skip
            have e13 : ((v1 + 1) : Int32).toInt = (v1.toInt) + (1) := ti_add rfl rfl (by omega)
            have e14 : ((v2 + 1) : Int32).toInt = (v2.toInt) + (1) := ti_add rfl rfl (by omega)
            exact ih _ _ _ _ hB hk_97_12 hk_97_27 (by have q0 : ((v1 + 1) : Int32).toInt = (v1.toInt + 1) := e13; have q1 : ((v2 + 1) : Int32).toInt = (v2.toInt + 1) := e14; omega) (by have q0 : ((v2 + 1) : Int32).toInt = (v2.toInt + 1) := e14; omega)
  refine sg_X12_sizeOf_0 hc _ _ _ _ ?_
  exact (L 1000000) _ _ _ _ hB0 rfl rfl (by have q0 : (0 : Int32).toInt = 0 := rfl; have q1 : (0 : Int32).toInt = 0 := rfl; omega) (by have q0 : (0 : Int32).toInt = 0 := rfl; omega)
set_option maxHeartbeats 2000000 in
theorem sp_X12_advance {d : Nat} {Q : Qt} {I : Im} {J : Jm} {R : Rm} (hB0 : Bd I) (hR0 : RI R) (hQ : ∀ (x : Int32) (y : Int64) (I2 : Im) (J2 : Jm), Bd I2 → (I2 97 12 = I 97 12 ∧ I2 97 27 = I 97 27 ∧ ((2 * (901 - (I2 97 16).toInt) + min (I2 97 14).toInt 1) ≤ (2 * (901 - (I 97 16).toInt) + min (I 97 14).toInt 1) ∧ ((I 97 14).toInt = 0 ∨ (2 * (901 - (I2 97 16).toInt) + min (I2 97 14).toInt 1) < (2 * (901 - (I 97 16).toInt) + min (I 97 14).toInt 1)))) → Q x y I2 J2 R) : AM (d + 2) 195 112 [.ref 97] I J R Q := by
  refine am_X12_advance (fun P hc => ?_)
  have L : ∀ n : Nat, (∀ (M : Im) (J : Jm), Bd M → (M 97 12 = I 97 12) → (M 97 27 = I 97 27) → ((I 97 16).toInt ≤ (M 97 15).toInt ∧ (M 97 15).toInt ≤ 900) → 5000 - (M 97 15).toInt < (n : Int) → P 8 112 [(0, .ref 97)] [] M J R) ∧ (∀ (M : Im) (J : Jm), Bd M → (M 97 12 = I 97 12) → (M 97 27 = I 97 27) → ((I 97 16).toInt ≤ (M 97 15).toInt) → 3000 < (n : Int) → P 58 112 [(0, .ref 97)] [] M J R) ∧ (∀ (M : Im) (J : Jm), Bd M → (M 97 12 = I 97 12) → (M 97 27 = I 97 27) → ((I 97 16).toInt ≤ (M 97 15).toInt ∧ (M 97 15).toInt ≤ (M 97 16).toInt ∧ (M 97 15).toInt < (M 97 16).toInt ∧ (M 97 16).toInt ≤ 900) → 1000 - (M 97 16).toInt < (n : Int) → P 109 112 [(0, .ref 97)] [] M J R) ∧ (∀ (M : Im) (J : Jm), Bd M → (M 97 12 = I 97 12) → (M 97 27 = I 97 27) → ((I 97 16).toInt ≤ (M 97 15).toInt ∧ (M 97 15).toInt < (M 97 16).toInt ∧ (M 97 16).toInt ≤ 900) → 1000 - (M 97 16).toInt < (n : Int) → P 210 112 [(0, .ref 97)] [] M J R) := by
    intro n
    induction n with
    | zero =>
      exact ⟨fun  M J _ _ _ hi hm => absurd hm (by omega), fun  M J _ _ _ hi hm => absurd hm (by omega), fun  M J _ _ _ hi hm => absurd hm (by omega), fun  M J _ _ _ hi hm => absurd hm (by omega)⟩
    | succ n ih =>
      refine ⟨?_, ?_, ?_, ?_⟩
      · skip
        intro  M J hB hk_97_12 hk_97_27 hi hm
        refine sg_X12_advance_8 hc _ _ _ ?_
        have b1 := Bd.o hB (show isO 112 97 12 = true from rfl) (show bnd 12 15 = some _ from rfl)
        refine ⟨fun c2 => ?_, fun c2 => ?_⟩
        · skip
          have b3 := Bd.o hB (show isO 112 97 12 = true from rfl) (show bnd 12 9 = some _ from rfl)
          have d4 : (((M 97 9).toInt) : Int) ≤ ((M 97 15).toInt) := ci_le rfl rfl c2
          exact ih.2.1 _ _ hB hk_97_12 hk_97_27 (by have q0 : ((M 97 15) : Int32).toInt = (M 97 15).toInt := rfl; omega) (by omega)
        · skip
          have b5 := Bd.o hB (show isO 112 97 12 = true from rfl) (show bnd 12 9 = some _ from rfl)
          have d6 : (((M 97 15).toInt) : Int) < ((M 97 9).toInt) := ci_nle rfl rfl c2
          refine w_X12_look2 ?_
          refine ⟨fun c7 => ?_, fun c7 => ?_⟩
          · skip
            have d8 : (((M 97 9).toInt) : Int) ≤ ((M 97 15).toInt) := ci_le rfl rfl c7
            refine ⟨fun c9 => ?_, fun c9 => ?_⟩
            · exact absurd c9 (by decide)
            · skip
              refine w_X12_look2 ?_
              refine ⟨fun c10 => ?_, fun c10 => ?_⟩
              · skip
                have d11 : (((M 97 9).toInt) : Int) ≤ ((M 97 15).toInt) := ci_le rfl rfl c10
                refine ⟨fun c12 => ?_, fun c12 => ?_⟩
                · skip
                  exact ih.2.1 _ _ hB hk_97_12 hk_97_27 (by have q0 : ((M 97 15) : Int32).toInt = (M 97 15).toInt := rfl; omega) (by omega)
                · exact absurd c12 (by decide)
              · skip
                have d13 : (((M 97 15).toInt) : Int) < ((M 97 9).toInt) := ci_nle rfl rfl c10
                refine ⟨vp_of (a := (M 97 15).toInt) rfl (by omega) (by omega), ?_⟩
                refine ⟨fun c14 => ?_, fun c14 => ?_⟩
                · skip
                  have d15 : ¬ (((((M 101 (Int32.toNatClampNeg (M 97 15))) &&& 255) : Int32).toInt) : Int) = (32) := ci_ne rfl rfl c14
                  exact ih.2.1 _ _ hB hk_97_12 hk_97_27 (by have q0 : ((M 97 15) : Int32).toInt = (M 97 15).toInt := rfl; omega) (by omega)
                · skip
                  have d16 : (((((M 101 (Int32.toNatClampNeg (M 97 15))) &&& 255) : Int32).toInt) : Int) = (32) := ci_eq rfl rfl c14
                  have e18 : (((M 97 15) + 1) : Int32).toInt = ((M 97 15).toInt) + (1) := ti_add rfl rfl (by omega)
                  have hB17 : Bd (uI M 97 15 ((M 97 15) + 1)) := Bd.o1 hB (show isO 112 97 12 = true from rfl) (by omega) (show bnd 12 15 = some _ from rfl) (show (((M 97 15) + 1) : Int32).toInt = ((M 97 15).toInt + 1) from e18) (by omega)
                  have e19 : (((uI M 97 15 ((M 97 15) + 1)) 97 15) : Int32).toInt = ((M 97 15).toInt + 1) := Eq.trans (congrArg Int32.toInt rd_eq) e18
                  exact ih.1 _ _ hB17 (Eq.trans (rd_k (by decide)) hk_97_12) (Eq.trans (rd_k (by decide)) hk_97_27) (by have q0 : (((uI M 97 15 ((M 97 15) + 1)) 97 15) : Int32).toInt = ((M 97 15).toInt + 1) := e19; have q1 : (((uI M 97 15 ((M 97 15) + 1)) 97 15) : Int32).toInt = ((M 97 15).toInt + 1) := e19; omega) (by have q0 : (((uI M 97 15 ((M 97 15) + 1)) 97 15) : Int32).toInt = ((M 97 15).toInt + 1) := e19; omega)
          · skip
            have d20 : (((M 97 15).toInt) : Int) < ((M 97 9).toInt) := ci_nle rfl rfl c7
            refine ⟨vp_of (a := (M 97 15).toInt) rfl (by omega) (by omega), ?_⟩
            refine ⟨fun c21 => ?_, fun c21 => ?_⟩
            · skip
              have d22 : (((((M 101 (Int32.toNatClampNeg (M 97 15))) &&& 255) : Int32).toInt) : Int) = (10) := ci_eq rfl rfl c21
              have e24 : (((M 97 15) + 1) : Int32).toInt = ((M 97 15).toInt) + (1) := ti_add rfl rfl (by omega)
              have hB23 : Bd (uI M 97 15 ((M 97 15) + 1)) := Bd.o1 hB (show isO 112 97 12 = true from rfl) (by omega) (show bnd 12 15 = some _ from rfl) (show (((M 97 15) + 1) : Int32).toInt = ((M 97 15).toInt + 1) from e24) (by omega)
              have e25 : (((uI M 97 15 ((M 97 15) + 1)) 97 15) : Int32).toInt = ((M 97 15).toInt + 1) := Eq.trans (congrArg Int32.toInt rd_eq) e24
              exact ih.1 _ _ hB23 (Eq.trans (rd_k (by decide)) hk_97_12) (Eq.trans (rd_k (by decide)) hk_97_27) (by have q0 : (((uI M 97 15 ((M 97 15) + 1)) 97 15) : Int32).toInt = ((M 97 15).toInt + 1) := e25; have q1 : (((uI M 97 15 ((M 97 15) + 1)) 97 15) : Int32).toInt = ((M 97 15).toInt + 1) := e25; omega) (by have q0 : (((uI M 97 15 ((M 97 15) + 1)) 97 15) : Int32).toInt = ((M 97 15).toInt + 1) := e25; omega)
            · skip
              have d26 : ¬ (((((M 101 (Int32.toNatClampNeg (M 97 15))) &&& 255) : Int32).toInt) : Int) = (10) := ci_ne rfl rfl c21
              refine w_X12_look2 ?_
              refine ⟨fun c27 => ?_, fun c27 => ?_⟩
              · skip
                have d28 : (((M 97 9).toInt) : Int) ≤ ((M 97 15).toInt) := ci_le rfl rfl c27
                refine ⟨fun c29 => ?_, fun c29 => ?_⟩
                · skip
                  exact ih.2.1 _ _ hB hk_97_12 hk_97_27 (by have q0 : ((M 97 15) : Int32).toInt = (M 97 15).toInt := rfl; omega) (by omega)
                · exact absurd c29 (by decide)
              · skip
                have d30 : (((M 97 15).toInt) : Int) < ((M 97 9).toInt) := ci_nle rfl rfl c27
                refine ⟨vp_of (a := (M 97 15).toInt) rfl (by omega) (by omega), ?_⟩
                refine ⟨fun c31 => ?_, fun c31 => ?_⟩
                · skip
                  have d32 : ¬ (((((M 101 (Int32.toNatClampNeg (M 97 15))) &&& 255) : Int32).toInt) : Int) = (32) := ci_ne rfl rfl c31
                  exact ih.2.1 _ _ hB hk_97_12 hk_97_27 (by have q0 : ((M 97 15) : Int32).toInt = (M 97 15).toInt := rfl; omega) (by omega)
                · skip
                  have d33 : (((((M 101 (Int32.toNatClampNeg (M 97 15))) &&& 255) : Int32).toInt) : Int) = (32) := ci_eq rfl rfl c31
                  have e35 : (((M 97 15) + 1) : Int32).toInt = ((M 97 15).toInt) + (1) := ti_add rfl rfl (by omega)
                  have hB34 : Bd (uI M 97 15 ((M 97 15) + 1)) := Bd.o1 hB (show isO 112 97 12 = true from rfl) (by omega) (show bnd 12 15 = some _ from rfl) (show (((M 97 15) + 1) : Int32).toInt = ((M 97 15).toInt + 1) from e35) (by omega)
                  have e36 : (((uI M 97 15 ((M 97 15) + 1)) 97 15) : Int32).toInt = ((M 97 15).toInt + 1) := Eq.trans (congrArg Int32.toInt rd_eq) e35
                  exact ih.1 _ _ hB34 (Eq.trans (rd_k (by decide)) hk_97_12) (Eq.trans (rd_k (by decide)) hk_97_27) (by have q0 : (((uI M 97 15 ((M 97 15) + 1)) 97 15) : Int32).toInt = ((M 97 15).toInt + 1) := e36; have q1 : (((uI M 97 15 ((M 97 15) + 1)) 97 15) : Int32).toInt = ((M 97 15).toInt + 1) := e36; omega) (by have q0 : (((uI M 97 15 ((M 97 15) + 1)) 97 15) : Int32).toInt = ((M 97 15).toInt + 1) := e36; omega)
      · skip
        intro  M J hB hk_97_12 hk_97_27 hi hm
        refine sg_X12_advance_58 hc _ _ _ ?_
        have b37 := Bd.o hB (show isO 112 97 12 = true from rfl) (show bnd 12 15 = some _ from rfl)
        have hB38 : Bd (uI M 97 16 (M 97 15)) := Bd.o1 hB (show isO 112 97 12 = true from rfl) (by omega) (show bnd 12 16 = some _ from rfl) (show ((M 97 15) : Int32).toInt = (M 97 15).toInt from rfl) (by omega)
        refine ⟨fun c39 => ?_, fun c39 => ?_⟩
        · skip
          have e40 : (((uI M 97 16 (M 97 15)) 97 15) : Int32).toInt = (M 97 15).toInt := Eq.trans (congrArg Int32.toInt (rd_k (by decide))) rfl
          have b41 := Bd.o hB (show isO 112 97 12 = true from rfl) (show bnd 12 9 = some _ from rfl)
          have e42 : (((uI M 97 16 (M 97 15)) 97 9) : Int32).toInt = (M 97 9).toInt := Eq.trans (congrArg Int32.toInt (rd_k (by decide))) rfl
          have d43 : (((M 97 15).toInt) : Int) < ((M 97 9).toInt) := ci_lt e40 e42 c39
          refine w_X12_look2 ?_
          refine ⟨fun c44 => ?_, fun c44 => ?_⟩
          · skip
            have d45 : (((M 97 9).toInt) : Int) ≤ ((M 97 15).toInt) := ci_le e42 e40 c44
            refine w_X12_isLetter ?_
            refine ⟨fun c46 => ?_, fun c46 => ?_⟩
            · skip
              refine ⟨Or.inl rfl, ?_⟩
              intro o47
              refine ⟨fun c48 => ?_, fun c48 => ?_⟩
              · skip
                refine w_X12_isDigit ?_
                refine ⟨fun c49 => ?_, fun c49 => ?_⟩
                · skip
                  refine ⟨Or.inl rfl, ?_⟩
                  intro o50
                  refine ⟨fun c51 => ?_, fun c51 => ?_⟩
                  · skip
                    have e53 : ((((uI M 97 16 (M 97 15)) 97 15) + 1) : Int32).toInt = ((M 97 15).toInt) + (1) := ti_add e40 rfl (by omega)
                    have hB52 : Bd (uI (uI M 97 16 (M 97 15)) 97 16 (((uI M 97 16 (M 97 15)) 97 15) + 1)) := Bd.o1 hB38 (show isO 112 97 12 = true from rfl) (by omega) (show bnd 12 16 = some _ from rfl) (show ((((uI M 97 16 (M 97 15)) 97 15) + 1) : Int32).toInt = ((M 97 15).toInt + 1) from e53) (by omega)
                    have hB54 : Bd (uI (uI (uI M 97 16 (M 97 15)) 97 16 (((uI M 97 16 (M 97 15)) 97 15) + 1)) 97 17 0) := Bd.o0 hB52 (show isO 112 97 12 = true from rfl) (by omega) (show bnd 12 17 = none from rfl)
                    refine w_X12_isSignByte ?_
                    refine ⟨fun c55 => ?_, fun c55 => ?_⟩
                    · exact absurd c55 (by decide)
                    · skip
                      refine ⟨fun c56 => ?_, fun c56 => ?_⟩
                      · exact absurd c56 (by decide)
                      · skip
                        refine ⟨fun c57 => ?_, fun c57 => ?_⟩
                        · exact absurd c57 (by decide)
                        · skip
                          refine ⟨fun c58 => ?_, fun c58 => ?_⟩
                          · skip
                            refine ⟨Or.inl rfl, ?_⟩
                            intro o59
                            refine ⟨fun c60 => ?_, fun c60 => ?_⟩
                            · skip
                              have hB61 : Bd (uI (uI (uI (uI M 97 16 (M 97 15)) 97 16 (((uI M 97 16 (M 97 15)) 97 15) + 1)) 97 17 0) 97 14 4) := Bd.o1 hB54 (show isO 112 97 12 = true from rfl) (by omega) (show bnd 12 14 = some _ from rfl) (show (4 : Int32).toInt = 4 from rfl) (by omega)
                              have b62 := Bd.o hB0 (show isO 112 97 12 = true from rfl) (show bnd 12 14 = some _ from rfl)
                              have b63 := Bd.o hB0 (show isO 112 97 12 = true from rfl) (show bnd 12 16 = some _ from rfl)
                              have e64 : (((uI (uI (uI (uI M 97 16 (M 97 15)) 97 16 (((uI M 97 16 (M 97 15)) 97 15) + 1)) 97 17 0) 97 14 4) 97 14) : Int32).toInt = 4 := Eq.trans (congrArg Int32.toInt rd_eq) rfl
                              have e65 : (((uI (uI (uI (uI M 97 16 (M 97 15)) 97 16 (((uI M 97 16 (M 97 15)) 97 15) + 1)) 97 17 0) 97 14 4) 97 16) : Int32).toInt = ((M 97 15).toInt + 1) := Eq.trans (congrArg Int32.toInt (Eq.trans (Eq.trans (rd_k (by decide)) (rd_k (by decide))) rd_eq)) e53
                              exact hQ _ _ _ _ hB61 ⟨(Eq.trans (Eq.trans (Eq.trans (Eq.trans (rd_k (by decide)) (rd_k (by decide))) (rd_k (by decide))) (rd_k (by decide))) hk_97_12), (Eq.trans (Eq.trans (Eq.trans (Eq.trans (rd_k (by decide)) (rd_k (by decide))) (rd_k (by decide))) (rd_k (by decide))) hk_97_27), (by have q3 : (((uI (uI (uI (uI M 97 16 (M 97 15)) 97 16 (((uI M 97 16 (M 97 15)) 97 15) + 1)) 97 17 0) 97 14 4) 97 14) : Int32).toInt = 4 := e64; have q4 : (((uI (uI (uI (uI M 97 16 (M 97 15)) 97 16 (((uI M 97 16 (M 97 15)) 97 15) + 1)) 97 17 0) 97 14 4) 97 16) : Int32).toInt = ((M 97 15).toInt + 1) := e65; omega)⟩
                            · exact absurd c60 (by decide)
                          · exact absurd c58 (by decide)
                  · exact absurd c51 (by decide)
                · exact absurd c49 (by decide)
              · exact absurd c48 (by decide)
            · exact absurd c46 (by decide)
          · skip
            have d66 : (((M 97 15).toInt) : Int) < ((M 97 9).toInt) := ci_nle e42 e40 c44
            refine ⟨vp_of (a := (M 97 15).toInt) e40 (by omega) (by omega), ?_⟩
            refine w_X12_isLetter ?_
            refine ⟨fun c67 => ?_, fun c67 => ?_⟩
            · skip
              have e68 : ((((uI M 97 16 (M 97 15)) 101 (Int32.toNatClampNeg ((uI M 97 16 (M 97 15)) 97 15))) &&& 255) : Int32).toInt = (((M 101 (Int32.toNatClampNeg (M 97 15))) &&& 255) : Int32).toInt := congrArg (fun z => (z &&& 255 : Int32).toInt) (Eq.trans (rd_ne (by omega)) (congrArg (fun z => M 101 (Int32.toNatClampNeg z)) (rd_k (by decide))))
              have d69 : (((((M 101 (Int32.toNatClampNeg (M 97 15))) &&& 255) : Int32).toInt) : Int) < (97) := ci_lt e68 rfl c67
              refine ⟨Or.inl rfl, ?_⟩
              intro o70
              refine ⟨fun c71 => ?_, fun c71 => ?_⟩
              · skip
                refine w_X12_isDigit ?_
                refine ⟨fun c72 => ?_, fun c72 => ?_⟩
                · skip
                  have d73 : (((((M 101 (Int32.toNatClampNeg (M 97 15))) &&& 255) : Int32).toInt) : Int) < (48) := ci_lt e68 rfl c72
                  refine ⟨Or.inl rfl, ?_⟩
                  intro o74
                  refine ⟨fun c75 => ?_, fun c75 => ?_⟩
                  · skip
                    have e77 : ((((uI M 97 16 (M 97 15)) 97 15) + 1) : Int32).toInt = ((M 97 15).toInt) + (1) := ti_add e40 rfl (by omega)
                    have hB76 : Bd (uI (uI M 97 16 (M 97 15)) 97 16 (((uI M 97 16 (M 97 15)) 97 15) + 1)) := Bd.o1 hB38 (show isO 112 97 12 = true from rfl) (by omega) (show bnd 12 16 = some _ from rfl) (show ((((uI M 97 16 (M 97 15)) 97 15) + 1) : Int32).toInt = ((M 97 15).toInt + 1) from e77) (by omega)
                    have hB78 : Bd (uI (uI (uI M 97 16 (M 97 15)) 97 16 (((uI M 97 16 (M 97 15)) 97 15) + 1)) 97 17 (((uI M 97 16 (M 97 15)) 101 (Int32.toNatClampNeg ((uI M 97 16 (M 97 15)) 97 15))) &&& 255)) := Bd.o0 hB76 (show isO 112 97 12 = true from rfl) (by omega) (show bnd 12 17 = none from rfl)
                    refine w_X12_isSignByte ?_
                    refine ⟨fun c79 => ?_, fun c79 => ?_⟩
                    · skip
                      have d80 : (((((M 101 (Int32.toNatClampNeg (M 97 15))) &&& 255) : Int32).toInt) : Int) = (59) := ci_eq e68 rfl c79
                      refine ⟨Or.inr rfl, ?_⟩
                      intro o81
                      refine ⟨fun c82 => ?_, fun c82 => ?_⟩
                      · exact absurd c82 (by decide)
                      · skip
                        have hB83 : Bd (uI (uI (uI (uI M 97 16 (M 97 15)) 97 16 (((uI M 97 16 (M 97 15)) 97 15) + 1)) 97 17 (((uI M 97 16 (M 97 15)) 101 (Int32.toNatClampNeg ((uI M 97 16 (M 97 15)) 97 15))) &&& 255)) 97 14 3) := Bd.o1 hB78 (show isO 112 97 12 = true from rfl) (by omega) (show bnd 12 14 = some _ from rfl) (show (3 : Int32).toInt = 3 from rfl) (by omega)
                        have b84 := Bd.o hB0 (show isO 112 97 12 = true from rfl) (show bnd 12 14 = some _ from rfl)
                        have b85 := Bd.o hB0 (show isO 112 97 12 = true from rfl) (show bnd 12 16 = some _ from rfl)
                        have e86 : (((uI (uI (uI (uI M 97 16 (M 97 15)) 97 16 (((uI M 97 16 (M 97 15)) 97 15) + 1)) 97 17 (((uI M 97 16 (M 97 15)) 101 (Int32.toNatClampNeg ((uI M 97 16 (M 97 15)) 97 15))) &&& 255)) 97 14 3) 97 14) : Int32).toInt = 3 := Eq.trans (congrArg Int32.toInt rd_eq) rfl
                        have e87 : (((uI (uI (uI (uI M 97 16 (M 97 15)) 97 16 (((uI M 97 16 (M 97 15)) 97 15) + 1)) 97 17 (((uI M 97 16 (M 97 15)) 101 (Int32.toNatClampNeg ((uI M 97 16 (M 97 15)) 97 15))) &&& 255)) 97 14 3) 97 16) : Int32).toInt = ((M 97 15).toInt + 1) := Eq.trans (congrArg Int32.toInt (Eq.trans (Eq.trans (rd_k (by decide)) (rd_k (by decide))) rd_eq)) e77
                        exact hQ _ _ _ _ hB83 ⟨(Eq.trans (Eq.trans (Eq.trans (Eq.trans (rd_k (by decide)) (rd_k (by decide))) (rd_k (by decide))) (rd_k (by decide))) hk_97_12), (Eq.trans (Eq.trans (Eq.trans (Eq.trans (rd_k (by decide)) (rd_k (by decide))) (rd_k (by decide))) (rd_k (by decide))) hk_97_27), (by have q3 : (((uI (uI (uI (uI M 97 16 (M 97 15)) 97 16 (((uI M 97 16 (M 97 15)) 97 15) + 1)) 97 17 (((uI M 97 16 (M 97 15)) 101 (Int32.toNatClampNeg ((uI M 97 16 (M 97 15)) 97 15))) &&& 255)) 97 14 3) 97 14) : Int32).toInt = 3 := e86; have q4 : (((uI (uI (uI (uI M 97 16 (M 97 15)) 97 16 (((uI M 97 16 (M 97 15)) 97 15) + 1)) 97 17 (((uI M 97 16 (M 97 15)) 101 (Int32.toNatClampNeg ((uI M 97 16 (M 97 15)) 97 15))) &&& 255)) 97 14 3) 97 16) : Int32).toInt = ((M 97 15).toInt + 1) := e87; omega)⟩
                    · skip
                      have d88 : ¬ (((((M 101 (Int32.toNatClampNeg (M 97 15))) &&& 255) : Int32).toInt) : Int) = (59) := ci_ne e68 rfl c79
                      refine ⟨fun c89 => ?_, fun c89 => ?_⟩
                      · skip
                        have d90 : (((((M 101 (Int32.toNatClampNeg (M 97 15))) &&& 255) : Int32).toInt) : Int) = (60) := ci_eq e68 rfl c89
                        refine ⟨Or.inr rfl, ?_⟩
                        intro o91
                        refine ⟨fun c92 => ?_, fun c92 => ?_⟩
                        · exact absurd c92 (by decide)
                        · skip
                          have hB93 : Bd (uI (uI (uI (uI M 97 16 (M 97 15)) 97 16 (((uI M 97 16 (M 97 15)) 97 15) + 1)) 97 17 (((uI M 97 16 (M 97 15)) 101 (Int32.toNatClampNeg ((uI M 97 16 (M 97 15)) 97 15))) &&& 255)) 97 14 3) := Bd.o1 hB78 (show isO 112 97 12 = true from rfl) (by omega) (show bnd 12 14 = some _ from rfl) (show (3 : Int32).toInt = 3 from rfl) (by omega)
                          have b94 := Bd.o hB0 (show isO 112 97 12 = true from rfl) (show bnd 12 14 = some _ from rfl)
                          have b95 := Bd.o hB0 (show isO 112 97 12 = true from rfl) (show bnd 12 16 = some _ from rfl)
                          have e96 : (((uI (uI (uI (uI M 97 16 (M 97 15)) 97 16 (((uI M 97 16 (M 97 15)) 97 15) + 1)) 97 17 (((uI M 97 16 (M 97 15)) 101 (Int32.toNatClampNeg ((uI M 97 16 (M 97 15)) 97 15))) &&& 255)) 97 14 3) 97 14) : Int32).toInt = 3 := Eq.trans (congrArg Int32.toInt rd_eq) rfl
                          have e97 : (((uI (uI (uI (uI M 97 16 (M 97 15)) 97 16 (((uI M 97 16 (M 97 15)) 97 15) + 1)) 97 17 (((uI M 97 16 (M 97 15)) 101 (Int32.toNatClampNeg ((uI M 97 16 (M 97 15)) 97 15))) &&& 255)) 97 14 3) 97 16) : Int32).toInt = ((M 97 15).toInt + 1) := Eq.trans (congrArg Int32.toInt (Eq.trans (Eq.trans (rd_k (by decide)) (rd_k (by decide))) rd_eq)) e77
                          exact hQ _ _ _ _ hB93 ⟨(Eq.trans (Eq.trans (Eq.trans (Eq.trans (rd_k (by decide)) (rd_k (by decide))) (rd_k (by decide))) (rd_k (by decide))) hk_97_12), (Eq.trans (Eq.trans (Eq.trans (Eq.trans (rd_k (by decide)) (rd_k (by decide))) (rd_k (by decide))) (rd_k (by decide))) hk_97_27), (by have q3 : (((uI (uI (uI (uI M 97 16 (M 97 15)) 97 16 (((uI M 97 16 (M 97 15)) 97 15) + 1)) 97 17 (((uI M 97 16 (M 97 15)) 101 (Int32.toNatClampNeg ((uI M 97 16 (M 97 15)) 97 15))) &&& 255)) 97 14 3) 97 14) : Int32).toInt = 3 := e96; have q4 : (((uI (uI (uI (uI M 97 16 (M 97 15)) 97 16 (((uI M 97 16 (M 97 15)) 97 15) + 1)) 97 17 (((uI M 97 16 (M 97 15)) 101 (Int32.toNatClampNeg ((uI M 97 16 (M 97 15)) 97 15))) &&& 255)) 97 14 3) 97 16) : Int32).toInt = ((M 97 15).toInt + 1) := e97; omega)⟩
                      · skip
                        have d98 : ¬ (((((M 101 (Int32.toNatClampNeg (M 97 15))) &&& 255) : Int32).toInt) : Int) = (60) := ci_ne e68 rfl c89
                        refine ⟨fun c99 => ?_, fun c99 => ?_⟩
                        · skip
                          have d100 : (((((M 101 (Int32.toNatClampNeg (M 97 15))) &&& 255) : Int32).toInt) : Int) = (62) := ci_eq e68 rfl c99
                          refine ⟨Or.inr rfl, ?_⟩
                          intro o101
                          refine ⟨fun c102 => ?_, fun c102 => ?_⟩
                          · exact absurd c102 (by decide)
                          · skip
                            have hB103 : Bd (uI (uI (uI (uI M 97 16 (M 97 15)) 97 16 (((uI M 97 16 (M 97 15)) 97 15) + 1)) 97 17 (((uI M 97 16 (M 97 15)) 101 (Int32.toNatClampNeg ((uI M 97 16 (M 97 15)) 97 15))) &&& 255)) 97 14 3) := Bd.o1 hB78 (show isO 112 97 12 = true from rfl) (by omega) (show bnd 12 14 = some _ from rfl) (show (3 : Int32).toInt = 3 from rfl) (by omega)
                            have b104 := Bd.o hB0 (show isO 112 97 12 = true from rfl) (show bnd 12 14 = some _ from rfl)
                            have b105 := Bd.o hB0 (show isO 112 97 12 = true from rfl) (show bnd 12 16 = some _ from rfl)
                            have e106 : (((uI (uI (uI (uI M 97 16 (M 97 15)) 97 16 (((uI M 97 16 (M 97 15)) 97 15) + 1)) 97 17 (((uI M 97 16 (M 97 15)) 101 (Int32.toNatClampNeg ((uI M 97 16 (M 97 15)) 97 15))) &&& 255)) 97 14 3) 97 14) : Int32).toInt = 3 := Eq.trans (congrArg Int32.toInt rd_eq) rfl
                            have e107 : (((uI (uI (uI (uI M 97 16 (M 97 15)) 97 16 (((uI M 97 16 (M 97 15)) 97 15) + 1)) 97 17 (((uI M 97 16 (M 97 15)) 101 (Int32.toNatClampNeg ((uI M 97 16 (M 97 15)) 97 15))) &&& 255)) 97 14 3) 97 16) : Int32).toInt = ((M 97 15).toInt + 1) := Eq.trans (congrArg Int32.toInt (Eq.trans (Eq.trans (rd_k (by decide)) (rd_k (by decide))) rd_eq)) e77
                            exact hQ _ _ _ _ hB103 ⟨(Eq.trans (Eq.trans (Eq.trans (Eq.trans (rd_k (by decide)) (rd_k (by decide))) (rd_k (by decide))) (rd_k (by decide))) hk_97_12), (Eq.trans (Eq.trans (Eq.trans (Eq.trans (rd_k (by decide)) (rd_k (by decide))) (rd_k (by decide))) (rd_k (by decide))) hk_97_27), (by have q3 : (((uI (uI (uI (uI M 97 16 (M 97 15)) 97 16 (((uI M 97 16 (M 97 15)) 97 15) + 1)) 97 17 (((uI M 97 16 (M 97 15)) 101 (Int32.toNatClampNeg ((uI M 97 16 (M 97 15)) 97 15))) &&& 255)) 97 14 3) 97 14) : Int32).toInt = 3 := e106; have q4 : (((uI (uI (uI (uI M 97 16 (M 97 15)) 97 16 (((uI M 97 16 (M 97 15)) 97 15) + 1)) 97 17 (((uI M 97 16 (M 97 15)) 101 (Int32.toNatClampNeg ((uI M 97 16 (M 97 15)) 97 15))) &&& 255)) 97 14 3) 97 16) : Int32).toInt = ((M 97 15).toInt + 1) := e107; omega)⟩
                        · skip
                          have d108 : ¬ (((((M 101 (Int32.toNatClampNeg (M 97 15))) &&& 255) : Int32).toInt) : Int) = (62) := ci_ne e68 rfl c99
                          refine ⟨fun c109 => ?_, fun c109 => ?_⟩
                          · skip
                            have d110 : ¬ (((((M 101 (Int32.toNatClampNeg (M 97 15))) &&& 255) : Int32).toInt) : Int) = (61) := ci_ne e68 rfl c109
                            refine ⟨Or.inl rfl, ?_⟩
                            intro o111
                            refine ⟨fun c112 => ?_, fun c112 => ?_⟩
                            · skip
                              have hB113 : Bd (uI (uI (uI (uI M 97 16 (M 97 15)) 97 16 (((uI M 97 16 (M 97 15)) 97 15) + 1)) 97 17 (((uI M 97 16 (M 97 15)) 101 (Int32.toNatClampNeg ((uI M 97 16 (M 97 15)) 97 15))) &&& 255)) 97 14 4) := Bd.o1 hB78 (show isO 112 97 12 = true from rfl) (by omega) (show bnd 12 14 = some _ from rfl) (show (4 : Int32).toInt = 4 from rfl) (by omega)
                              have b114 := Bd.o hB0 (show isO 112 97 12 = true from rfl) (show bnd 12 14 = some _ from rfl)
                              have b115 := Bd.o hB0 (show isO 112 97 12 = true from rfl) (show bnd 12 16 = some _ from rfl)
                              have e116 : (((uI (uI (uI (uI M 97 16 (M 97 15)) 97 16 (((uI M 97 16 (M 97 15)) 97 15) + 1)) 97 17 (((uI M 97 16 (M 97 15)) 101 (Int32.toNatClampNeg ((uI M 97 16 (M 97 15)) 97 15))) &&& 255)) 97 14 4) 97 14) : Int32).toInt = 4 := Eq.trans (congrArg Int32.toInt rd_eq) rfl
                              have e117 : (((uI (uI (uI (uI M 97 16 (M 97 15)) 97 16 (((uI M 97 16 (M 97 15)) 97 15) + 1)) 97 17 (((uI M 97 16 (M 97 15)) 101 (Int32.toNatClampNeg ((uI M 97 16 (M 97 15)) 97 15))) &&& 255)) 97 14 4) 97 16) : Int32).toInt = ((M 97 15).toInt + 1) := Eq.trans (congrArg Int32.toInt (Eq.trans (Eq.trans (rd_k (by decide)) (rd_k (by decide))) rd_eq)) e77
                              exact hQ _ _ _ _ hB113 ⟨(Eq.trans (Eq.trans (Eq.trans (Eq.trans (rd_k (by decide)) (rd_k (by decide))) (rd_k (by decide))) (rd_k (by decide))) hk_97_12), (Eq.trans (Eq.trans (Eq.trans (Eq.trans (rd_k (by decide)) (rd_k (by decide))) (rd_k (by decide))) (rd_k (by decide))) hk_97_27), (by have q3 : (((uI (uI (uI (uI M 97 16 (M 97 15)) 97 16 (((uI M 97 16 (M 97 15)) 97 15) + 1)) 97 17 (((uI M 97 16 (M 97 15)) 101 (Int32.toNatClampNeg ((uI M 97 16 (M 97 15)) 97 15))) &&& 255)) 97 14 4) 97 14) : Int32).toInt = 4 := e116; have q4 : (((uI (uI (uI (uI M 97 16 (M 97 15)) 97 16 (((uI M 97 16 (M 97 15)) 97 15) + 1)) 97 17 (((uI M 97 16 (M 97 15)) 101 (Int32.toNatClampNeg ((uI M 97 16 (M 97 15)) 97 15))) &&& 255)) 97 14 4) 97 16) : Int32).toInt = ((M 97 15).toInt + 1) := e117; omega)⟩
                            · exact absurd c112 (by decide)
                          · skip
                            have d118 : (((((M 101 (Int32.toNatClampNeg (M 97 15))) &&& 255) : Int32).toInt) : Int) = (61) := ci_eq e68 rfl c109
                            refine ⟨Or.inr rfl, ?_⟩
                            intro o119
                            refine ⟨fun c120 => ?_, fun c120 => ?_⟩
                            · exact absurd c120 (by decide)
                            · skip
                              have hB121 : Bd (uI (uI (uI (uI M 97 16 (M 97 15)) 97 16 (((uI M 97 16 (M 97 15)) 97 15) + 1)) 97 17 (((uI M 97 16 (M 97 15)) 101 (Int32.toNatClampNeg ((uI M 97 16 (M 97 15)) 97 15))) &&& 255)) 97 14 3) := Bd.o1 hB78 (show isO 112 97 12 = true from rfl) (by omega) (show bnd 12 14 = some _ from rfl) (show (3 : Int32).toInt = 3 from rfl) (by omega)
                              have b122 := Bd.o hB0 (show isO 112 97 12 = true from rfl) (show bnd 12 14 = some _ from rfl)
                              have b123 := Bd.o hB0 (show isO 112 97 12 = true from rfl) (show bnd 12 16 = some _ from rfl)
                              have e124 : (((uI (uI (uI (uI M 97 16 (M 97 15)) 97 16 (((uI M 97 16 (M 97 15)) 97 15) + 1)) 97 17 (((uI M 97 16 (M 97 15)) 101 (Int32.toNatClampNeg ((uI M 97 16 (M 97 15)) 97 15))) &&& 255)) 97 14 3) 97 14) : Int32).toInt = 3 := Eq.trans (congrArg Int32.toInt rd_eq) rfl
                              have e125 : (((uI (uI (uI (uI M 97 16 (M 97 15)) 97 16 (((uI M 97 16 (M 97 15)) 97 15) + 1)) 97 17 (((uI M 97 16 (M 97 15)) 101 (Int32.toNatClampNeg ((uI M 97 16 (M 97 15)) 97 15))) &&& 255)) 97 14 3) 97 16) : Int32).toInt = ((M 97 15).toInt + 1) := Eq.trans (congrArg Int32.toInt (Eq.trans (Eq.trans (rd_k (by decide)) (rd_k (by decide))) rd_eq)) e77
                              exact hQ _ _ _ _ hB121 ⟨(Eq.trans (Eq.trans (Eq.trans (Eq.trans (rd_k (by decide)) (rd_k (by decide))) (rd_k (by decide))) (rd_k (by decide))) hk_97_12), (Eq.trans (Eq.trans (Eq.trans (Eq.trans (rd_k (by decide)) (rd_k (by decide))) (rd_k (by decide))) (rd_k (by decide))) hk_97_27), (by have q3 : (((uI (uI (uI (uI M 97 16 (M 97 15)) 97 16 (((uI M 97 16 (M 97 15)) 97 15) + 1)) 97 17 (((uI M 97 16 (M 97 15)) 101 (Int32.toNatClampNeg ((uI M 97 16 (M 97 15)) 97 15))) &&& 255)) 97 14 3) 97 14) : Int32).toInt = 3 := e124; have q4 : (((uI (uI (uI (uI M 97 16 (M 97 15)) 97 16 (((uI M 97 16 (M 97 15)) 97 15) + 1)) 97 17 (((uI M 97 16 (M 97 15)) 101 (Int32.toNatClampNeg ((uI M 97 16 (M 97 15)) 97 15))) &&& 255)) 97 14 3) 97 16) : Int32).toInt = ((M 97 15).toInt + 1) := e125; omega)⟩
                  · exact absurd c75 (by decide)
                · skip
                  have d126 : ((48) : Int) ≤ ((((M 101 (Int32.toNatClampNeg (M 97 15))) &&& 255) : Int32).toInt) := ci_nlt e68 rfl c72
                  refine ⟨fun c127 => ?_, fun c127 => ?_⟩
                  · skip
                    have d128 : ((57) : Int) < ((((M 101 (Int32.toNatClampNeg (M 97 15))) &&& 255) : Int32).toInt) := ci_lt rfl e68 c127
                    refine ⟨Or.inl rfl, ?_⟩
                    intro o129
                    refine ⟨fun c130 => ?_, fun c130 => ?_⟩
                    · skip
                      have e132 : ((((uI M 97 16 (M 97 15)) 97 15) + 1) : Int32).toInt = ((M 97 15).toInt) + (1) := ti_add e40 rfl (by omega)
                      have hB131 : Bd (uI (uI M 97 16 (M 97 15)) 97 16 (((uI M 97 16 (M 97 15)) 97 15) + 1)) := Bd.o1 hB38 (show isO 112 97 12 = true from rfl) (by omega) (show bnd 12 16 = some _ from rfl) (show ((((uI M 97 16 (M 97 15)) 97 15) + 1) : Int32).toInt = ((M 97 15).toInt + 1) from e132) (by omega)
                      have hB133 : Bd (uI (uI (uI M 97 16 (M 97 15)) 97 16 (((uI M 97 16 (M 97 15)) 97 15) + 1)) 97 17 (((uI M 97 16 (M 97 15)) 101 (Int32.toNatClampNeg ((uI M 97 16 (M 97 15)) 97 15))) &&& 255)) := Bd.o0 hB131 (show isO 112 97 12 = true from rfl) (by omega) (show bnd 12 17 = none from rfl)
                      refine w_X12_isSignByte ?_
                      refine ⟨fun c134 => ?_, fun c134 => ?_⟩
                      · skip
                        have d135 : (((((M 101 (Int32.toNatClampNeg (M 97 15))) &&& 255) : Int32).toInt) : Int) = (59) := ci_eq e68 rfl c134
                        refine ⟨Or.inr rfl, ?_⟩
                        intro o136
                        refine ⟨fun c137 => ?_, fun c137 => ?_⟩
                        · exact absurd c137 (by decide)
                        · skip
                          have hB138 : Bd (uI (uI (uI (uI M 97 16 (M 97 15)) 97 16 (((uI M 97 16 (M 97 15)) 97 15) + 1)) 97 17 (((uI M 97 16 (M 97 15)) 101 (Int32.toNatClampNeg ((uI M 97 16 (M 97 15)) 97 15))) &&& 255)) 97 14 3) := Bd.o1 hB133 (show isO 112 97 12 = true from rfl) (by omega) (show bnd 12 14 = some _ from rfl) (show (3 : Int32).toInt = 3 from rfl) (by omega)
                          have b139 := Bd.o hB0 (show isO 112 97 12 = true from rfl) (show bnd 12 14 = some _ from rfl)
                          have b140 := Bd.o hB0 (show isO 112 97 12 = true from rfl) (show bnd 12 16 = some _ from rfl)
                          have e141 : (((uI (uI (uI (uI M 97 16 (M 97 15)) 97 16 (((uI M 97 16 (M 97 15)) 97 15) + 1)) 97 17 (((uI M 97 16 (M 97 15)) 101 (Int32.toNatClampNeg ((uI M 97 16 (M 97 15)) 97 15))) &&& 255)) 97 14 3) 97 14) : Int32).toInt = 3 := Eq.trans (congrArg Int32.toInt rd_eq) rfl
                          have e142 : (((uI (uI (uI (uI M 97 16 (M 97 15)) 97 16 (((uI M 97 16 (M 97 15)) 97 15) + 1)) 97 17 (((uI M 97 16 (M 97 15)) 101 (Int32.toNatClampNeg ((uI M 97 16 (M 97 15)) 97 15))) &&& 255)) 97 14 3) 97 16) : Int32).toInt = ((M 97 15).toInt + 1) := Eq.trans (congrArg Int32.toInt (Eq.trans (Eq.trans (rd_k (by decide)) (rd_k (by decide))) rd_eq)) e132
                          exact hQ _ _ _ _ hB138 ⟨(Eq.trans (Eq.trans (Eq.trans (Eq.trans (rd_k (by decide)) (rd_k (by decide))) (rd_k (by decide))) (rd_k (by decide))) hk_97_12), (Eq.trans (Eq.trans (Eq.trans (Eq.trans (rd_k (by decide)) (rd_k (by decide))) (rd_k (by decide))) (rd_k (by decide))) hk_97_27), (by have q3 : (((uI (uI (uI (uI M 97 16 (M 97 15)) 97 16 (((uI M 97 16 (M 97 15)) 97 15) + 1)) 97 17 (((uI M 97 16 (M 97 15)) 101 (Int32.toNatClampNeg ((uI M 97 16 (M 97 15)) 97 15))) &&& 255)) 97 14 3) 97 14) : Int32).toInt = 3 := e141; have q4 : (((uI (uI (uI (uI M 97 16 (M 97 15)) 97 16 (((uI M 97 16 (M 97 15)) 97 15) + 1)) 97 17 (((uI M 97 16 (M 97 15)) 101 (Int32.toNatClampNeg ((uI M 97 16 (M 97 15)) 97 15))) &&& 255)) 97 14 3) 97 16) : Int32).toInt = ((M 97 15).toInt + 1) := e142; omega)⟩
                      · skip
                        have d143 : ¬ (((((M 101 (Int32.toNatClampNeg (M 97 15))) &&& 255) : Int32).toInt) : Int) = (59) := ci_ne e68 rfl c134
                        refine ⟨fun c144 => ?_, fun c144 => ?_⟩
                        · skip
                          have d145 : (((((M 101 (Int32.toNatClampNeg (M 97 15))) &&& 255) : Int32).toInt) : Int) = (60) := ci_eq e68 rfl c144
                          refine ⟨Or.inr rfl, ?_⟩
                          intro o146
                          refine ⟨fun c147 => ?_, fun c147 => ?_⟩
                          · exact absurd c147 (by decide)
                          · skip
                            have hB148 : Bd (uI (uI (uI (uI M 97 16 (M 97 15)) 97 16 (((uI M 97 16 (M 97 15)) 97 15) + 1)) 97 17 (((uI M 97 16 (M 97 15)) 101 (Int32.toNatClampNeg ((uI M 97 16 (M 97 15)) 97 15))) &&& 255)) 97 14 3) := Bd.o1 hB133 (show isO 112 97 12 = true from rfl) (by omega) (show bnd 12 14 = some _ from rfl) (show (3 : Int32).toInt = 3 from rfl) (by omega)
                            have b149 := Bd.o hB0 (show isO 112 97 12 = true from rfl) (show bnd 12 14 = some _ from rfl)
                            have b150 := Bd.o hB0 (show isO 112 97 12 = true from rfl) (show bnd 12 16 = some _ from rfl)
                            have e151 : (((uI (uI (uI (uI M 97 16 (M 97 15)) 97 16 (((uI M 97 16 (M 97 15)) 97 15) + 1)) 97 17 (((uI M 97 16 (M 97 15)) 101 (Int32.toNatClampNeg ((uI M 97 16 (M 97 15)) 97 15))) &&& 255)) 97 14 3) 97 14) : Int32).toInt = 3 := Eq.trans (congrArg Int32.toInt rd_eq) rfl
                            have e152 : (((uI (uI (uI (uI M 97 16 (M 97 15)) 97 16 (((uI M 97 16 (M 97 15)) 97 15) + 1)) 97 17 (((uI M 97 16 (M 97 15)) 101 (Int32.toNatClampNeg ((uI M 97 16 (M 97 15)) 97 15))) &&& 255)) 97 14 3) 97 16) : Int32).toInt = ((M 97 15).toInt + 1) := Eq.trans (congrArg Int32.toInt (Eq.trans (Eq.trans (rd_k (by decide)) (rd_k (by decide))) rd_eq)) e132
                            exact hQ _ _ _ _ hB148 ⟨(Eq.trans (Eq.trans (Eq.trans (Eq.trans (rd_k (by decide)) (rd_k (by decide))) (rd_k (by decide))) (rd_k (by decide))) hk_97_12), (Eq.trans (Eq.trans (Eq.trans (Eq.trans (rd_k (by decide)) (rd_k (by decide))) (rd_k (by decide))) (rd_k (by decide))) hk_97_27), (by have q3 : (((uI (uI (uI (uI M 97 16 (M 97 15)) 97 16 (((uI M 97 16 (M 97 15)) 97 15) + 1)) 97 17 (((uI M 97 16 (M 97 15)) 101 (Int32.toNatClampNeg ((uI M 97 16 (M 97 15)) 97 15))) &&& 255)) 97 14 3) 97 14) : Int32).toInt = 3 := e151; have q4 : (((uI (uI (uI (uI M 97 16 (M 97 15)) 97 16 (((uI M 97 16 (M 97 15)) 97 15) + 1)) 97 17 (((uI M 97 16 (M 97 15)) 101 (Int32.toNatClampNeg ((uI M 97 16 (M 97 15)) 97 15))) &&& 255)) 97 14 3) 97 16) : Int32).toInt = ((M 97 15).toInt + 1) := e152; omega)⟩
                        · skip
                          have d153 : ¬ (((((M 101 (Int32.toNatClampNeg (M 97 15))) &&& 255) : Int32).toInt) : Int) = (60) := ci_ne e68 rfl c144
                          refine ⟨fun c154 => ?_, fun c154 => ?_⟩
                          · skip
                            have d155 : (((((M 101 (Int32.toNatClampNeg (M 97 15))) &&& 255) : Int32).toInt) : Int) = (62) := ci_eq e68 rfl c154
                            refine ⟨Or.inr rfl, ?_⟩
                            intro o156
                            refine ⟨fun c157 => ?_, fun c157 => ?_⟩
                            · exact absurd c157 (by decide)
                            · skip
                              have hB158 : Bd (uI (uI (uI (uI M 97 16 (M 97 15)) 97 16 (((uI M 97 16 (M 97 15)) 97 15) + 1)) 97 17 (((uI M 97 16 (M 97 15)) 101 (Int32.toNatClampNeg ((uI M 97 16 (M 97 15)) 97 15))) &&& 255)) 97 14 3) := Bd.o1 hB133 (show isO 112 97 12 = true from rfl) (by omega) (show bnd 12 14 = some _ from rfl) (show (3 : Int32).toInt = 3 from rfl) (by omega)
                              have b159 := Bd.o hB0 (show isO 112 97 12 = true from rfl) (show bnd 12 14 = some _ from rfl)
                              have b160 := Bd.o hB0 (show isO 112 97 12 = true from rfl) (show bnd 12 16 = some _ from rfl)
                              have e161 : (((uI (uI (uI (uI M 97 16 (M 97 15)) 97 16 (((uI M 97 16 (M 97 15)) 97 15) + 1)) 97 17 (((uI M 97 16 (M 97 15)) 101 (Int32.toNatClampNeg ((uI M 97 16 (M 97 15)) 97 15))) &&& 255)) 97 14 3) 97 14) : Int32).toInt = 3 := Eq.trans (congrArg Int32.toInt rd_eq) rfl
                              have e162 : (((uI (uI (uI (uI M 97 16 (M 97 15)) 97 16 (((uI M 97 16 (M 97 15)) 97 15) + 1)) 97 17 (((uI M 97 16 (M 97 15)) 101 (Int32.toNatClampNeg ((uI M 97 16 (M 97 15)) 97 15))) &&& 255)) 97 14 3) 97 16) : Int32).toInt = ((M 97 15).toInt + 1) := Eq.trans (congrArg Int32.toInt (Eq.trans (Eq.trans (rd_k (by decide)) (rd_k (by decide))) rd_eq)) e132
                              exact hQ _ _ _ _ hB158 ⟨(Eq.trans (Eq.trans (Eq.trans (Eq.trans (rd_k (by decide)) (rd_k (by decide))) (rd_k (by decide))) (rd_k (by decide))) hk_97_12), (Eq.trans (Eq.trans (Eq.trans (Eq.trans (rd_k (by decide)) (rd_k (by decide))) (rd_k (by decide))) (rd_k (by decide))) hk_97_27), (by have q3 : (((uI (uI (uI (uI M 97 16 (M 97 15)) 97 16 (((uI M 97 16 (M 97 15)) 97 15) + 1)) 97 17 (((uI M 97 16 (M 97 15)) 101 (Int32.toNatClampNeg ((uI M 97 16 (M 97 15)) 97 15))) &&& 255)) 97 14 3) 97 14) : Int32).toInt = 3 := e161; have q4 : (((uI (uI (uI (uI M 97 16 (M 97 15)) 97 16 (((uI M 97 16 (M 97 15)) 97 15) + 1)) 97 17 (((uI M 97 16 (M 97 15)) 101 (Int32.toNatClampNeg ((uI M 97 16 (M 97 15)) 97 15))) &&& 255)) 97 14 3) 97 16) : Int32).toInt = ((M 97 15).toInt + 1) := e162; omega)⟩
                          · skip
                            have d163 : ¬ (((((M 101 (Int32.toNatClampNeg (M 97 15))) &&& 255) : Int32).toInt) : Int) = (62) := ci_ne e68 rfl c154
                            refine ⟨fun c164 => ?_, fun c164 => ?_⟩
                            · skip
                              have d165 : ¬ (((((M 101 (Int32.toNatClampNeg (M 97 15))) &&& 255) : Int32).toInt) : Int) = (61) := ci_ne e68 rfl c164
                              refine ⟨Or.inl rfl, ?_⟩
                              intro o166
                              refine ⟨fun c167 => ?_, fun c167 => ?_⟩
                              · skip
                                have hB168 : Bd (uI (uI (uI (uI M 97 16 (M 97 15)) 97 16 (((uI M 97 16 (M 97 15)) 97 15) + 1)) 97 17 (((uI M 97 16 (M 97 15)) 101 (Int32.toNatClampNeg ((uI M 97 16 (M 97 15)) 97 15))) &&& 255)) 97 14 4) := Bd.o1 hB133 (show isO 112 97 12 = true from rfl) (by omega) (show bnd 12 14 = some _ from rfl) (show (4 : Int32).toInt = 4 from rfl) (by omega)
                                have b169 := Bd.o hB0 (show isO 112 97 12 = true from rfl) (show bnd 12 14 = some _ from rfl)
                                have b170 := Bd.o hB0 (show isO 112 97 12 = true from rfl) (show bnd 12 16 = some _ from rfl)
                                have e171 : (((uI (uI (uI (uI M 97 16 (M 97 15)) 97 16 (((uI M 97 16 (M 97 15)) 97 15) + 1)) 97 17 (((uI M 97 16 (M 97 15)) 101 (Int32.toNatClampNeg ((uI M 97 16 (M 97 15)) 97 15))) &&& 255)) 97 14 4) 97 14) : Int32).toInt = 4 := Eq.trans (congrArg Int32.toInt rd_eq) rfl
                                have e172 : (((uI (uI (uI (uI M 97 16 (M 97 15)) 97 16 (((uI M 97 16 (M 97 15)) 97 15) + 1)) 97 17 (((uI M 97 16 (M 97 15)) 101 (Int32.toNatClampNeg ((uI M 97 16 (M 97 15)) 97 15))) &&& 255)) 97 14 4) 97 16) : Int32).toInt = ((M 97 15).toInt + 1) := Eq.trans (congrArg Int32.toInt (Eq.trans (Eq.trans (rd_k (by decide)) (rd_k (by decide))) rd_eq)) e132
                                exact hQ _ _ _ _ hB168 ⟨(Eq.trans (Eq.trans (Eq.trans (Eq.trans (rd_k (by decide)) (rd_k (by decide))) (rd_k (by decide))) (rd_k (by decide))) hk_97_12), (Eq.trans (Eq.trans (Eq.trans (Eq.trans (rd_k (by decide)) (rd_k (by decide))) (rd_k (by decide))) (rd_k (by decide))) hk_97_27), (by have q3 : (((uI (uI (uI (uI M 97 16 (M 97 15)) 97 16 (((uI M 97 16 (M 97 15)) 97 15) + 1)) 97 17 (((uI M 97 16 (M 97 15)) 101 (Int32.toNatClampNeg ((uI M 97 16 (M 97 15)) 97 15))) &&& 255)) 97 14 4) 97 14) : Int32).toInt = 4 := e171; have q4 : (((uI (uI (uI (uI M 97 16 (M 97 15)) 97 16 (((uI M 97 16 (M 97 15)) 97 15) + 1)) 97 17 (((uI M 97 16 (M 97 15)) 101 (Int32.toNatClampNeg ((uI M 97 16 (M 97 15)) 97 15))) &&& 255)) 97 14 4) 97 16) : Int32).toInt = ((M 97 15).toInt + 1) := e172; omega)⟩
                              · exact absurd c167 (by decide)
                            · skip
                              have d173 : (((((M 101 (Int32.toNatClampNeg (M 97 15))) &&& 255) : Int32).toInt) : Int) = (61) := ci_eq e68 rfl c164
                              refine ⟨Or.inr rfl, ?_⟩
                              intro o174
                              refine ⟨fun c175 => ?_, fun c175 => ?_⟩
                              · exact absurd c175 (by decide)
                              · skip
                                have hB176 : Bd (uI (uI (uI (uI M 97 16 (M 97 15)) 97 16 (((uI M 97 16 (M 97 15)) 97 15) + 1)) 97 17 (((uI M 97 16 (M 97 15)) 101 (Int32.toNatClampNeg ((uI M 97 16 (M 97 15)) 97 15))) &&& 255)) 97 14 3) := Bd.o1 hB133 (show isO 112 97 12 = true from rfl) (by omega) (show bnd 12 14 = some _ from rfl) (show (3 : Int32).toInt = 3 from rfl) (by omega)
                                have b177 := Bd.o hB0 (show isO 112 97 12 = true from rfl) (show bnd 12 14 = some _ from rfl)
                                have b178 := Bd.o hB0 (show isO 112 97 12 = true from rfl) (show bnd 12 16 = some _ from rfl)
                                have e179 : (((uI (uI (uI (uI M 97 16 (M 97 15)) 97 16 (((uI M 97 16 (M 97 15)) 97 15) + 1)) 97 17 (((uI M 97 16 (M 97 15)) 101 (Int32.toNatClampNeg ((uI M 97 16 (M 97 15)) 97 15))) &&& 255)) 97 14 3) 97 14) : Int32).toInt = 3 := Eq.trans (congrArg Int32.toInt rd_eq) rfl
                                have e180 : (((uI (uI (uI (uI M 97 16 (M 97 15)) 97 16 (((uI M 97 16 (M 97 15)) 97 15) + 1)) 97 17 (((uI M 97 16 (M 97 15)) 101 (Int32.toNatClampNeg ((uI M 97 16 (M 97 15)) 97 15))) &&& 255)) 97 14 3) 97 16) : Int32).toInt = ((M 97 15).toInt + 1) := Eq.trans (congrArg Int32.toInt (Eq.trans (Eq.trans (rd_k (by decide)) (rd_k (by decide))) rd_eq)) e132
                                exact hQ _ _ _ _ hB176 ⟨(Eq.trans (Eq.trans (Eq.trans (Eq.trans (rd_k (by decide)) (rd_k (by decide))) (rd_k (by decide))) (rd_k (by decide))) hk_97_12), (Eq.trans (Eq.trans (Eq.trans (Eq.trans (rd_k (by decide)) (rd_k (by decide))) (rd_k (by decide))) (rd_k (by decide))) hk_97_27), (by have q3 : (((uI (uI (uI (uI M 97 16 (M 97 15)) 97 16 (((uI M 97 16 (M 97 15)) 97 15) + 1)) 97 17 (((uI M 97 16 (M 97 15)) 101 (Int32.toNatClampNeg ((uI M 97 16 (M 97 15)) 97 15))) &&& 255)) 97 14 3) 97 14) : Int32).toInt = 3 := e179; have q4 : (((uI (uI (uI (uI M 97 16 (M 97 15)) 97 16 (((uI M 97 16 (M 97 15)) 97 15) + 1)) 97 17 (((uI M 97 16 (M 97 15)) 101 (Int32.toNatClampNeg ((uI M 97 16 (M 97 15)) 97 15))) &&& 255)) 97 14 3) 97 16) : Int32).toInt = ((M 97 15).toInt + 1) := e180; omega)⟩
                    · exact absurd c130 (by decide)
                  · skip
                    have d181 : (((((M 101 (Int32.toNatClampNeg (M 97 15))) &&& 255) : Int32).toInt) : Int) ≤ (57) := ci_nlt rfl e68 c127
                    refine ⟨Or.inr rfl, ?_⟩
                    intro o182
                    refine ⟨fun c183 => ?_, fun c183 => ?_⟩
                    · exact absurd c183 (by decide)
                    · skip
                      have hB184 : Bd (uI (uI M 97 16 (M 97 15)) 97 17 0) := Bd.o0 hB38 (show isO 112 97 12 = true from rfl) (by omega) (show bnd 12 17 = none from rfl)
                      refine sg_X12_advance_210 hc _ _ _ ?_
                      refine w_X12_look2 ?_
                      refine ⟨fun c185 => ?_, fun c185 => ?_⟩
                      · skip
                        have e186 : (((uI (uI M 97 16 (M 97 15)) 97 17 0) 97 16) : Int32).toInt = (M 97 15).toInt := Eq.trans (congrArg Int32.toInt (Eq.trans (rd_k (by decide)) rd_eq)) rfl
                        have e187 : (((uI (uI M 97 16 (M 97 15)) 97 17 0) 97 9) : Int32).toInt = (M 97 9).toInt := Eq.trans (congrArg Int32.toInt (Eq.trans (rd_k (by decide)) (rd_k (by decide)))) rfl
                        have d188 : (((M 97 9).toInt) : Int) ≤ ((M 97 15).toInt) := ci_le e187 e186 c185
                        refine w_X12_isDigit ?_
                        refine ⟨fun c189 => ?_, fun c189 => ?_⟩
                        · skip
                          refine ⟨Or.inl rfl, ?_⟩
                          intro o190
                          refine ⟨fun c191 => ?_, fun c191 => ?_⟩
                          · skip
                            refine ⟨fun c192 => ?_, fun c192 => ?_⟩
                            · skip
                              have e193 : (((uI (uI M 97 16 (M 97 15)) 97 17 0) 97 15) : Int32).toInt = (M 97 15).toInt := Eq.trans (congrArg Int32.toInt (Eq.trans (rd_k (by decide)) (rd_k (by decide)))) rfl
                              have e194 : ((((uI (uI M 97 16 (M 97 15)) 97 17 0) 97 16) - ((uI (uI M 97 16 (M 97 15)) 97 17 0) 97 15)) : Int32).toInt = ((M 97 15).toInt) - ((M 97 15).toInt) := ti_sub e186 e193 (by omega)
                              have d195 : ((((M 97 15).toInt - (M 97 15).toInt)) : Int) ≤ (4) := ci_le e194 rfl c192
                              have hB196 : Bd (uI (uI (uI M 97 16 (M 97 15)) 97 17 0) 97 14 2) := Bd.o1 hB184 (show isO 112 97 12 = true from rfl) (by omega) (show bnd 12 14 = some _ from rfl) (show (2 : Int32).toInt = 2 from rfl) (by omega)
                              have b197 := Bd.o hB0 (show isO 112 97 12 = true from rfl) (show bnd 12 14 = some _ from rfl)
                              have b198 := Bd.o hB0 (show isO 112 97 12 = true from rfl) (show bnd 12 16 = some _ from rfl)
                              have e199 : (((uI (uI (uI M 97 16 (M 97 15)) 97 17 0) 97 14 2) 97 14) : Int32).toInt = 2 := Eq.trans (congrArg Int32.toInt rd_eq) rfl
                              have e200 : (((uI (uI (uI M 97 16 (M 97 15)) 97 17 0) 97 14 2) 97 16) : Int32).toInt = (M 97 15).toInt := Eq.trans (congrArg Int32.toInt (Eq.trans (Eq.trans (rd_k (by decide)) (rd_k (by decide))) rd_eq)) rfl
                              exact hQ _ _ _ _ hB196 ⟨(Eq.trans (Eq.trans (Eq.trans (rd_k (by decide)) (rd_k (by decide))) (rd_k (by decide))) hk_97_12), (Eq.trans (Eq.trans (Eq.trans (rd_k (by decide)) (rd_k (by decide))) (rd_k (by decide))) hk_97_27), (by have q3 : (((uI (uI (uI M 97 16 (M 97 15)) 97 17 0) 97 14 2) 97 14) : Int32).toInt = 2 := e199; have q4 : (((uI (uI (uI M 97 16 (M 97 15)) 97 17 0) 97 14 2) 97 16) : Int32).toInt = (M 97 15).toInt := e200; omega)⟩
                            · skip
                              have e201 : (((uI (uI M 97 16 (M 97 15)) 97 17 0) 97 15) : Int32).toInt = (M 97 15).toInt := Eq.trans (congrArg Int32.toInt (Eq.trans (rd_k (by decide)) (rd_k (by decide)))) rfl
                              have e202 : ((((uI (uI M 97 16 (M 97 15)) 97 17 0) 97 16) - ((uI (uI M 97 16 (M 97 15)) 97 17 0) 97 15)) : Int32).toInt = ((M 97 15).toInt) - ((M 97 15).toInt) := ti_sub e186 e201 (by omega)
                              have d203 : ((4) : Int) < (((M 97 15).toInt - (M 97 15).toInt)) := ci_nle e202 rfl c192
                              have hB204 : Bd (uI (uI (uI M 97 16 (M 97 15)) 97 17 0) 97 14 4) := Bd.o1 hB184 (show isO 112 97 12 = true from rfl) (by omega) (show bnd 12 14 = some _ from rfl) (show (4 : Int32).toInt = 4 from rfl) (by omega)
                              have b205 := Bd.o hB0 (show isO 112 97 12 = true from rfl) (show bnd 12 14 = some _ from rfl)
                              have b206 := Bd.o hB0 (show isO 112 97 12 = true from rfl) (show bnd 12 16 = some _ from rfl)
                              have e207 : (((uI (uI (uI M 97 16 (M 97 15)) 97 17 0) 97 14 4) 97 14) : Int32).toInt = 4 := Eq.trans (congrArg Int32.toInt rd_eq) rfl
                              have e208 : (((uI (uI (uI M 97 16 (M 97 15)) 97 17 0) 97 14 4) 97 16) : Int32).toInt = (M 97 15).toInt := Eq.trans (congrArg Int32.toInt (Eq.trans (Eq.trans (rd_k (by decide)) (rd_k (by decide))) rd_eq)) rfl
                              exact hQ _ _ _ _ hB204 ⟨(Eq.trans (Eq.trans (Eq.trans (rd_k (by decide)) (rd_k (by decide))) (rd_k (by decide))) hk_97_12), (Eq.trans (Eq.trans (Eq.trans (rd_k (by decide)) (rd_k (by decide))) (rd_k (by decide))) hk_97_27), (by have q3 : (((uI (uI (uI M 97 16 (M 97 15)) 97 17 0) 97 14 4) 97 14) : Int32).toInt = 4 := e207; have q4 : (((uI (uI (uI M 97 16 (M 97 15)) 97 17 0) 97 14 4) 97 16) : Int32).toInt = (M 97 15).toInt := e208; omega)⟩
                          · exact absurd c191 (by decide)
                        · exact absurd c189 (by decide)
                      · skip
                        have e209 : (((uI (uI M 97 16 (M 97 15)) 97 17 0) 97 16) : Int32).toInt = (M 97 15).toInt := Eq.trans (congrArg Int32.toInt (Eq.trans (rd_k (by decide)) rd_eq)) rfl
                        have e210 : (((uI (uI M 97 16 (M 97 15)) 97 17 0) 97 9) : Int32).toInt = (M 97 9).toInt := Eq.trans (congrArg Int32.toInt (Eq.trans (rd_k (by decide)) (rd_k (by decide)))) rfl
                        have d211 : (((M 97 15).toInt) : Int) < ((M 97 9).toInt) := ci_nle e210 e209 c185
                        refine ⟨vp_of (a := (M 97 15).toInt) e209 (by omega) (by omega), ?_⟩
                        refine w_X12_isDigit ?_
                        refine ⟨fun c212 => ?_, fun c212 => ?_⟩
                        · skip
                          have e213 : ((((uI (uI M 97 16 (M 97 15)) 97 17 0) 101 (Int32.toNatClampNeg ((uI (uI M 97 16 (M 97 15)) 97 17 0) 97 16))) &&& 255) : Int32).toInt = (((M 101 (Int32.toNatClampNeg (M 97 15))) &&& 255) : Int32).toInt := congrArg (fun z => (z &&& 255 : Int32).toInt) (Eq.trans (Eq.trans (rd_ne (by omega)) (rd_ne (by omega))) (congrArg (fun z => M 101 (Int32.toNatClampNeg z)) (Eq.trans (rd_k (by decide)) rd_eq)))
                          have d214 : (((((M 101 (Int32.toNatClampNeg (M 97 15))) &&& 255) : Int32).toInt) : Int) < (48) := ci_lt e213 rfl c212
                          refine ⟨Or.inl rfl, ?_⟩
                          intro o215
                          refine ⟨fun c216 => ?_, fun c216 => ?_⟩
                          · skip
                            refine ⟨fun c217 => ?_, fun c217 => ?_⟩
                            · skip
                              have e218 : (((uI (uI M 97 16 (M 97 15)) 97 17 0) 97 15) : Int32).toInt = (M 97 15).toInt := Eq.trans (congrArg Int32.toInt (Eq.trans (rd_k (by decide)) (rd_k (by decide)))) rfl
                              have e219 : ((((uI (uI M 97 16 (M 97 15)) 97 17 0) 97 16) - ((uI (uI M 97 16 (M 97 15)) 97 17 0) 97 15)) : Int32).toInt = ((M 97 15).toInt) - ((M 97 15).toInt) := ti_sub e209 e218 (by omega)
                              have d220 : ((((M 97 15).toInt - (M 97 15).toInt)) : Int) ≤ (4) := ci_le e219 rfl c217
                              have hB221 : Bd (uI (uI (uI M 97 16 (M 97 15)) 97 17 0) 97 14 2) := Bd.o1 hB184 (show isO 112 97 12 = true from rfl) (by omega) (show bnd 12 14 = some _ from rfl) (show (2 : Int32).toInt = 2 from rfl) (by omega)
                              have b222 := Bd.o hB0 (show isO 112 97 12 = true from rfl) (show bnd 12 14 = some _ from rfl)
                              have b223 := Bd.o hB0 (show isO 112 97 12 = true from rfl) (show bnd 12 16 = some _ from rfl)
                              have e224 : (((uI (uI (uI M 97 16 (M 97 15)) 97 17 0) 97 14 2) 97 14) : Int32).toInt = 2 := Eq.trans (congrArg Int32.toInt rd_eq) rfl
                              have e225 : (((uI (uI (uI M 97 16 (M 97 15)) 97 17 0) 97 14 2) 97 16) : Int32).toInt = (M 97 15).toInt := Eq.trans (congrArg Int32.toInt (Eq.trans (Eq.trans (rd_k (by decide)) (rd_k (by decide))) rd_eq)) rfl
                              exact hQ _ _ _ _ hB221 ⟨(Eq.trans (Eq.trans (Eq.trans (rd_k (by decide)) (rd_k (by decide))) (rd_k (by decide))) hk_97_12), (Eq.trans (Eq.trans (Eq.trans (rd_k (by decide)) (rd_k (by decide))) (rd_k (by decide))) hk_97_27), (by have q3 : (((uI (uI (uI M 97 16 (M 97 15)) 97 17 0) 97 14 2) 97 14) : Int32).toInt = 2 := e224; have q4 : (((uI (uI (uI M 97 16 (M 97 15)) 97 17 0) 97 14 2) 97 16) : Int32).toInt = (M 97 15).toInt := e225; omega)⟩
                            · skip
                              have e226 : (((uI (uI M 97 16 (M 97 15)) 97 17 0) 97 15) : Int32).toInt = (M 97 15).toInt := Eq.trans (congrArg Int32.toInt (Eq.trans (rd_k (by decide)) (rd_k (by decide)))) rfl
                              have e227 : ((((uI (uI M 97 16 (M 97 15)) 97 17 0) 97 16) - ((uI (uI M 97 16 (M 97 15)) 97 17 0) 97 15)) : Int32).toInt = ((M 97 15).toInt) - ((M 97 15).toInt) := ti_sub e209 e226 (by omega)
                              have d228 : ((4) : Int) < (((M 97 15).toInt - (M 97 15).toInt)) := ci_nle e227 rfl c217
                              have hB229 : Bd (uI (uI (uI M 97 16 (M 97 15)) 97 17 0) 97 14 4) := Bd.o1 hB184 (show isO 112 97 12 = true from rfl) (by omega) (show bnd 12 14 = some _ from rfl) (show (4 : Int32).toInt = 4 from rfl) (by omega)
                              have b230 := Bd.o hB0 (show isO 112 97 12 = true from rfl) (show bnd 12 14 = some _ from rfl)
                              have b231 := Bd.o hB0 (show isO 112 97 12 = true from rfl) (show bnd 12 16 = some _ from rfl)
                              have e232 : (((uI (uI (uI M 97 16 (M 97 15)) 97 17 0) 97 14 4) 97 14) : Int32).toInt = 4 := Eq.trans (congrArg Int32.toInt rd_eq) rfl
                              have e233 : (((uI (uI (uI M 97 16 (M 97 15)) 97 17 0) 97 14 4) 97 16) : Int32).toInt = (M 97 15).toInt := Eq.trans (congrArg Int32.toInt (Eq.trans (Eq.trans (rd_k (by decide)) (rd_k (by decide))) rd_eq)) rfl
                              exact hQ _ _ _ _ hB229 ⟨(Eq.trans (Eq.trans (Eq.trans (rd_k (by decide)) (rd_k (by decide))) (rd_k (by decide))) hk_97_12), (Eq.trans (Eq.trans (Eq.trans (rd_k (by decide)) (rd_k (by decide))) (rd_k (by decide))) hk_97_27), (by have q3 : (((uI (uI (uI M 97 16 (M 97 15)) 97 17 0) 97 14 4) 97 14) : Int32).toInt = 4 := e232; have q4 : (((uI (uI (uI M 97 16 (M 97 15)) 97 17 0) 97 14 4) 97 16) : Int32).toInt = (M 97 15).toInt := e233; omega)⟩
                          · exact absurd c216 (by decide)
                        · skip
                          have e234 : ((((uI (uI M 97 16 (M 97 15)) 97 17 0) 101 (Int32.toNatClampNeg ((uI (uI M 97 16 (M 97 15)) 97 17 0) 97 16))) &&& 255) : Int32).toInt = (((M 101 (Int32.toNatClampNeg (M 97 15))) &&& 255) : Int32).toInt := congrArg (fun z => (z &&& 255 : Int32).toInt) (Eq.trans (Eq.trans (rd_ne (by omega)) (rd_ne (by omega))) (congrArg (fun z => M 101 (Int32.toNatClampNeg z)) (Eq.trans (rd_k (by decide)) rd_eq)))
                          have d235 : ((48) : Int) ≤ ((((M 101 (Int32.toNatClampNeg (M 97 15))) &&& 255) : Int32).toInt) := ci_nlt e234 rfl c212
                          refine ⟨fun c236 => ?_, fun c236 => ?_⟩
                          · skip
                            have d237 : ((57) : Int) < ((((M 101 (Int32.toNatClampNeg (M 97 15))) &&& 255) : Int32).toInt) := ci_lt rfl e234 c236
                            refine ⟨Or.inl rfl, ?_⟩
                            intro o238
                            refine ⟨fun c239 => ?_, fun c239 => ?_⟩
                            · skip
                              refine ⟨fun c240 => ?_, fun c240 => ?_⟩
                              · skip
                                have e241 : (((uI (uI M 97 16 (M 97 15)) 97 17 0) 97 15) : Int32).toInt = (M 97 15).toInt := Eq.trans (congrArg Int32.toInt (Eq.trans (rd_k (by decide)) (rd_k (by decide)))) rfl
                                have e242 : ((((uI (uI M 97 16 (M 97 15)) 97 17 0) 97 16) - ((uI (uI M 97 16 (M 97 15)) 97 17 0) 97 15)) : Int32).toInt = ((M 97 15).toInt) - ((M 97 15).toInt) := ti_sub e209 e241 (by omega)
                                have d243 : ((((M 97 15).toInt - (M 97 15).toInt)) : Int) ≤ (4) := ci_le e242 rfl c240
                                have hB244 : Bd (uI (uI (uI M 97 16 (M 97 15)) 97 17 0) 97 14 2) := Bd.o1 hB184 (show isO 112 97 12 = true from rfl) (by omega) (show bnd 12 14 = some _ from rfl) (show (2 : Int32).toInt = 2 from rfl) (by omega)
                                have b245 := Bd.o hB0 (show isO 112 97 12 = true from rfl) (show bnd 12 14 = some _ from rfl)
                                have b246 := Bd.o hB0 (show isO 112 97 12 = true from rfl) (show bnd 12 16 = some _ from rfl)
                                have e247 : (((uI (uI (uI M 97 16 (M 97 15)) 97 17 0) 97 14 2) 97 14) : Int32).toInt = 2 := Eq.trans (congrArg Int32.toInt rd_eq) rfl
                                have e248 : (((uI (uI (uI M 97 16 (M 97 15)) 97 17 0) 97 14 2) 97 16) : Int32).toInt = (M 97 15).toInt := Eq.trans (congrArg Int32.toInt (Eq.trans (Eq.trans (rd_k (by decide)) (rd_k (by decide))) rd_eq)) rfl
                                exact hQ _ _ _ _ hB244 ⟨(Eq.trans (Eq.trans (Eq.trans (rd_k (by decide)) (rd_k (by decide))) (rd_k (by decide))) hk_97_12), (Eq.trans (Eq.trans (Eq.trans (rd_k (by decide)) (rd_k (by decide))) (rd_k (by decide))) hk_97_27), (by have q3 : (((uI (uI (uI M 97 16 (M 97 15)) 97 17 0) 97 14 2) 97 14) : Int32).toInt = 2 := e247; have q4 : (((uI (uI (uI M 97 16 (M 97 15)) 97 17 0) 97 14 2) 97 16) : Int32).toInt = (M 97 15).toInt := e248; omega)⟩
                              · skip
                                have e249 : (((uI (uI M 97 16 (M 97 15)) 97 17 0) 97 15) : Int32).toInt = (M 97 15).toInt := Eq.trans (congrArg Int32.toInt (Eq.trans (rd_k (by decide)) (rd_k (by decide)))) rfl
                                have e250 : ((((uI (uI M 97 16 (M 97 15)) 97 17 0) 97 16) - ((uI (uI M 97 16 (M 97 15)) 97 17 0) 97 15)) : Int32).toInt = ((M 97 15).toInt) - ((M 97 15).toInt) := ti_sub e209 e249 (by omega)
                                have d251 : ((4) : Int) < (((M 97 15).toInt - (M 97 15).toInt)) := ci_nle e250 rfl c240
                                have hB252 : Bd (uI (uI (uI M 97 16 (M 97 15)) 97 17 0) 97 14 4) := Bd.o1 hB184 (show isO 112 97 12 = true from rfl) (by omega) (show bnd 12 14 = some _ from rfl) (show (4 : Int32).toInt = 4 from rfl) (by omega)
                                have b253 := Bd.o hB0 (show isO 112 97 12 = true from rfl) (show bnd 12 14 = some _ from rfl)
                                have b254 := Bd.o hB0 (show isO 112 97 12 = true from rfl) (show bnd 12 16 = some _ from rfl)
                                have e255 : (((uI (uI (uI M 97 16 (M 97 15)) 97 17 0) 97 14 4) 97 14) : Int32).toInt = 4 := Eq.trans (congrArg Int32.toInt rd_eq) rfl
                                have e256 : (((uI (uI (uI M 97 16 (M 97 15)) 97 17 0) 97 14 4) 97 16) : Int32).toInt = (M 97 15).toInt := Eq.trans (congrArg Int32.toInt (Eq.trans (Eq.trans (rd_k (by decide)) (rd_k (by decide))) rd_eq)) rfl
                                exact hQ _ _ _ _ hB252 ⟨(Eq.trans (Eq.trans (Eq.trans (rd_k (by decide)) (rd_k (by decide))) (rd_k (by decide))) hk_97_12), (Eq.trans (Eq.trans (Eq.trans (rd_k (by decide)) (rd_k (by decide))) (rd_k (by decide))) hk_97_27), (by have q3 : (((uI (uI (uI M 97 16 (M 97 15)) 97 17 0) 97 14 4) 97 14) : Int32).toInt = 4 := e255; have q4 : (((uI (uI (uI M 97 16 (M 97 15)) 97 17 0) 97 14 4) 97 16) : Int32).toInt = (M 97 15).toInt := e256; omega)⟩
                            · exact absurd c239 (by decide)
                          · skip
                            have d257 : (((((M 101 (Int32.toNatClampNeg (M 97 15))) &&& 255) : Int32).toInt) : Int) ≤ (57) := ci_nlt rfl e234 c236
                            refine ⟨Or.inr rfl, ?_⟩
                            intro o258
                            refine ⟨fun c259 => ?_, fun c259 => ?_⟩
                            · exact absurd c259 (by decide)
                            · skip
                              refine ⟨fun c260 => ?_, fun c260 => ?_⟩
                              · skip
                                have e261 : (((uI (uI M 97 16 (M 97 15)) 97 17 0) 97 15) : Int32).toInt = (M 97 15).toInt := Eq.trans (congrArg Int32.toInt (Eq.trans (rd_k (by decide)) (rd_k (by decide)))) rfl
                                have e262 : ((((uI (uI M 97 16 (M 97 15)) 97 17 0) 97 16) - ((uI (uI M 97 16 (M 97 15)) 97 17 0) 97 15)) : Int32).toInt = ((M 97 15).toInt) - ((M 97 15).toInt) := ti_sub e209 e261 (by omega)
                                have d263 : ((4) : Int) ≤ (((M 97 15).toInt - (M 97 15).toInt)) := ci_le rfl e262 c260
                                have e265 : ((((uI (uI M 97 16 (M 97 15)) 97 17 0) 97 16) + 1) : Int32).toInt = ((M 97 15).toInt) + (1) := ti_add e209 rfl (by omega)
                                have hB264 : Bd (uI (uI (uI M 97 16 (M 97 15)) 97 17 0) 97 16 (((uI (uI M 97 16 (M 97 15)) 97 17 0) 97 16) + 1)) := Bd.o1 hB184 (show isO 112 97 12 = true from rfl) (by omega) (show bnd 12 16 = some _ from rfl) (show ((((uI (uI M 97 16 (M 97 15)) 97 17 0) 97 16) + 1) : Int32).toInt = ((M 97 15).toInt + 1) from e265) (by omega)
                                have e266 : (((uI (uI (uI M 97 16 (M 97 15)) 97 17 0) 97 16 (((uI (uI M 97 16 (M 97 15)) 97 17 0) 97 16) + 1)) 97 15) : Int32).toInt = (M 97 15).toInt := Eq.trans (congrArg Int32.toInt (Eq.trans (Eq.trans (rd_k (by decide)) (rd_k (by decide))) (rd_k (by decide)))) rfl
                                have e267 : (((uI (uI (uI M 97 16 (M 97 15)) 97 17 0) 97 16 (((uI (uI M 97 16 (M 97 15)) 97 17 0) 97 16) + 1)) 97 16) : Int32).toInt = ((M 97 15).toInt + 1) := Eq.trans (congrArg Int32.toInt rd_eq) e265
                                exact ih.2.2.2 _ _ hB264 (Eq.trans (Eq.trans (Eq.trans (rd_k (by decide)) (rd_k (by decide))) (rd_k (by decide))) hk_97_12) (Eq.trans (Eq.trans (Eq.trans (rd_k (by decide)) (rd_k (by decide))) (rd_k (by decide))) hk_97_27) (by have q0 : (((uI (uI (uI M 97 16 (M 97 15)) 97 17 0) 97 16 (((uI (uI M 97 16 (M 97 15)) 97 17 0) 97 16) + 1)) 97 15) : Int32).toInt = (M 97 15).toInt := e266; have q1 : (((uI (uI (uI M 97 16 (M 97 15)) 97 17 0) 97 16 (((uI (uI M 97 16 (M 97 15)) 97 17 0) 97 16) + 1)) 97 15) : Int32).toInt = (M 97 15).toInt := e266; have q2 : (((uI (uI (uI M 97 16 (M 97 15)) 97 17 0) 97 16 (((uI (uI M 97 16 (M 97 15)) 97 17 0) 97 16) + 1)) 97 16) : Int32).toInt = ((M 97 15).toInt + 1) := e267; have q3 : (((uI (uI (uI M 97 16 (M 97 15)) 97 17 0) 97 16 (((uI (uI M 97 16 (M 97 15)) 97 17 0) 97 16) + 1)) 97 16) : Int32).toInt = ((M 97 15).toInt + 1) := e267; omega) (by have q0 : (((uI (uI (uI M 97 16 (M 97 15)) 97 17 0) 97 16 (((uI (uI M 97 16 (M 97 15)) 97 17 0) 97 16) + 1)) 97 16) : Int32).toInt = ((M 97 15).toInt + 1) := e267; omega)
                              · skip
                                have e268 : (((uI (uI M 97 16 (M 97 15)) 97 17 0) 97 15) : Int32).toInt = (M 97 15).toInt := Eq.trans (congrArg Int32.toInt (Eq.trans (rd_k (by decide)) (rd_k (by decide)))) rfl
                                have e269 : ((((uI (uI M 97 16 (M 97 15)) 97 17 0) 97 16) - ((uI (uI M 97 16 (M 97 15)) 97 17 0) 97 15)) : Int32).toInt = ((M 97 15).toInt) - ((M 97 15).toInt) := ti_sub e209 e268 (by omega)
                                have d270 : ((((M 97 15).toInt - (M 97 15).toInt)) : Int) < (4) := ci_nle rfl e269 c260
                                refine w_X12_look2 ?_
                                refine ⟨fun c271 => ?_, fun c271 => ?_⟩
                                · skip
                                  have d272 : (((M 97 9).toInt) : Int) ≤ ((M 97 15).toInt) := ci_le e210 e209 c271
                                  have hB273 : Bd (uI (uI (uI M 97 16 (M 97 15)) 97 17 0) 97 17 (((10 * ((uI (uI M 97 16 (M 97 15)) 97 17 0) 97 17)) + 0) - 48)) := Bd.o0 hB184 (show isO 112 97 12 = true from rfl) (by omega) (show bnd 12 17 = none from rfl)
                                  have e275 : (((uI (uI (uI M 97 16 (M 97 15)) 97 17 0) 97 17 (((10 * ((uI (uI M 97 16 (M 97 15)) 97 17 0) 97 17)) + 0) - 48)) 97 16) : Int32).toInt = (M 97 15).toInt := Eq.trans (congrArg Int32.toInt (Eq.trans (Eq.trans (rd_k (by decide)) (rd_k (by decide))) rd_eq)) rfl
                                  have e276 : ((((uI (uI (uI M 97 16 (M 97 15)) 97 17 0) 97 17 (((10 * ((uI (uI M 97 16 (M 97 15)) 97 17 0) 97 17)) + 0) - 48)) 97 16) + 1) : Int32).toInt = ((M 97 15).toInt) + (1) := ti_add e275 rfl (by omega)
                                  have hB274 : Bd (uI (uI (uI (uI M 97 16 (M 97 15)) 97 17 0) 97 17 (((10 * ((uI (uI M 97 16 (M 97 15)) 97 17 0) 97 17)) + 0) - 48)) 97 16 (((uI (uI (uI M 97 16 (M 97 15)) 97 17 0) 97 17 (((10 * ((uI (uI M 97 16 (M 97 15)) 97 17 0) 97 17)) + 0) - 48)) 97 16) + 1)) := Bd.o1 hB273 (show isO 112 97 12 = true from rfl) (by omega) (show bnd 12 16 = some _ from rfl) (show ((((uI (uI (uI M 97 16 (M 97 15)) 97 17 0) 97 17 (((10 * ((uI (uI M 97 16 (M 97 15)) 97 17 0) 97 17)) + 0) - 48)) 97 16) + 1) : Int32).toInt = ((M 97 15).toInt + 1) from e276) (by omega)
                                  have e277 : (((uI (uI (uI (uI M 97 16 (M 97 15)) 97 17 0) 97 17 (((10 * ((uI (uI M 97 16 (M 97 15)) 97 17 0) 97 17)) + 0) - 48)) 97 16 (((uI (uI (uI M 97 16 (M 97 15)) 97 17 0) 97 17 (((10 * ((uI (uI M 97 16 (M 97 15)) 97 17 0) 97 17)) + 0) - 48)) 97 16) + 1)) 97 15) : Int32).toInt = (M 97 15).toInt := Eq.trans (congrArg Int32.toInt (Eq.trans (Eq.trans (Eq.trans (rd_k (by decide)) (rd_k (by decide))) (rd_k (by decide))) (rd_k (by decide)))) rfl
                                  have e278 : (((uI (uI (uI (uI M 97 16 (M 97 15)) 97 17 0) 97 17 (((10 * ((uI (uI M 97 16 (M 97 15)) 97 17 0) 97 17)) + 0) - 48)) 97 16 (((uI (uI (uI M 97 16 (M 97 15)) 97 17 0) 97 17 (((10 * ((uI (uI M 97 16 (M 97 15)) 97 17 0) 97 17)) + 0) - 48)) 97 16) + 1)) 97 16) : Int32).toInt = ((M 97 15).toInt + 1) := Eq.trans (congrArg Int32.toInt rd_eq) e276
                                  exact ih.2.2.2 _ _ hB274 (Eq.trans (Eq.trans (Eq.trans (Eq.trans (rd_k (by decide)) (rd_k (by decide))) (rd_k (by decide))) (rd_k (by decide))) hk_97_12) (Eq.trans (Eq.trans (Eq.trans (Eq.trans (rd_k (by decide)) (rd_k (by decide))) (rd_k (by decide))) (rd_k (by decide))) hk_97_27) (by have q0 : (((uI (uI (uI (uI M 97 16 (M 97 15)) 97 17 0) 97 17 (((10 * ((uI (uI M 97 16 (M 97 15)) 97 17 0) 97 17)) + 0) - 48)) 97 16 (((uI (uI (uI M 97 16 (M 97 15)) 97 17 0) 97 17 (((10 * ((uI (uI M 97 16 (M 97 15)) 97 17 0) 97 17)) + 0) - 48)) 97 16) + 1)) 97 15) : Int32).toInt = (M 97 15).toInt := e277; have q1 : (((uI (uI (uI (uI M 97 16 (M 97 15)) 97 17 0) 97 17 (((10 * ((uI (uI M 97 16 (M 97 15)) 97 17 0) 97 17)) + 0) - 48)) 97 16 (((uI (uI (uI M 97 16 (M 97 15)) 97 17 0) 97 17 (((10 * ((uI (uI M 97 16 (M 97 15)) 97 17 0) 97 17)) + 0) - 48)) 97 16) + 1)) 97 15) : Int32).toInt = (M 97 15).toInt := e277; have q2 : (((uI (uI (uI (uI M 97 16 (M 97 15)) 97 17 0) 97 17 (((10 * ((uI (uI M 97 16 (M 97 15)) 97 17 0) 97 17)) + 0) - 48)) 97 16 (((uI (uI (uI M 97 16 (M 97 15)) 97 17 0) 97 17 (((10 * ((uI (uI M 97 16 (M 97 15)) 97 17 0) 97 17)) + 0) - 48)) 97 16) + 1)) 97 16) : Int32).toInt = ((M 97 15).toInt + 1) := e278; have q3 : (((uI (uI (uI (uI M 97 16 (M 97 15)) 97 17 0) 97 17 (((10 * ((uI (uI M 97 16 (M 97 15)) 97 17 0) 97 17)) + 0) - 48)) 97 16 (((uI (uI (uI M 97 16 (M 97 15)) 97 17 0) 97 17 (((10 * ((uI (uI M 97 16 (M 97 15)) 97 17 0) 97 17)) + 0) - 48)) 97 16) + 1)) 97 16) : Int32).toInt = ((M 97 15).toInt + 1) := e278; omega) (by have q0 : (((uI (uI (uI (uI M 97 16 (M 97 15)) 97 17 0) 97 17 (((10 * ((uI (uI M 97 16 (M 97 15)) 97 17 0) 97 17)) + 0) - 48)) 97 16 (((uI (uI (uI M 97 16 (M 97 15)) 97 17 0) 97 17 (((10 * ((uI (uI M 97 16 (M 97 15)) 97 17 0) 97 17)) + 0) - 48)) 97 16) + 1)) 97 16) : Int32).toInt = ((M 97 15).toInt + 1) := e278; omega)
                                · skip
                                  have d279 : (((M 97 15).toInt) : Int) < ((M 97 9).toInt) := ci_nle e210 e209 c271
                                  refine ⟨vp_of (a := (M 97 15).toInt) e209 (by omega) (by omega), ?_⟩
                                  have hB280 : Bd (uI (uI (uI M 97 16 (M 97 15)) 97 17 0) 97 17 (((10 * ((uI (uI M 97 16 (M 97 15)) 97 17 0) 97 17)) + (((uI (uI M 97 16 (M 97 15)) 97 17 0) 101 (Int32.toNatClampNeg ((uI (uI M 97 16 (M 97 15)) 97 17 0) 97 16))) &&& 255)) - 48)) := Bd.o0 hB184 (show isO 112 97 12 = true from rfl) (by omega) (show bnd 12 17 = none from rfl)
                                  have e282 : (((uI (uI (uI M 97 16 (M 97 15)) 97 17 0) 97 17 (((10 * ((uI (uI M 97 16 (M 97 15)) 97 17 0) 97 17)) + (((uI (uI M 97 16 (M 97 15)) 97 17 0) 101 (Int32.toNatClampNeg ((uI (uI M 97 16 (M 97 15)) 97 17 0) 97 16))) &&& 255)) - 48)) 97 16) : Int32).toInt = (M 97 15).toInt := Eq.trans (congrArg Int32.toInt (Eq.trans (Eq.trans (rd_k (by decide)) (rd_k (by decide))) rd_eq)) rfl
                                  have e283 : ((((uI (uI (uI M 97 16 (M 97 15)) 97 17 0) 97 17 (((10 * ((uI (uI M 97 16 (M 97 15)) 97 17 0) 97 17)) + (((uI (uI M 97 16 (M 97 15)) 97 17 0) 101 (Int32.toNatClampNeg ((uI (uI M 97 16 (M 97 15)) 97 17 0) 97 16))) &&& 255)) - 48)) 97 16) + 1) : Int32).toInt = ((M 97 15).toInt) + (1) := ti_add e282 rfl (by omega)
                                  have hB281 : Bd (uI (uI (uI (uI M 97 16 (M 97 15)) 97 17 0) 97 17 (((10 * ((uI (uI M 97 16 (M 97 15)) 97 17 0) 97 17)) + (((uI (uI M 97 16 (M 97 15)) 97 17 0) 101 (Int32.toNatClampNeg ((uI (uI M 97 16 (M 97 15)) 97 17 0) 97 16))) &&& 255)) - 48)) 97 16 (((uI (uI (uI M 97 16 (M 97 15)) 97 17 0) 97 17 (((10 * ((uI (uI M 97 16 (M 97 15)) 97 17 0) 97 17)) + (((uI (uI M 97 16 (M 97 15)) 97 17 0) 101 (Int32.toNatClampNeg ((uI (uI M 97 16 (M 97 15)) 97 17 0) 97 16))) &&& 255)) - 48)) 97 16) + 1)) := Bd.o1 hB280 (show isO 112 97 12 = true from rfl) (by omega) (show bnd 12 16 = some _ from rfl) (show ((((uI (uI (uI M 97 16 (M 97 15)) 97 17 0) 97 17 (((10 * ((uI (uI M 97 16 (M 97 15)) 97 17 0) 97 17)) + (((uI (uI M 97 16 (M 97 15)) 97 17 0) 101 (Int32.toNatClampNeg ((uI (uI M 97 16 (M 97 15)) 97 17 0) 97 16))) &&& 255)) - 48)) 97 16) + 1) : Int32).toInt = ((M 97 15).toInt + 1) from e283) (by omega)
                                  have e284 : (((uI (uI (uI (uI M 97 16 (M 97 15)) 97 17 0) 97 17 (((10 * ((uI (uI M 97 16 (M 97 15)) 97 17 0) 97 17)) + (((uI (uI M 97 16 (M 97 15)) 97 17 0) 101 (Int32.toNatClampNeg ((uI (uI M 97 16 (M 97 15)) 97 17 0) 97 16))) &&& 255)) - 48)) 97 16 (((uI (uI (uI M 97 16 (M 97 15)) 97 17 0) 97 17 (((10 * ((uI (uI M 97 16 (M 97 15)) 97 17 0) 97 17)) + (((uI (uI M 97 16 (M 97 15)) 97 17 0) 101 (Int32.toNatClampNeg ((uI (uI M 97 16 (M 97 15)) 97 17 0) 97 16))) &&& 255)) - 48)) 97 16) + 1)) 97 15) : Int32).toInt = (M 97 15).toInt := Eq.trans (congrArg Int32.toInt (Eq.trans (Eq.trans (Eq.trans (rd_k (by decide)) (rd_k (by decide))) (rd_k (by decide))) (rd_k (by decide)))) rfl
                                  have e285 : (((uI (uI (uI (uI M 97 16 (M 97 15)) 97 17 0) 97 17 (((10 * ((uI (uI M 97 16 (M 97 15)) 97 17 0) 97 17)) + (((uI (uI M 97 16 (M 97 15)) 97 17 0) 101 (Int32.toNatClampNeg ((uI (uI M 97 16 (M 97 15)) 97 17 0) 97 16))) &&& 255)) - 48)) 97 16 (((uI (uI (uI M 97 16 (M 97 15)) 97 17 0) 97 17 (((10 * ((uI (uI M 97 16 (M 97 15)) 97 17 0) 97 17)) + (((uI (uI M 97 16 (M 97 15)) 97 17 0) 101 (Int32.toNatClampNeg ((uI (uI M 97 16 (M 97 15)) 97 17 0) 97 16))) &&& 255)) - 48)) 97 16) + 1)) 97 16) : Int32).toInt = ((M 97 15).toInt + 1) := Eq.trans (congrArg Int32.toInt rd_eq) e283
                                  exact ih.2.2.2 _ _ hB281 (Eq.trans (Eq.trans (Eq.trans (Eq.trans (rd_k (by decide)) (rd_k (by decide))) (rd_k (by decide))) (rd_k (by decide))) hk_97_12) (Eq.trans (Eq.trans (Eq.trans (Eq.trans (rd_k (by decide)) (rd_k (by decide))) (rd_k (by decide))) (rd_k (by decide))) hk_97_27) (by have q0 : (((uI (uI (uI (uI M 97 16 (M 97 15)) 97 17 0) 97 17 (((10 * ((uI (uI M 97 16 (M 97 15)) 97 17 0) 97 17)) + (((uI (uI M 97 16 (M 97 15)) 97 17 0) 101 (Int32.toNatClampNeg ((uI (uI M 97 16 (M 97 15)) 97 17 0) 97 16))) &&& 255)) - 48)) 97 16 (((uI (uI (uI M 97 16 (M 97 15)) 97 17 0) 97 17 (((10 * ((uI (uI M 97 16 (M 97 15)) 97 17 0) 97 17)) + (((uI (uI M 97 16 (M 97 15)) 97 17 0) 101 (Int32.toNatClampNeg ((uI (uI M 97 16 (M 97 15)) 97 17 0) 97 16))) &&& 255)) - 48)) 97 16) + 1)) 97 15) : Int32).toInt = (M 97 15).toInt := e284; have q1 : (((uI (uI (uI (uI M 97 16 (M 97 15)) 97 17 0) 97 17 (((10 * ((uI (uI M 97 16 (M 97 15)) 97 17 0) 97 17)) + (((uI (uI M 97 16 (M 97 15)) 97 17 0) 101 (Int32.toNatClampNeg ((uI (uI M 97 16 (M 97 15)) 97 17 0) 97 16))) &&& 255)) - 48)) 97 16 (((uI (uI (uI M 97 16 (M 97 15)) 97 17 0) 97 17 (((10 * ((uI (uI M 97 16 (M 97 15)) 97 17 0) 97 17)) + (((uI (uI M 97 16 (M 97 15)) 97 17 0) 101 (Int32.toNatClampNeg ((uI (uI M 97 16 (M 97 15)) 97 17 0) 97 16))) &&& 255)) - 48)) 97 16) + 1)) 97 15) : Int32).toInt = (M 97 15).toInt := e284; have q2 : (((uI (uI (uI (uI M 97 16 (M 97 15)) 97 17 0) 97 17 (((10 * ((uI (uI M 97 16 (M 97 15)) 97 17 0) 97 17)) + (((uI (uI M 97 16 (M 97 15)) 97 17 0) 101 (Int32.toNatClampNeg ((uI (uI M 97 16 (M 97 15)) 97 17 0) 97 16))) &&& 255)) - 48)) 97 16 (((uI (uI (uI M 97 16 (M 97 15)) 97 17 0) 97 17 (((10 * ((uI (uI M 97 16 (M 97 15)) 97 17 0) 97 17)) + (((uI (uI M 97 16 (M 97 15)) 97 17 0) 101 (Int32.toNatClampNeg ((uI (uI M 97 16 (M 97 15)) 97 17 0) 97 16))) &&& 255)) - 48)) 97 16) + 1)) 97 16) : Int32).toInt = ((M 97 15).toInt + 1) := e285; have q3 : (((uI (uI (uI (uI M 97 16 (M 97 15)) 97 17 0) 97 17 (((10 * ((uI (uI M 97 16 (M 97 15)) 97 17 0) 97 17)) + (((uI (uI M 97 16 (M 97 15)) 97 17 0) 101 (Int32.toNatClampNeg ((uI (uI M 97 16 (M 97 15)) 97 17 0) 97 16))) &&& 255)) - 48)) 97 16 (((uI (uI (uI M 97 16 (M 97 15)) 97 17 0) 97 17 (((10 * ((uI (uI M 97 16 (M 97 15)) 97 17 0) 97 17)) + (((uI (uI M 97 16 (M 97 15)) 97 17 0) 101 (Int32.toNatClampNeg ((uI (uI M 97 16 (M 97 15)) 97 17 0) 97 16))) &&& 255)) - 48)) 97 16) + 1)) 97 16) : Int32).toInt = ((M 97 15).toInt + 1) := e285; omega) (by have q0 : (((uI (uI (uI (uI M 97 16 (M 97 15)) 97 17 0) 97 17 (((10 * ((uI (uI M 97 16 (M 97 15)) 97 17 0) 97 17)) + (((uI (uI M 97 16 (M 97 15)) 97 17 0) 101 (Int32.toNatClampNeg ((uI (uI M 97 16 (M 97 15)) 97 17 0) 97 16))) &&& 255)) - 48)) 97 16 (((uI (uI (uI M 97 16 (M 97 15)) 97 17 0) 97 17 (((10 * ((uI (uI M 97 16 (M 97 15)) 97 17 0) 97 17)) + (((uI (uI M 97 16 (M 97 15)) 97 17 0) 101 (Int32.toNatClampNeg ((uI (uI M 97 16 (M 97 15)) 97 17 0) 97 16))) &&& 255)) - 48)) 97 16) + 1)) 97 16) : Int32).toInt = ((M 97 15).toInt + 1) := e285; omega)
              · exact absurd c71 (by decide)
            · skip
              have e286 : ((((uI M 97 16 (M 97 15)) 101 (Int32.toNatClampNeg ((uI M 97 16 (M 97 15)) 97 15))) &&& 255) : Int32).toInt = (((M 101 (Int32.toNatClampNeg (M 97 15))) &&& 255) : Int32).toInt := congrArg (fun z => (z &&& 255 : Int32).toInt) (Eq.trans (rd_ne (by omega)) (congrArg (fun z => M 101 (Int32.toNatClampNeg z)) (rd_k (by decide))))
              have d287 : ((97) : Int) ≤ ((((M 101 (Int32.toNatClampNeg (M 97 15))) &&& 255) : Int32).toInt) := ci_nlt e286 rfl c67
              refine ⟨fun c288 => ?_, fun c288 => ?_⟩
              · skip
                have d289 : ((122) : Int) < ((((M 101 (Int32.toNatClampNeg (M 97 15))) &&& 255) : Int32).toInt) := ci_lt rfl e286 c288
                refine ⟨Or.inl rfl, ?_⟩
                intro o290
                refine ⟨fun c291 => ?_, fun c291 => ?_⟩
                · skip
                  refine w_X12_isDigit ?_
                  refine ⟨fun c292 => ?_, fun c292 => ?_⟩
                  · skip
                    have d293 : (((((M 101 (Int32.toNatClampNeg (M 97 15))) &&& 255) : Int32).toInt) : Int) < (48) := ci_lt e286 rfl c292
                    refine ⟨Or.inl rfl, ?_⟩
                    intro o294
                    refine ⟨fun c295 => ?_, fun c295 => ?_⟩
                    · skip
                      have e297 : ((((uI M 97 16 (M 97 15)) 97 15) + 1) : Int32).toInt = ((M 97 15).toInt) + (1) := ti_add e40 rfl (by omega)
                      have hB296 : Bd (uI (uI M 97 16 (M 97 15)) 97 16 (((uI M 97 16 (M 97 15)) 97 15) + 1)) := Bd.o1 hB38 (show isO 112 97 12 = true from rfl) (by omega) (show bnd 12 16 = some _ from rfl) (show ((((uI M 97 16 (M 97 15)) 97 15) + 1) : Int32).toInt = ((M 97 15).toInt + 1) from e297) (by omega)
                      have hB298 : Bd (uI (uI (uI M 97 16 (M 97 15)) 97 16 (((uI M 97 16 (M 97 15)) 97 15) + 1)) 97 17 (((uI M 97 16 (M 97 15)) 101 (Int32.toNatClampNeg ((uI M 97 16 (M 97 15)) 97 15))) &&& 255)) := Bd.o0 hB296 (show isO 112 97 12 = true from rfl) (by omega) (show bnd 12 17 = none from rfl)
                      refine w_X12_isSignByte ?_
                      refine ⟨fun c299 => ?_, fun c299 => ?_⟩
                      · skip
                        have d300 : (((((M 101 (Int32.toNatClampNeg (M 97 15))) &&& 255) : Int32).toInt) : Int) = (59) := ci_eq e286 rfl c299
                        refine ⟨Or.inr rfl, ?_⟩
                        intro o301
                        refine ⟨fun c302 => ?_, fun c302 => ?_⟩
                        · exact absurd c302 (by decide)
                        · skip
                          have hB303 : Bd (uI (uI (uI (uI M 97 16 (M 97 15)) 97 16 (((uI M 97 16 (M 97 15)) 97 15) + 1)) 97 17 (((uI M 97 16 (M 97 15)) 101 (Int32.toNatClampNeg ((uI M 97 16 (M 97 15)) 97 15))) &&& 255)) 97 14 3) := Bd.o1 hB298 (show isO 112 97 12 = true from rfl) (by omega) (show bnd 12 14 = some _ from rfl) (show (3 : Int32).toInt = 3 from rfl) (by omega)
                          have b304 := Bd.o hB0 (show isO 112 97 12 = true from rfl) (show bnd 12 14 = some _ from rfl)
                          have b305 := Bd.o hB0 (show isO 112 97 12 = true from rfl) (show bnd 12 16 = some _ from rfl)
                          have e306 : (((uI (uI (uI (uI M 97 16 (M 97 15)) 97 16 (((uI M 97 16 (M 97 15)) 97 15) + 1)) 97 17 (((uI M 97 16 (M 97 15)) 101 (Int32.toNatClampNeg ((uI M 97 16 (M 97 15)) 97 15))) &&& 255)) 97 14 3) 97 14) : Int32).toInt = 3 := Eq.trans (congrArg Int32.toInt rd_eq) rfl
                          have e307 : (((uI (uI (uI (uI M 97 16 (M 97 15)) 97 16 (((uI M 97 16 (M 97 15)) 97 15) + 1)) 97 17 (((uI M 97 16 (M 97 15)) 101 (Int32.toNatClampNeg ((uI M 97 16 (M 97 15)) 97 15))) &&& 255)) 97 14 3) 97 16) : Int32).toInt = ((M 97 15).toInt + 1) := Eq.trans (congrArg Int32.toInt (Eq.trans (Eq.trans (rd_k (by decide)) (rd_k (by decide))) rd_eq)) e297
                          exact hQ _ _ _ _ hB303 ⟨(Eq.trans (Eq.trans (Eq.trans (Eq.trans (rd_k (by decide)) (rd_k (by decide))) (rd_k (by decide))) (rd_k (by decide))) hk_97_12), (Eq.trans (Eq.trans (Eq.trans (Eq.trans (rd_k (by decide)) (rd_k (by decide))) (rd_k (by decide))) (rd_k (by decide))) hk_97_27), (by have q3 : (((uI (uI (uI (uI M 97 16 (M 97 15)) 97 16 (((uI M 97 16 (M 97 15)) 97 15) + 1)) 97 17 (((uI M 97 16 (M 97 15)) 101 (Int32.toNatClampNeg ((uI M 97 16 (M 97 15)) 97 15))) &&& 255)) 97 14 3) 97 14) : Int32).toInt = 3 := e306; have q4 : (((uI (uI (uI (uI M 97 16 (M 97 15)) 97 16 (((uI M 97 16 (M 97 15)) 97 15) + 1)) 97 17 (((uI M 97 16 (M 97 15)) 101 (Int32.toNatClampNeg ((uI M 97 16 (M 97 15)) 97 15))) &&& 255)) 97 14 3) 97 16) : Int32).toInt = ((M 97 15).toInt + 1) := e307; omega)⟩
                      · skip
                        have d308 : ¬ (((((M 101 (Int32.toNatClampNeg (M 97 15))) &&& 255) : Int32).toInt) : Int) = (59) := ci_ne e286 rfl c299
                        refine ⟨fun c309 => ?_, fun c309 => ?_⟩
                        · skip
                          have d310 : (((((M 101 (Int32.toNatClampNeg (M 97 15))) &&& 255) : Int32).toInt) : Int) = (60) := ci_eq e286 rfl c309
                          refine ⟨Or.inr rfl, ?_⟩
                          intro o311
                          refine ⟨fun c312 => ?_, fun c312 => ?_⟩
                          · exact absurd c312 (by decide)
                          · skip
                            have hB313 : Bd (uI (uI (uI (uI M 97 16 (M 97 15)) 97 16 (((uI M 97 16 (M 97 15)) 97 15) + 1)) 97 17 (((uI M 97 16 (M 97 15)) 101 (Int32.toNatClampNeg ((uI M 97 16 (M 97 15)) 97 15))) &&& 255)) 97 14 3) := Bd.o1 hB298 (show isO 112 97 12 = true from rfl) (by omega) (show bnd 12 14 = some _ from rfl) (show (3 : Int32).toInt = 3 from rfl) (by omega)
                            have b314 := Bd.o hB0 (show isO 112 97 12 = true from rfl) (show bnd 12 14 = some _ from rfl)
                            have b315 := Bd.o hB0 (show isO 112 97 12 = true from rfl) (show bnd 12 16 = some _ from rfl)
                            have e316 : (((uI (uI (uI (uI M 97 16 (M 97 15)) 97 16 (((uI M 97 16 (M 97 15)) 97 15) + 1)) 97 17 (((uI M 97 16 (M 97 15)) 101 (Int32.toNatClampNeg ((uI M 97 16 (M 97 15)) 97 15))) &&& 255)) 97 14 3) 97 14) : Int32).toInt = 3 := Eq.trans (congrArg Int32.toInt rd_eq) rfl
                            have e317 : (((uI (uI (uI (uI M 97 16 (M 97 15)) 97 16 (((uI M 97 16 (M 97 15)) 97 15) + 1)) 97 17 (((uI M 97 16 (M 97 15)) 101 (Int32.toNatClampNeg ((uI M 97 16 (M 97 15)) 97 15))) &&& 255)) 97 14 3) 97 16) : Int32).toInt = ((M 97 15).toInt + 1) := Eq.trans (congrArg Int32.toInt (Eq.trans (Eq.trans (rd_k (by decide)) (rd_k (by decide))) rd_eq)) e297
                            exact hQ _ _ _ _ hB313 ⟨(Eq.trans (Eq.trans (Eq.trans (Eq.trans (rd_k (by decide)) (rd_k (by decide))) (rd_k (by decide))) (rd_k (by decide))) hk_97_12), (Eq.trans (Eq.trans (Eq.trans (Eq.trans (rd_k (by decide)) (rd_k (by decide))) (rd_k (by decide))) (rd_k (by decide))) hk_97_27), (by have q3 : (((uI (uI (uI (uI M 97 16 (M 97 15)) 97 16 (((uI M 97 16 (M 97 15)) 97 15) + 1)) 97 17 (((uI M 97 16 (M 97 15)) 101 (Int32.toNatClampNeg ((uI M 97 16 (M 97 15)) 97 15))) &&& 255)) 97 14 3) 97 14) : Int32).toInt = 3 := e316; have q4 : (((uI (uI (uI (uI M 97 16 (M 97 15)) 97 16 (((uI M 97 16 (M 97 15)) 97 15) + 1)) 97 17 (((uI M 97 16 (M 97 15)) 101 (Int32.toNatClampNeg ((uI M 97 16 (M 97 15)) 97 15))) &&& 255)) 97 14 3) 97 16) : Int32).toInt = ((M 97 15).toInt + 1) := e317; omega)⟩
                        · skip
                          have d318 : ¬ (((((M 101 (Int32.toNatClampNeg (M 97 15))) &&& 255) : Int32).toInt) : Int) = (60) := ci_ne e286 rfl c309
                          refine ⟨fun c319 => ?_, fun c319 => ?_⟩
                          · skip
                            have d320 : (((((M 101 (Int32.toNatClampNeg (M 97 15))) &&& 255) : Int32).toInt) : Int) = (62) := ci_eq e286 rfl c319
                            refine ⟨Or.inr rfl, ?_⟩
                            intro o321
                            refine ⟨fun c322 => ?_, fun c322 => ?_⟩
                            · exact absurd c322 (by decide)
                            · skip
                              have hB323 : Bd (uI (uI (uI (uI M 97 16 (M 97 15)) 97 16 (((uI M 97 16 (M 97 15)) 97 15) + 1)) 97 17 (((uI M 97 16 (M 97 15)) 101 (Int32.toNatClampNeg ((uI M 97 16 (M 97 15)) 97 15))) &&& 255)) 97 14 3) := Bd.o1 hB298 (show isO 112 97 12 = true from rfl) (by omega) (show bnd 12 14 = some _ from rfl) (show (3 : Int32).toInt = 3 from rfl) (by omega)
                              have b324 := Bd.o hB0 (show isO 112 97 12 = true from rfl) (show bnd 12 14 = some _ from rfl)
                              have b325 := Bd.o hB0 (show isO 112 97 12 = true from rfl) (show bnd 12 16 = some _ from rfl)
                              have e326 : (((uI (uI (uI (uI M 97 16 (M 97 15)) 97 16 (((uI M 97 16 (M 97 15)) 97 15) + 1)) 97 17 (((uI M 97 16 (M 97 15)) 101 (Int32.toNatClampNeg ((uI M 97 16 (M 97 15)) 97 15))) &&& 255)) 97 14 3) 97 14) : Int32).toInt = 3 := Eq.trans (congrArg Int32.toInt rd_eq) rfl
                              have e327 : (((uI (uI (uI (uI M 97 16 (M 97 15)) 97 16 (((uI M 97 16 (M 97 15)) 97 15) + 1)) 97 17 (((uI M 97 16 (M 97 15)) 101 (Int32.toNatClampNeg ((uI M 97 16 (M 97 15)) 97 15))) &&& 255)) 97 14 3) 97 16) : Int32).toInt = ((M 97 15).toInt + 1) := Eq.trans (congrArg Int32.toInt (Eq.trans (Eq.trans (rd_k (by decide)) (rd_k (by decide))) rd_eq)) e297
                              exact hQ _ _ _ _ hB323 ⟨(Eq.trans (Eq.trans (Eq.trans (Eq.trans (rd_k (by decide)) (rd_k (by decide))) (rd_k (by decide))) (rd_k (by decide))) hk_97_12), (Eq.trans (Eq.trans (Eq.trans (Eq.trans (rd_k (by decide)) (rd_k (by decide))) (rd_k (by decide))) (rd_k (by decide))) hk_97_27), (by have q3 : (((uI (uI (uI (uI M 97 16 (M 97 15)) 97 16 (((uI M 97 16 (M 97 15)) 97 15) + 1)) 97 17 (((uI M 97 16 (M 97 15)) 101 (Int32.toNatClampNeg ((uI M 97 16 (M 97 15)) 97 15))) &&& 255)) 97 14 3) 97 14) : Int32).toInt = 3 := e326; have q4 : (((uI (uI (uI (uI M 97 16 (M 97 15)) 97 16 (((uI M 97 16 (M 97 15)) 97 15) + 1)) 97 17 (((uI M 97 16 (M 97 15)) 101 (Int32.toNatClampNeg ((uI M 97 16 (M 97 15)) 97 15))) &&& 255)) 97 14 3) 97 16) : Int32).toInt = ((M 97 15).toInt + 1) := e327; omega)⟩
                          · skip
                            have d328 : ¬ (((((M 101 (Int32.toNatClampNeg (M 97 15))) &&& 255) : Int32).toInt) : Int) = (62) := ci_ne e286 rfl c319
                            refine ⟨fun c329 => ?_, fun c329 => ?_⟩
                            · skip
                              have d330 : ¬ (((((M 101 (Int32.toNatClampNeg (M 97 15))) &&& 255) : Int32).toInt) : Int) = (61) := ci_ne e286 rfl c329
                              refine ⟨Or.inl rfl, ?_⟩
                              intro o331
                              refine ⟨fun c332 => ?_, fun c332 => ?_⟩
                              · skip
                                have hB333 : Bd (uI (uI (uI (uI M 97 16 (M 97 15)) 97 16 (((uI M 97 16 (M 97 15)) 97 15) + 1)) 97 17 (((uI M 97 16 (M 97 15)) 101 (Int32.toNatClampNeg ((uI M 97 16 (M 97 15)) 97 15))) &&& 255)) 97 14 4) := Bd.o1 hB298 (show isO 112 97 12 = true from rfl) (by omega) (show bnd 12 14 = some _ from rfl) (show (4 : Int32).toInt = 4 from rfl) (by omega)
                                have b334 := Bd.o hB0 (show isO 112 97 12 = true from rfl) (show bnd 12 14 = some _ from rfl)
                                have b335 := Bd.o hB0 (show isO 112 97 12 = true from rfl) (show bnd 12 16 = some _ from rfl)
                                have e336 : (((uI (uI (uI (uI M 97 16 (M 97 15)) 97 16 (((uI M 97 16 (M 97 15)) 97 15) + 1)) 97 17 (((uI M 97 16 (M 97 15)) 101 (Int32.toNatClampNeg ((uI M 97 16 (M 97 15)) 97 15))) &&& 255)) 97 14 4) 97 14) : Int32).toInt = 4 := Eq.trans (congrArg Int32.toInt rd_eq) rfl
                                have e337 : (((uI (uI (uI (uI M 97 16 (M 97 15)) 97 16 (((uI M 97 16 (M 97 15)) 97 15) + 1)) 97 17 (((uI M 97 16 (M 97 15)) 101 (Int32.toNatClampNeg ((uI M 97 16 (M 97 15)) 97 15))) &&& 255)) 97 14 4) 97 16) : Int32).toInt = ((M 97 15).toInt + 1) := Eq.trans (congrArg Int32.toInt (Eq.trans (Eq.trans (rd_k (by decide)) (rd_k (by decide))) rd_eq)) e297
                                exact hQ _ _ _ _ hB333 ⟨(Eq.trans (Eq.trans (Eq.trans (Eq.trans (rd_k (by decide)) (rd_k (by decide))) (rd_k (by decide))) (rd_k (by decide))) hk_97_12), (Eq.trans (Eq.trans (Eq.trans (Eq.trans (rd_k (by decide)) (rd_k (by decide))) (rd_k (by decide))) (rd_k (by decide))) hk_97_27), (by have q3 : (((uI (uI (uI (uI M 97 16 (M 97 15)) 97 16 (((uI M 97 16 (M 97 15)) 97 15) + 1)) 97 17 (((uI M 97 16 (M 97 15)) 101 (Int32.toNatClampNeg ((uI M 97 16 (M 97 15)) 97 15))) &&& 255)) 97 14 4) 97 14) : Int32).toInt = 4 := e336; have q4 : (((uI (uI (uI (uI M 97 16 (M 97 15)) 97 16 (((uI M 97 16 (M 97 15)) 97 15) + 1)) 97 17 (((uI M 97 16 (M 97 15)) 101 (Int32.toNatClampNeg ((uI M 97 16 (M 97 15)) 97 15))) &&& 255)) 97 14 4) 97 16) : Int32).toInt = ((M 97 15).toInt + 1) := e337; omega)⟩
                              · exact absurd c332 (by decide)
                            · skip
                              have d338 : (((((M 101 (Int32.toNatClampNeg (M 97 15))) &&& 255) : Int32).toInt) : Int) = (61) := ci_eq e286 rfl c329
                              refine ⟨Or.inr rfl, ?_⟩
                              intro o339
                              refine ⟨fun c340 => ?_, fun c340 => ?_⟩
                              · exact absurd c340 (by decide)
                              · skip
                                have hB341 : Bd (uI (uI (uI (uI M 97 16 (M 97 15)) 97 16 (((uI M 97 16 (M 97 15)) 97 15) + 1)) 97 17 (((uI M 97 16 (M 97 15)) 101 (Int32.toNatClampNeg ((uI M 97 16 (M 97 15)) 97 15))) &&& 255)) 97 14 3) := Bd.o1 hB298 (show isO 112 97 12 = true from rfl) (by omega) (show bnd 12 14 = some _ from rfl) (show (3 : Int32).toInt = 3 from rfl) (by omega)
                                have b342 := Bd.o hB0 (show isO 112 97 12 = true from rfl) (show bnd 12 14 = some _ from rfl)
                                have b343 := Bd.o hB0 (show isO 112 97 12 = true from rfl) (show bnd 12 16 = some _ from rfl)
                                have e344 : (((uI (uI (uI (uI M 97 16 (M 97 15)) 97 16 (((uI M 97 16 (M 97 15)) 97 15) + 1)) 97 17 (((uI M 97 16 (M 97 15)) 101 (Int32.toNatClampNeg ((uI M 97 16 (M 97 15)) 97 15))) &&& 255)) 97 14 3) 97 14) : Int32).toInt = 3 := Eq.trans (congrArg Int32.toInt rd_eq) rfl
                                have e345 : (((uI (uI (uI (uI M 97 16 (M 97 15)) 97 16 (((uI M 97 16 (M 97 15)) 97 15) + 1)) 97 17 (((uI M 97 16 (M 97 15)) 101 (Int32.toNatClampNeg ((uI M 97 16 (M 97 15)) 97 15))) &&& 255)) 97 14 3) 97 16) : Int32).toInt = ((M 97 15).toInt + 1) := Eq.trans (congrArg Int32.toInt (Eq.trans (Eq.trans (rd_k (by decide)) (rd_k (by decide))) rd_eq)) e297
                                exact hQ _ _ _ _ hB341 ⟨(Eq.trans (Eq.trans (Eq.trans (Eq.trans (rd_k (by decide)) (rd_k (by decide))) (rd_k (by decide))) (rd_k (by decide))) hk_97_12), (Eq.trans (Eq.trans (Eq.trans (Eq.trans (rd_k (by decide)) (rd_k (by decide))) (rd_k (by decide))) (rd_k (by decide))) hk_97_27), (by have q3 : (((uI (uI (uI (uI M 97 16 (M 97 15)) 97 16 (((uI M 97 16 (M 97 15)) 97 15) + 1)) 97 17 (((uI M 97 16 (M 97 15)) 101 (Int32.toNatClampNeg ((uI M 97 16 (M 97 15)) 97 15))) &&& 255)) 97 14 3) 97 14) : Int32).toInt = 3 := e344; have q4 : (((uI (uI (uI (uI M 97 16 (M 97 15)) 97 16 (((uI M 97 16 (M 97 15)) 97 15) + 1)) 97 17 (((uI M 97 16 (M 97 15)) 101 (Int32.toNatClampNeg ((uI M 97 16 (M 97 15)) 97 15))) &&& 255)) 97 14 3) 97 16) : Int32).toInt = ((M 97 15).toInt + 1) := e345; omega)⟩
                    · exact absurd c295 (by decide)
                  · skip
                    have d346 : ((48) : Int) ≤ ((((M 101 (Int32.toNatClampNeg (M 97 15))) &&& 255) : Int32).toInt) := ci_nlt e286 rfl c292
                    refine ⟨fun c347 => ?_, fun c347 => ?_⟩
                    · skip
                      have d348 : ((57) : Int) < ((((M 101 (Int32.toNatClampNeg (M 97 15))) &&& 255) : Int32).toInt) := ci_lt rfl e286 c347
                      refine ⟨Or.inl rfl, ?_⟩
                      intro o349
                      refine ⟨fun c350 => ?_, fun c350 => ?_⟩
                      · skip
                        have e352 : ((((uI M 97 16 (M 97 15)) 97 15) + 1) : Int32).toInt = ((M 97 15).toInt) + (1) := ti_add e40 rfl (by omega)
                        have hB351 : Bd (uI (uI M 97 16 (M 97 15)) 97 16 (((uI M 97 16 (M 97 15)) 97 15) + 1)) := Bd.o1 hB38 (show isO 112 97 12 = true from rfl) (by omega) (show bnd 12 16 = some _ from rfl) (show ((((uI M 97 16 (M 97 15)) 97 15) + 1) : Int32).toInt = ((M 97 15).toInt + 1) from e352) (by omega)
                        have hB353 : Bd (uI (uI (uI M 97 16 (M 97 15)) 97 16 (((uI M 97 16 (M 97 15)) 97 15) + 1)) 97 17 (((uI M 97 16 (M 97 15)) 101 (Int32.toNatClampNeg ((uI M 97 16 (M 97 15)) 97 15))) &&& 255)) := Bd.o0 hB351 (show isO 112 97 12 = true from rfl) (by omega) (show bnd 12 17 = none from rfl)
                        refine w_X12_isSignByte ?_
                        refine ⟨fun c354 => ?_, fun c354 => ?_⟩
                        · skip
                          have d355 : (((((M 101 (Int32.toNatClampNeg (M 97 15))) &&& 255) : Int32).toInt) : Int) = (59) := ci_eq e286 rfl c354
                          refine ⟨Or.inr rfl, ?_⟩
                          intro o356
                          refine ⟨fun c357 => ?_, fun c357 => ?_⟩
                          · exact absurd c357 (by decide)
                          · skip
                            have hB358 : Bd (uI (uI (uI (uI M 97 16 (M 97 15)) 97 16 (((uI M 97 16 (M 97 15)) 97 15) + 1)) 97 17 (((uI M 97 16 (M 97 15)) 101 (Int32.toNatClampNeg ((uI M 97 16 (M 97 15)) 97 15))) &&& 255)) 97 14 3) := Bd.o1 hB353 (show isO 112 97 12 = true from rfl) (by omega) (show bnd 12 14 = some _ from rfl) (show (3 : Int32).toInt = 3 from rfl) (by omega)
                            have b359 := Bd.o hB0 (show isO 112 97 12 = true from rfl) (show bnd 12 14 = some _ from rfl)
                            have b360 := Bd.o hB0 (show isO 112 97 12 = true from rfl) (show bnd 12 16 = some _ from rfl)
                            have e361 : (((uI (uI (uI (uI M 97 16 (M 97 15)) 97 16 (((uI M 97 16 (M 97 15)) 97 15) + 1)) 97 17 (((uI M 97 16 (M 97 15)) 101 (Int32.toNatClampNeg ((uI M 97 16 (M 97 15)) 97 15))) &&& 255)) 97 14 3) 97 14) : Int32).toInt = 3 := Eq.trans (congrArg Int32.toInt rd_eq) rfl
                            have e362 : (((uI (uI (uI (uI M 97 16 (M 97 15)) 97 16 (((uI M 97 16 (M 97 15)) 97 15) + 1)) 97 17 (((uI M 97 16 (M 97 15)) 101 (Int32.toNatClampNeg ((uI M 97 16 (M 97 15)) 97 15))) &&& 255)) 97 14 3) 97 16) : Int32).toInt = ((M 97 15).toInt + 1) := Eq.trans (congrArg Int32.toInt (Eq.trans (Eq.trans (rd_k (by decide)) (rd_k (by decide))) rd_eq)) e352
                            exact hQ _ _ _ _ hB358 ⟨(Eq.trans (Eq.trans (Eq.trans (Eq.trans (rd_k (by decide)) (rd_k (by decide))) (rd_k (by decide))) (rd_k (by decide))) hk_97_12), (Eq.trans (Eq.trans (Eq.trans (Eq.trans (rd_k (by decide)) (rd_k (by decide))) (rd_k (by decide))) (rd_k (by decide))) hk_97_27), (by have q3 : (((uI (uI (uI (uI M 97 16 (M 97 15)) 97 16 (((uI M 97 16 (M 97 15)) 97 15) + 1)) 97 17 (((uI M 97 16 (M 97 15)) 101 (Int32.toNatClampNeg ((uI M 97 16 (M 97 15)) 97 15))) &&& 255)) 97 14 3) 97 14) : Int32).toInt = 3 := e361; have q4 : (((uI (uI (uI (uI M 97 16 (M 97 15)) 97 16 (((uI M 97 16 (M 97 15)) 97 15) + 1)) 97 17 (((uI M 97 16 (M 97 15)) 101 (Int32.toNatClampNeg ((uI M 97 16 (M 97 15)) 97 15))) &&& 255)) 97 14 3) 97 16) : Int32).toInt = ((M 97 15).toInt + 1) := e362; omega)⟩
                        · skip
                          have d363 : ¬ (((((M 101 (Int32.toNatClampNeg (M 97 15))) &&& 255) : Int32).toInt) : Int) = (59) := ci_ne e286 rfl c354
                          refine ⟨fun c364 => ?_, fun c364 => ?_⟩
                          · skip
                            have d365 : (((((M 101 (Int32.toNatClampNeg (M 97 15))) &&& 255) : Int32).toInt) : Int) = (60) := ci_eq e286 rfl c364
                            refine ⟨Or.inr rfl, ?_⟩
                            intro o366
                            refine ⟨fun c367 => ?_, fun c367 => ?_⟩
                            · exact absurd c367 (by decide)
                            · skip
                              have hB368 : Bd (uI (uI (uI (uI M 97 16 (M 97 15)) 97 16 (((uI M 97 16 (M 97 15)) 97 15) + 1)) 97 17 (((uI M 97 16 (M 97 15)) 101 (Int32.toNatClampNeg ((uI M 97 16 (M 97 15)) 97 15))) &&& 255)) 97 14 3) := Bd.o1 hB353 (show isO 112 97 12 = true from rfl) (by omega) (show bnd 12 14 = some _ from rfl) (show (3 : Int32).toInt = 3 from rfl) (by omega)
                              have b369 := Bd.o hB0 (show isO 112 97 12 = true from rfl) (show bnd 12 14 = some _ from rfl)
                              have b370 := Bd.o hB0 (show isO 112 97 12 = true from rfl) (show bnd 12 16 = some _ from rfl)
                              have e371 : (((uI (uI (uI (uI M 97 16 (M 97 15)) 97 16 (((uI M 97 16 (M 97 15)) 97 15) + 1)) 97 17 (((uI M 97 16 (M 97 15)) 101 (Int32.toNatClampNeg ((uI M 97 16 (M 97 15)) 97 15))) &&& 255)) 97 14 3) 97 14) : Int32).toInt = 3 := Eq.trans (congrArg Int32.toInt rd_eq) rfl
                              have e372 : (((uI (uI (uI (uI M 97 16 (M 97 15)) 97 16 (((uI M 97 16 (M 97 15)) 97 15) + 1)) 97 17 (((uI M 97 16 (M 97 15)) 101 (Int32.toNatClampNeg ((uI M 97 16 (M 97 15)) 97 15))) &&& 255)) 97 14 3) 97 16) : Int32).toInt = ((M 97 15).toInt + 1) := Eq.trans (congrArg Int32.toInt (Eq.trans (Eq.trans (rd_k (by decide)) (rd_k (by decide))) rd_eq)) e352
                              exact hQ _ _ _ _ hB368 ⟨(Eq.trans (Eq.trans (Eq.trans (Eq.trans (rd_k (by decide)) (rd_k (by decide))) (rd_k (by decide))) (rd_k (by decide))) hk_97_12), (Eq.trans (Eq.trans (Eq.trans (Eq.trans (rd_k (by decide)) (rd_k (by decide))) (rd_k (by decide))) (rd_k (by decide))) hk_97_27), (by have q3 : (((uI (uI (uI (uI M 97 16 (M 97 15)) 97 16 (((uI M 97 16 (M 97 15)) 97 15) + 1)) 97 17 (((uI M 97 16 (M 97 15)) 101 (Int32.toNatClampNeg ((uI M 97 16 (M 97 15)) 97 15))) &&& 255)) 97 14 3) 97 14) : Int32).toInt = 3 := e371; have q4 : (((uI (uI (uI (uI M 97 16 (M 97 15)) 97 16 (((uI M 97 16 (M 97 15)) 97 15) + 1)) 97 17 (((uI M 97 16 (M 97 15)) 101 (Int32.toNatClampNeg ((uI M 97 16 (M 97 15)) 97 15))) &&& 255)) 97 14 3) 97 16) : Int32).toInt = ((M 97 15).toInt + 1) := e372; omega)⟩
                          · skip
                            have d373 : ¬ (((((M 101 (Int32.toNatClampNeg (M 97 15))) &&& 255) : Int32).toInt) : Int) = (60) := ci_ne e286 rfl c364
                            refine ⟨fun c374 => ?_, fun c374 => ?_⟩
                            · skip
                              have d375 : (((((M 101 (Int32.toNatClampNeg (M 97 15))) &&& 255) : Int32).toInt) : Int) = (62) := ci_eq e286 rfl c374
                              refine ⟨Or.inr rfl, ?_⟩
                              intro o376
                              refine ⟨fun c377 => ?_, fun c377 => ?_⟩
                              · exact absurd c377 (by decide)
                              · skip
                                have hB378 : Bd (uI (uI (uI (uI M 97 16 (M 97 15)) 97 16 (((uI M 97 16 (M 97 15)) 97 15) + 1)) 97 17 (((uI M 97 16 (M 97 15)) 101 (Int32.toNatClampNeg ((uI M 97 16 (M 97 15)) 97 15))) &&& 255)) 97 14 3) := Bd.o1 hB353 (show isO 112 97 12 = true from rfl) (by omega) (show bnd 12 14 = some _ from rfl) (show (3 : Int32).toInt = 3 from rfl) (by omega)
                                have b379 := Bd.o hB0 (show isO 112 97 12 = true from rfl) (show bnd 12 14 = some _ from rfl)
                                have b380 := Bd.o hB0 (show isO 112 97 12 = true from rfl) (show bnd 12 16 = some _ from rfl)
                                have e381 : (((uI (uI (uI (uI M 97 16 (M 97 15)) 97 16 (((uI M 97 16 (M 97 15)) 97 15) + 1)) 97 17 (((uI M 97 16 (M 97 15)) 101 (Int32.toNatClampNeg ((uI M 97 16 (M 97 15)) 97 15))) &&& 255)) 97 14 3) 97 14) : Int32).toInt = 3 := Eq.trans (congrArg Int32.toInt rd_eq) rfl
                                have e382 : (((uI (uI (uI (uI M 97 16 (M 97 15)) 97 16 (((uI M 97 16 (M 97 15)) 97 15) + 1)) 97 17 (((uI M 97 16 (M 97 15)) 101 (Int32.toNatClampNeg ((uI M 97 16 (M 97 15)) 97 15))) &&& 255)) 97 14 3) 97 16) : Int32).toInt = ((M 97 15).toInt + 1) := Eq.trans (congrArg Int32.toInt (Eq.trans (Eq.trans (rd_k (by decide)) (rd_k (by decide))) rd_eq)) e352
                                exact hQ _ _ _ _ hB378 ⟨(Eq.trans (Eq.trans (Eq.trans (Eq.trans (rd_k (by decide)) (rd_k (by decide))) (rd_k (by decide))) (rd_k (by decide))) hk_97_12), (Eq.trans (Eq.trans (Eq.trans (Eq.trans (rd_k (by decide)) (rd_k (by decide))) (rd_k (by decide))) (rd_k (by decide))) hk_97_27), (by have q3 : (((uI (uI (uI (uI M 97 16 (M 97 15)) 97 16 (((uI M 97 16 (M 97 15)) 97 15) + 1)) 97 17 (((uI M 97 16 (M 97 15)) 101 (Int32.toNatClampNeg ((uI M 97 16 (M 97 15)) 97 15))) &&& 255)) 97 14 3) 97 14) : Int32).toInt = 3 := e381; have q4 : (((uI (uI (uI (uI M 97 16 (M 97 15)) 97 16 (((uI M 97 16 (M 97 15)) 97 15) + 1)) 97 17 (((uI M 97 16 (M 97 15)) 101 (Int32.toNatClampNeg ((uI M 97 16 (M 97 15)) 97 15))) &&& 255)) 97 14 3) 97 16) : Int32).toInt = ((M 97 15).toInt + 1) := e382; omega)⟩
                            · skip
                              have d383 : ¬ (((((M 101 (Int32.toNatClampNeg (M 97 15))) &&& 255) : Int32).toInt) : Int) = (62) := ci_ne e286 rfl c374
                              refine ⟨fun c384 => ?_, fun c384 => ?_⟩
                              · skip
                                have d385 : ¬ (((((M 101 (Int32.toNatClampNeg (M 97 15))) &&& 255) : Int32).toInt) : Int) = (61) := ci_ne e286 rfl c384
                                refine ⟨Or.inl rfl, ?_⟩
                                intro o386
                                refine ⟨fun c387 => ?_, fun c387 => ?_⟩
                                · skip
                                  have hB388 : Bd (uI (uI (uI (uI M 97 16 (M 97 15)) 97 16 (((uI M 97 16 (M 97 15)) 97 15) + 1)) 97 17 (((uI M 97 16 (M 97 15)) 101 (Int32.toNatClampNeg ((uI M 97 16 (M 97 15)) 97 15))) &&& 255)) 97 14 4) := Bd.o1 hB353 (show isO 112 97 12 = true from rfl) (by omega) (show bnd 12 14 = some _ from rfl) (show (4 : Int32).toInt = 4 from rfl) (by omega)
                                  have b389 := Bd.o hB0 (show isO 112 97 12 = true from rfl) (show bnd 12 14 = some _ from rfl)
                                  have b390 := Bd.o hB0 (show isO 112 97 12 = true from rfl) (show bnd 12 16 = some _ from rfl)
                                  have e391 : (((uI (uI (uI (uI M 97 16 (M 97 15)) 97 16 (((uI M 97 16 (M 97 15)) 97 15) + 1)) 97 17 (((uI M 97 16 (M 97 15)) 101 (Int32.toNatClampNeg ((uI M 97 16 (M 97 15)) 97 15))) &&& 255)) 97 14 4) 97 14) : Int32).toInt = 4 := Eq.trans (congrArg Int32.toInt rd_eq) rfl
                                  have e392 : (((uI (uI (uI (uI M 97 16 (M 97 15)) 97 16 (((uI M 97 16 (M 97 15)) 97 15) + 1)) 97 17 (((uI M 97 16 (M 97 15)) 101 (Int32.toNatClampNeg ((uI M 97 16 (M 97 15)) 97 15))) &&& 255)) 97 14 4) 97 16) : Int32).toInt = ((M 97 15).toInt + 1) := Eq.trans (congrArg Int32.toInt (Eq.trans (Eq.trans (rd_k (by decide)) (rd_k (by decide))) rd_eq)) e352
                                  exact hQ _ _ _ _ hB388 ⟨(Eq.trans (Eq.trans (Eq.trans (Eq.trans (rd_k (by decide)) (rd_k (by decide))) (rd_k (by decide))) (rd_k (by decide))) hk_97_12), (Eq.trans (Eq.trans (Eq.trans (Eq.trans (rd_k (by decide)) (rd_k (by decide))) (rd_k (by decide))) (rd_k (by decide))) hk_97_27), (by have q3 : (((uI (uI (uI (uI M 97 16 (M 97 15)) 97 16 (((uI M 97 16 (M 97 15)) 97 15) + 1)) 97 17 (((uI M 97 16 (M 97 15)) 101 (Int32.toNatClampNeg ((uI M 97 16 (M 97 15)) 97 15))) &&& 255)) 97 14 4) 97 14) : Int32).toInt = 4 := e391; have q4 : (((uI (uI (uI (uI M 97 16 (M 97 15)) 97 16 (((uI M 97 16 (M 97 15)) 97 15) + 1)) 97 17 (((uI M 97 16 (M 97 15)) 101 (Int32.toNatClampNeg ((uI M 97 16 (M 97 15)) 97 15))) &&& 255)) 97 14 4) 97 16) : Int32).toInt = ((M 97 15).toInt + 1) := e392; omega)⟩
                                · exact absurd c387 (by decide)
                              · skip
                                have d393 : (((((M 101 (Int32.toNatClampNeg (M 97 15))) &&& 255) : Int32).toInt) : Int) = (61) := ci_eq e286 rfl c384
                                refine ⟨Or.inr rfl, ?_⟩
                                intro o394
                                refine ⟨fun c395 => ?_, fun c395 => ?_⟩
                                · exact absurd c395 (by decide)
                                · skip
                                  have hB396 : Bd (uI (uI (uI (uI M 97 16 (M 97 15)) 97 16 (((uI M 97 16 (M 97 15)) 97 15) + 1)) 97 17 (((uI M 97 16 (M 97 15)) 101 (Int32.toNatClampNeg ((uI M 97 16 (M 97 15)) 97 15))) &&& 255)) 97 14 3) := Bd.o1 hB353 (show isO 112 97 12 = true from rfl) (by omega) (show bnd 12 14 = some _ from rfl) (show (3 : Int32).toInt = 3 from rfl) (by omega)
                                  have b397 := Bd.o hB0 (show isO 112 97 12 = true from rfl) (show bnd 12 14 = some _ from rfl)
                                  have b398 := Bd.o hB0 (show isO 112 97 12 = true from rfl) (show bnd 12 16 = some _ from rfl)
                                  have e399 : (((uI (uI (uI (uI M 97 16 (M 97 15)) 97 16 (((uI M 97 16 (M 97 15)) 97 15) + 1)) 97 17 (((uI M 97 16 (M 97 15)) 101 (Int32.toNatClampNeg ((uI M 97 16 (M 97 15)) 97 15))) &&& 255)) 97 14 3) 97 14) : Int32).toInt = 3 := Eq.trans (congrArg Int32.toInt rd_eq) rfl
                                  have e400 : (((uI (uI (uI (uI M 97 16 (M 97 15)) 97 16 (((uI M 97 16 (M 97 15)) 97 15) + 1)) 97 17 (((uI M 97 16 (M 97 15)) 101 (Int32.toNatClampNeg ((uI M 97 16 (M 97 15)) 97 15))) &&& 255)) 97 14 3) 97 16) : Int32).toInt = ((M 97 15).toInt + 1) := Eq.trans (congrArg Int32.toInt (Eq.trans (Eq.trans (rd_k (by decide)) (rd_k (by decide))) rd_eq)) e352
                                  exact hQ _ _ _ _ hB396 ⟨(Eq.trans (Eq.trans (Eq.trans (Eq.trans (rd_k (by decide)) (rd_k (by decide))) (rd_k (by decide))) (rd_k (by decide))) hk_97_12), (Eq.trans (Eq.trans (Eq.trans (Eq.trans (rd_k (by decide)) (rd_k (by decide))) (rd_k (by decide))) (rd_k (by decide))) hk_97_27), (by have q3 : (((uI (uI (uI (uI M 97 16 (M 97 15)) 97 16 (((uI M 97 16 (M 97 15)) 97 15) + 1)) 97 17 (((uI M 97 16 (M 97 15)) 101 (Int32.toNatClampNeg ((uI M 97 16 (M 97 15)) 97 15))) &&& 255)) 97 14 3) 97 14) : Int32).toInt = 3 := e399; have q4 : (((uI (uI (uI (uI M 97 16 (M 97 15)) 97 16 (((uI M 97 16 (M 97 15)) 97 15) + 1)) 97 17 (((uI M 97 16 (M 97 15)) 101 (Int32.toNatClampNeg ((uI M 97 16 (M 97 15)) 97 15))) &&& 255)) 97 14 3) 97 16) : Int32).toInt = ((M 97 15).toInt + 1) := e400; omega)⟩
                      · exact absurd c350 (by decide)
                    · skip
                      have d401 : (((((M 101 (Int32.toNatClampNeg (M 97 15))) &&& 255) : Int32).toInt) : Int) ≤ (57) := ci_nlt rfl e286 c347
                      refine ⟨Or.inr rfl, ?_⟩
                      intro o402
                      refine ⟨fun c403 => ?_, fun c403 => ?_⟩
                      · exact absurd c403 (by decide)
                      · skip
                        have hB404 : Bd (uI (uI M 97 16 (M 97 15)) 97 17 0) := Bd.o0 hB38 (show isO 112 97 12 = true from rfl) (by omega) (show bnd 12 17 = none from rfl)
                        refine sg_X12_advance_210 hc _ _ _ ?_
                        refine w_X12_look2 ?_
                        refine ⟨fun c405 => ?_, fun c405 => ?_⟩
                        · skip
                          have e406 : (((uI (uI M 97 16 (M 97 15)) 97 17 0) 97 16) : Int32).toInt = (M 97 15).toInt := Eq.trans (congrArg Int32.toInt (Eq.trans (rd_k (by decide)) rd_eq)) rfl
                          have e407 : (((uI (uI M 97 16 (M 97 15)) 97 17 0) 97 9) : Int32).toInt = (M 97 9).toInt := Eq.trans (congrArg Int32.toInt (Eq.trans (rd_k (by decide)) (rd_k (by decide)))) rfl
                          have d408 : (((M 97 9).toInt) : Int) ≤ ((M 97 15).toInt) := ci_le e407 e406 c405
                          refine w_X12_isDigit ?_
                          refine ⟨fun c409 => ?_, fun c409 => ?_⟩
                          · skip
                            refine ⟨Or.inl rfl, ?_⟩
                            intro o410
                            refine ⟨fun c411 => ?_, fun c411 => ?_⟩
                            · skip
                              refine ⟨fun c412 => ?_, fun c412 => ?_⟩
                              · skip
                                have e413 : (((uI (uI M 97 16 (M 97 15)) 97 17 0) 97 15) : Int32).toInt = (M 97 15).toInt := Eq.trans (congrArg Int32.toInt (Eq.trans (rd_k (by decide)) (rd_k (by decide)))) rfl
                                have e414 : ((((uI (uI M 97 16 (M 97 15)) 97 17 0) 97 16) - ((uI (uI M 97 16 (M 97 15)) 97 17 0) 97 15)) : Int32).toInt = ((M 97 15).toInt) - ((M 97 15).toInt) := ti_sub e406 e413 (by omega)
                                have d415 : ((((M 97 15).toInt - (M 97 15).toInt)) : Int) ≤ (4) := ci_le e414 rfl c412
                                have hB416 : Bd (uI (uI (uI M 97 16 (M 97 15)) 97 17 0) 97 14 2) := Bd.o1 hB404 (show isO 112 97 12 = true from rfl) (by omega) (show bnd 12 14 = some _ from rfl) (show (2 : Int32).toInt = 2 from rfl) (by omega)
                                have b417 := Bd.o hB0 (show isO 112 97 12 = true from rfl) (show bnd 12 14 = some _ from rfl)
                                have b418 := Bd.o hB0 (show isO 112 97 12 = true from rfl) (show bnd 12 16 = some _ from rfl)
                                have e419 : (((uI (uI (uI M 97 16 (M 97 15)) 97 17 0) 97 14 2) 97 14) : Int32).toInt = 2 := Eq.trans (congrArg Int32.toInt rd_eq) rfl
                                have e420 : (((uI (uI (uI M 97 16 (M 97 15)) 97 17 0) 97 14 2) 97 16) : Int32).toInt = (M 97 15).toInt := Eq.trans (congrArg Int32.toInt (Eq.trans (Eq.trans (rd_k (by decide)) (rd_k (by decide))) rd_eq)) rfl
                                exact hQ _ _ _ _ hB416 ⟨(Eq.trans (Eq.trans (Eq.trans (rd_k (by decide)) (rd_k (by decide))) (rd_k (by decide))) hk_97_12), (Eq.trans (Eq.trans (Eq.trans (rd_k (by decide)) (rd_k (by decide))) (rd_k (by decide))) hk_97_27), (by have q3 : (((uI (uI (uI M 97 16 (M 97 15)) 97 17 0) 97 14 2) 97 14) : Int32).toInt = 2 := e419; have q4 : (((uI (uI (uI M 97 16 (M 97 15)) 97 17 0) 97 14 2) 97 16) : Int32).toInt = (M 97 15).toInt := e420; omega)⟩
                              · skip
                                have e421 : (((uI (uI M 97 16 (M 97 15)) 97 17 0) 97 15) : Int32).toInt = (M 97 15).toInt := Eq.trans (congrArg Int32.toInt (Eq.trans (rd_k (by decide)) (rd_k (by decide)))) rfl
                                have e422 : ((((uI (uI M 97 16 (M 97 15)) 97 17 0) 97 16) - ((uI (uI M 97 16 (M 97 15)) 97 17 0) 97 15)) : Int32).toInt = ((M 97 15).toInt) - ((M 97 15).toInt) := ti_sub e406 e421 (by omega)
                                have d423 : ((4) : Int) < (((M 97 15).toInt - (M 97 15).toInt)) := ci_nle e422 rfl c412
                                have hB424 : Bd (uI (uI (uI M 97 16 (M 97 15)) 97 17 0) 97 14 4) := Bd.o1 hB404 (show isO 112 97 12 = true from rfl) (by omega) (show bnd 12 14 = some _ from rfl) (show (4 : Int32).toInt = 4 from rfl) (by omega)
                                have b425 := Bd.o hB0 (show isO 112 97 12 = true from rfl) (show bnd 12 14 = some _ from rfl)
                                have b426 := Bd.o hB0 (show isO 112 97 12 = true from rfl) (show bnd 12 16 = some _ from rfl)
                                have e427 : (((uI (uI (uI M 97 16 (M 97 15)) 97 17 0) 97 14 4) 97 14) : Int32).toInt = 4 := Eq.trans (congrArg Int32.toInt rd_eq) rfl
                                have e428 : (((uI (uI (uI M 97 16 (M 97 15)) 97 17 0) 97 14 4) 97 16) : Int32).toInt = (M 97 15).toInt := Eq.trans (congrArg Int32.toInt (Eq.trans (Eq.trans (rd_k (by decide)) (rd_k (by decide))) rd_eq)) rfl
                                exact hQ _ _ _ _ hB424 ⟨(Eq.trans (Eq.trans (Eq.trans (rd_k (by decide)) (rd_k (by decide))) (rd_k (by decide))) hk_97_12), (Eq.trans (Eq.trans (Eq.trans (rd_k (by decide)) (rd_k (by decide))) (rd_k (by decide))) hk_97_27), (by have q3 : (((uI (uI (uI M 97 16 (M 97 15)) 97 17 0) 97 14 4) 97 14) : Int32).toInt = 4 := e427; have q4 : (((uI (uI (uI M 97 16 (M 97 15)) 97 17 0) 97 14 4) 97 16) : Int32).toInt = (M 97 15).toInt := e428; omega)⟩
                            · exact absurd c411 (by decide)
                          · exact absurd c409 (by decide)
                        · skip
                          have e429 : (((uI (uI M 97 16 (M 97 15)) 97 17 0) 97 16) : Int32).toInt = (M 97 15).toInt := Eq.trans (congrArg Int32.toInt (Eq.trans (rd_k (by decide)) rd_eq)) rfl
                          have e430 : (((uI (uI M 97 16 (M 97 15)) 97 17 0) 97 9) : Int32).toInt = (M 97 9).toInt := Eq.trans (congrArg Int32.toInt (Eq.trans (rd_k (by decide)) (rd_k (by decide)))) rfl
                          have d431 : (((M 97 15).toInt) : Int) < ((M 97 9).toInt) := ci_nle e430 e429 c405
                          refine ⟨vp_of (a := (M 97 15).toInt) e429 (by omega) (by omega), ?_⟩
                          refine w_X12_isDigit ?_
                          refine ⟨fun c432 => ?_, fun c432 => ?_⟩
                          · skip
                            have e433 : ((((uI (uI M 97 16 (M 97 15)) 97 17 0) 101 (Int32.toNatClampNeg ((uI (uI M 97 16 (M 97 15)) 97 17 0) 97 16))) &&& 255) : Int32).toInt = (((M 101 (Int32.toNatClampNeg (M 97 15))) &&& 255) : Int32).toInt := congrArg (fun z => (z &&& 255 : Int32).toInt) (Eq.trans (Eq.trans (rd_ne (by omega)) (rd_ne (by omega))) (congrArg (fun z => M 101 (Int32.toNatClampNeg z)) (Eq.trans (rd_k (by decide)) rd_eq)))
                            have d434 : (((((M 101 (Int32.toNatClampNeg (M 97 15))) &&& 255) : Int32).toInt) : Int) < (48) := ci_lt e433 rfl c432
                            refine ⟨Or.inl rfl, ?_⟩
                            intro o435
                            refine ⟨fun c436 => ?_, fun c436 => ?_⟩
                            · skip
                              refine ⟨fun c437 => ?_, fun c437 => ?_⟩
                              · skip
                                have e438 : (((uI (uI M 97 16 (M 97 15)) 97 17 0) 97 15) : Int32).toInt = (M 97 15).toInt := Eq.trans (congrArg Int32.toInt (Eq.trans (rd_k (by decide)) (rd_k (by decide)))) rfl
                                have e439 : ((((uI (uI M 97 16 (M 97 15)) 97 17 0) 97 16) - ((uI (uI M 97 16 (M 97 15)) 97 17 0) 97 15)) : Int32).toInt = ((M 97 15).toInt) - ((M 97 15).toInt) := ti_sub e429 e438 (by omega)
                                have d440 : ((((M 97 15).toInt - (M 97 15).toInt)) : Int) ≤ (4) := ci_le e439 rfl c437
                                have hB441 : Bd (uI (uI (uI M 97 16 (M 97 15)) 97 17 0) 97 14 2) := Bd.o1 hB404 (show isO 112 97 12 = true from rfl) (by omega) (show bnd 12 14 = some _ from rfl) (show (2 : Int32).toInt = 2 from rfl) (by omega)
                                have b442 := Bd.o hB0 (show isO 112 97 12 = true from rfl) (show bnd 12 14 = some _ from rfl)
                                have b443 := Bd.o hB0 (show isO 112 97 12 = true from rfl) (show bnd 12 16 = some _ from rfl)
                                have e444 : (((uI (uI (uI M 97 16 (M 97 15)) 97 17 0) 97 14 2) 97 14) : Int32).toInt = 2 := Eq.trans (congrArg Int32.toInt rd_eq) rfl
                                have e445 : (((uI (uI (uI M 97 16 (M 97 15)) 97 17 0) 97 14 2) 97 16) : Int32).toInt = (M 97 15).toInt := Eq.trans (congrArg Int32.toInt (Eq.trans (Eq.trans (rd_k (by decide)) (rd_k (by decide))) rd_eq)) rfl
                                exact hQ _ _ _ _ hB441 ⟨(Eq.trans (Eq.trans (Eq.trans (rd_k (by decide)) (rd_k (by decide))) (rd_k (by decide))) hk_97_12), (Eq.trans (Eq.trans (Eq.trans (rd_k (by decide)) (rd_k (by decide))) (rd_k (by decide))) hk_97_27), (by have q3 : (((uI (uI (uI M 97 16 (M 97 15)) 97 17 0) 97 14 2) 97 14) : Int32).toInt = 2 := e444; have q4 : (((uI (uI (uI M 97 16 (M 97 15)) 97 17 0) 97 14 2) 97 16) : Int32).toInt = (M 97 15).toInt := e445; omega)⟩
                              · skip
                                have e446 : (((uI (uI M 97 16 (M 97 15)) 97 17 0) 97 15) : Int32).toInt = (M 97 15).toInt := Eq.trans (congrArg Int32.toInt (Eq.trans (rd_k (by decide)) (rd_k (by decide)))) rfl
                                have e447 : ((((uI (uI M 97 16 (M 97 15)) 97 17 0) 97 16) - ((uI (uI M 97 16 (M 97 15)) 97 17 0) 97 15)) : Int32).toInt = ((M 97 15).toInt) - ((M 97 15).toInt) := ti_sub e429 e446 (by omega)
                                have d448 : ((4) : Int) < (((M 97 15).toInt - (M 97 15).toInt)) := ci_nle e447 rfl c437
                                have hB449 : Bd (uI (uI (uI M 97 16 (M 97 15)) 97 17 0) 97 14 4) := Bd.o1 hB404 (show isO 112 97 12 = true from rfl) (by omega) (show bnd 12 14 = some _ from rfl) (show (4 : Int32).toInt = 4 from rfl) (by omega)
                                have b450 := Bd.o hB0 (show isO 112 97 12 = true from rfl) (show bnd 12 14 = some _ from rfl)
                                have b451 := Bd.o hB0 (show isO 112 97 12 = true from rfl) (show bnd 12 16 = some _ from rfl)
                                have e452 : (((uI (uI (uI M 97 16 (M 97 15)) 97 17 0) 97 14 4) 97 14) : Int32).toInt = 4 := Eq.trans (congrArg Int32.toInt rd_eq) rfl
                                have e453 : (((uI (uI (uI M 97 16 (M 97 15)) 97 17 0) 97 14 4) 97 16) : Int32).toInt = (M 97 15).toInt := Eq.trans (congrArg Int32.toInt (Eq.trans (Eq.trans (rd_k (by decide)) (rd_k (by decide))) rd_eq)) rfl
                                exact hQ _ _ _ _ hB449 ⟨(Eq.trans (Eq.trans (Eq.trans (rd_k (by decide)) (rd_k (by decide))) (rd_k (by decide))) hk_97_12), (Eq.trans (Eq.trans (Eq.trans (rd_k (by decide)) (rd_k (by decide))) (rd_k (by decide))) hk_97_27), (by have q3 : (((uI (uI (uI M 97 16 (M 97 15)) 97 17 0) 97 14 4) 97 14) : Int32).toInt = 4 := e452; have q4 : (((uI (uI (uI M 97 16 (M 97 15)) 97 17 0) 97 14 4) 97 16) : Int32).toInt = (M 97 15).toInt := e453; omega)⟩
                            · exact absurd c436 (by decide)
                          · skip
                            have e454 : ((((uI (uI M 97 16 (M 97 15)) 97 17 0) 101 (Int32.toNatClampNeg ((uI (uI M 97 16 (M 97 15)) 97 17 0) 97 16))) &&& 255) : Int32).toInt = (((M 101 (Int32.toNatClampNeg (M 97 15))) &&& 255) : Int32).toInt := congrArg (fun z => (z &&& 255 : Int32).toInt) (Eq.trans (Eq.trans (rd_ne (by omega)) (rd_ne (by omega))) (congrArg (fun z => M 101 (Int32.toNatClampNeg z)) (Eq.trans (rd_k (by decide)) rd_eq)))
                            have d455 : ((48) : Int) ≤ ((((M 101 (Int32.toNatClampNeg (M 97 15))) &&& 255) : Int32).toInt) := ci_nlt e454 rfl c432
                            refine ⟨fun c456 => ?_, fun c456 => ?_⟩
                            · skip
                              have d457 : ((57) : Int) < ((((M 101 (Int32.toNatClampNeg (M 97 15))) &&& 255) : Int32).toInt) := ci_lt rfl e454 c456
                              refine ⟨Or.inl rfl, ?_⟩
                              intro o458
                              refine ⟨fun c459 => ?_, fun c459 => ?_⟩
                              · skip
                                refine ⟨fun c460 => ?_, fun c460 => ?_⟩
                                · skip
                                  have e461 : (((uI (uI M 97 16 (M 97 15)) 97 17 0) 97 15) : Int32).toInt = (M 97 15).toInt := Eq.trans (congrArg Int32.toInt (Eq.trans (rd_k (by decide)) (rd_k (by decide)))) rfl
                                  have e462 : ((((uI (uI M 97 16 (M 97 15)) 97 17 0) 97 16) - ((uI (uI M 97 16 (M 97 15)) 97 17 0) 97 15)) : Int32).toInt = ((M 97 15).toInt) - ((M 97 15).toInt) := ti_sub e429 e461 (by omega)
                                  have d463 : ((((M 97 15).toInt - (M 97 15).toInt)) : Int) ≤ (4) := ci_le e462 rfl c460
                                  have hB464 : Bd (uI (uI (uI M 97 16 (M 97 15)) 97 17 0) 97 14 2) := Bd.o1 hB404 (show isO 112 97 12 = true from rfl) (by omega) (show bnd 12 14 = some _ from rfl) (show (2 : Int32).toInt = 2 from rfl) (by omega)
                                  have b465 := Bd.o hB0 (show isO 112 97 12 = true from rfl) (show bnd 12 14 = some _ from rfl)
                                  have b466 := Bd.o hB0 (show isO 112 97 12 = true from rfl) (show bnd 12 16 = some _ from rfl)
                                  have e467 : (((uI (uI (uI M 97 16 (M 97 15)) 97 17 0) 97 14 2) 97 14) : Int32).toInt = 2 := Eq.trans (congrArg Int32.toInt rd_eq) rfl
                                  have e468 : (((uI (uI (uI M 97 16 (M 97 15)) 97 17 0) 97 14 2) 97 16) : Int32).toInt = (M 97 15).toInt := Eq.trans (congrArg Int32.toInt (Eq.trans (Eq.trans (rd_k (by decide)) (rd_k (by decide))) rd_eq)) rfl
                                  exact hQ _ _ _ _ hB464 ⟨(Eq.trans (Eq.trans (Eq.trans (rd_k (by decide)) (rd_k (by decide))) (rd_k (by decide))) hk_97_12), (Eq.trans (Eq.trans (Eq.trans (rd_k (by decide)) (rd_k (by decide))) (rd_k (by decide))) hk_97_27), (by have q3 : (((uI (uI (uI M 97 16 (M 97 15)) 97 17 0) 97 14 2) 97 14) : Int32).toInt = 2 := e467; have q4 : (((uI (uI (uI M 97 16 (M 97 15)) 97 17 0) 97 14 2) 97 16) : Int32).toInt = (M 97 15).toInt := e468; omega)⟩
                                · skip
                                  have e469 : (((uI (uI M 97 16 (M 97 15)) 97 17 0) 97 15) : Int32).toInt = (M 97 15).toInt := Eq.trans (congrArg Int32.toInt (Eq.trans (rd_k (by decide)) (rd_k (by decide)))) rfl
                                  have e470 : ((((uI (uI M 97 16 (M 97 15)) 97 17 0) 97 16) - ((uI (uI M 97 16 (M 97 15)) 97 17 0) 97 15)) : Int32).toInt = ((M 97 15).toInt) - ((M 97 15).toInt) := ti_sub e429 e469 (by omega)
                                  have d471 : ((4) : Int) < (((M 97 15).toInt - (M 97 15).toInt)) := ci_nle e470 rfl c460
                                  have hB472 : Bd (uI (uI (uI M 97 16 (M 97 15)) 97 17 0) 97 14 4) := Bd.o1 hB404 (show isO 112 97 12 = true from rfl) (by omega) (show bnd 12 14 = some _ from rfl) (show (4 : Int32).toInt = 4 from rfl) (by omega)
                                  have b473 := Bd.o hB0 (show isO 112 97 12 = true from rfl) (show bnd 12 14 = some _ from rfl)
                                  have b474 := Bd.o hB0 (show isO 112 97 12 = true from rfl) (show bnd 12 16 = some _ from rfl)
                                  have e475 : (((uI (uI (uI M 97 16 (M 97 15)) 97 17 0) 97 14 4) 97 14) : Int32).toInt = 4 := Eq.trans (congrArg Int32.toInt rd_eq) rfl
                                  have e476 : (((uI (uI (uI M 97 16 (M 97 15)) 97 17 0) 97 14 4) 97 16) : Int32).toInt = (M 97 15).toInt := Eq.trans (congrArg Int32.toInt (Eq.trans (Eq.trans (rd_k (by decide)) (rd_k (by decide))) rd_eq)) rfl
                                  exact hQ _ _ _ _ hB472 ⟨(Eq.trans (Eq.trans (Eq.trans (rd_k (by decide)) (rd_k (by decide))) (rd_k (by decide))) hk_97_12), (Eq.trans (Eq.trans (Eq.trans (rd_k (by decide)) (rd_k (by decide))) (rd_k (by decide))) hk_97_27), (by have q3 : (((uI (uI (uI M 97 16 (M 97 15)) 97 17 0) 97 14 4) 97 14) : Int32).toInt = 4 := e475; have q4 : (((uI (uI (uI M 97 16 (M 97 15)) 97 17 0) 97 14 4) 97 16) : Int32).toInt = (M 97 15).toInt := e476; omega)⟩
                              · exact absurd c459 (by decide)
                            · skip
                              have d477 : (((((M 101 (Int32.toNatClampNeg (M 97 15))) &&& 255) : Int32).toInt) : Int) ≤ (57) := ci_nlt rfl e454 c456
                              refine ⟨Or.inr rfl, ?_⟩
                              intro o478
                              refine ⟨fun c479 => ?_, fun c479 => ?_⟩
                              · exact absurd c479 (by decide)
                              · skip
                                refine ⟨fun c480 => ?_, fun c480 => ?_⟩
                                · skip
                                  have e481 : (((uI (uI M 97 16 (M 97 15)) 97 17 0) 97 15) : Int32).toInt = (M 97 15).toInt := Eq.trans (congrArg Int32.toInt (Eq.trans (rd_k (by decide)) (rd_k (by decide)))) rfl
                                  have e482 : ((((uI (uI M 97 16 (M 97 15)) 97 17 0) 97 16) - ((uI (uI M 97 16 (M 97 15)) 97 17 0) 97 15)) : Int32).toInt = ((M 97 15).toInt) - ((M 97 15).toInt) := ti_sub e429 e481 (by omega)
                                  have d483 : ((4) : Int) ≤ (((M 97 15).toInt - (M 97 15).toInt)) := ci_le rfl e482 c480
                                  have e485 : ((((uI (uI M 97 16 (M 97 15)) 97 17 0) 97 16) + 1) : Int32).toInt = ((M 97 15).toInt) + (1) := ti_add e429 rfl (by omega)
                                  have hB484 : Bd (uI (uI (uI M 97 16 (M 97 15)) 97 17 0) 97 16 (((uI (uI M 97 16 (M 97 15)) 97 17 0) 97 16) + 1)) := Bd.o1 hB404 (show isO 112 97 12 = true from rfl) (by omega) (show bnd 12 16 = some _ from rfl) (show ((((uI (uI M 97 16 (M 97 15)) 97 17 0) 97 16) + 1) : Int32).toInt = ((M 97 15).toInt + 1) from e485) (by omega)
                                  have e486 : (((uI (uI (uI M 97 16 (M 97 15)) 97 17 0) 97 16 (((uI (uI M 97 16 (M 97 15)) 97 17 0) 97 16) + 1)) 97 15) : Int32).toInt = (M 97 15).toInt := Eq.trans (congrArg Int32.toInt (Eq.trans (Eq.trans (rd_k (by decide)) (rd_k (by decide))) (rd_k (by decide)))) rfl
                                  have e487 : (((uI (uI (uI M 97 16 (M 97 15)) 97 17 0) 97 16 (((uI (uI M 97 16 (M 97 15)) 97 17 0) 97 16) + 1)) 97 16) : Int32).toInt = ((M 97 15).toInt + 1) := Eq.trans (congrArg Int32.toInt rd_eq) e485
                                  exact ih.2.2.2 _ _ hB484 (Eq.trans (Eq.trans (Eq.trans (rd_k (by decide)) (rd_k (by decide))) (rd_k (by decide))) hk_97_12) (Eq.trans (Eq.trans (Eq.trans (rd_k (by decide)) (rd_k (by decide))) (rd_k (by decide))) hk_97_27) (by have q0 : (((uI (uI (uI M 97 16 (M 97 15)) 97 17 0) 97 16 (((uI (uI M 97 16 (M 97 15)) 97 17 0) 97 16) + 1)) 97 15) : Int32).toInt = (M 97 15).toInt := e486; have q1 : (((uI (uI (uI M 97 16 (M 97 15)) 97 17 0) 97 16 (((uI (uI M 97 16 (M 97 15)) 97 17 0) 97 16) + 1)) 97 15) : Int32).toInt = (M 97 15).toInt := e486; have q2 : (((uI (uI (uI M 97 16 (M 97 15)) 97 17 0) 97 16 (((uI (uI M 97 16 (M 97 15)) 97 17 0) 97 16) + 1)) 97 16) : Int32).toInt = ((M 97 15).toInt + 1) := e487; have q3 : (((uI (uI (uI M 97 16 (M 97 15)) 97 17 0) 97 16 (((uI (uI M 97 16 (M 97 15)) 97 17 0) 97 16) + 1)) 97 16) : Int32).toInt = ((M 97 15).toInt + 1) := e487; omega) (by have q0 : (((uI (uI (uI M 97 16 (M 97 15)) 97 17 0) 97 16 (((uI (uI M 97 16 (M 97 15)) 97 17 0) 97 16) + 1)) 97 16) : Int32).toInt = ((M 97 15).toInt + 1) := e487; omega)
                                · skip
                                  have e488 : (((uI (uI M 97 16 (M 97 15)) 97 17 0) 97 15) : Int32).toInt = (M 97 15).toInt := Eq.trans (congrArg Int32.toInt (Eq.trans (rd_k (by decide)) (rd_k (by decide)))) rfl
                                  have e489 : ((((uI (uI M 97 16 (M 97 15)) 97 17 0) 97 16) - ((uI (uI M 97 16 (M 97 15)) 97 17 0) 97 15)) : Int32).toInt = ((M 97 15).toInt) - ((M 97 15).toInt) := ti_sub e429 e488 (by omega)
                                  have d490 : ((((M 97 15).toInt - (M 97 15).toInt)) : Int) < (4) := ci_nle rfl e489 c480
                                  refine w_X12_look2 ?_
                                  refine ⟨fun c491 => ?_, fun c491 => ?_⟩
                                  · skip
                                    have d492 : (((M 97 9).toInt) : Int) ≤ ((M 97 15).toInt) := ci_le e430 e429 c491
                                    have hB493 : Bd (uI (uI (uI M 97 16 (M 97 15)) 97 17 0) 97 17 (((10 * ((uI (uI M 97 16 (M 97 15)) 97 17 0) 97 17)) + 0) - 48)) := Bd.o0 hB404 (show isO 112 97 12 = true from rfl) (by omega) (show bnd 12 17 = none from rfl)
                                    have e495 : (((uI (uI (uI M 97 16 (M 97 15)) 97 17 0) 97 17 (((10 * ((uI (uI M 97 16 (M 97 15)) 97 17 0) 97 17)) + 0) - 48)) 97 16) : Int32).toInt = (M 97 15).toInt := Eq.trans (congrArg Int32.toInt (Eq.trans (Eq.trans (rd_k (by decide)) (rd_k (by decide))) rd_eq)) rfl
                                    have e496 : ((((uI (uI (uI M 97 16 (M 97 15)) 97 17 0) 97 17 (((10 * ((uI (uI M 97 16 (M 97 15)) 97 17 0) 97 17)) + 0) - 48)) 97 16) + 1) : Int32).toInt = ((M 97 15).toInt) + (1) := ti_add e495 rfl (by omega)
                                    have hB494 : Bd (uI (uI (uI (uI M 97 16 (M 97 15)) 97 17 0) 97 17 (((10 * ((uI (uI M 97 16 (M 97 15)) 97 17 0) 97 17)) + 0) - 48)) 97 16 (((uI (uI (uI M 97 16 (M 97 15)) 97 17 0) 97 17 (((10 * ((uI (uI M 97 16 (M 97 15)) 97 17 0) 97 17)) + 0) - 48)) 97 16) + 1)) := Bd.o1 hB493 (show isO 112 97 12 = true from rfl) (by omega) (show bnd 12 16 = some _ from rfl) (show ((((uI (uI (uI M 97 16 (M 97 15)) 97 17 0) 97 17 (((10 * ((uI (uI M 97 16 (M 97 15)) 97 17 0) 97 17)) + 0) - 48)) 97 16) + 1) : Int32).toInt = ((M 97 15).toInt + 1) from e496) (by omega)
                                    have e497 : (((uI (uI (uI (uI M 97 16 (M 97 15)) 97 17 0) 97 17 (((10 * ((uI (uI M 97 16 (M 97 15)) 97 17 0) 97 17)) + 0) - 48)) 97 16 (((uI (uI (uI M 97 16 (M 97 15)) 97 17 0) 97 17 (((10 * ((uI (uI M 97 16 (M 97 15)) 97 17 0) 97 17)) + 0) - 48)) 97 16) + 1)) 97 15) : Int32).toInt = (M 97 15).toInt := Eq.trans (congrArg Int32.toInt (Eq.trans (Eq.trans (Eq.trans (rd_k (by decide)) (rd_k (by decide))) (rd_k (by decide))) (rd_k (by decide)))) rfl
                                    have e498 : (((uI (uI (uI (uI M 97 16 (M 97 15)) 97 17 0) 97 17 (((10 * ((uI (uI M 97 16 (M 97 15)) 97 17 0) 97 17)) + 0) - 48)) 97 16 (((uI (uI (uI M 97 16 (M 97 15)) 97 17 0) 97 17 (((10 * ((uI (uI M 97 16 (M 97 15)) 97 17 0) 97 17)) + 0) - 48)) 97 16) + 1)) 97 16) : Int32).toInt = ((M 97 15).toInt + 1) := Eq.trans (congrArg Int32.toInt rd_eq) e496
                                    exact ih.2.2.2 _ _ hB494 (Eq.trans (Eq.trans (Eq.trans (Eq.trans (rd_k (by decide)) (rd_k (by decide))) (rd_k (by decide))) (rd_k (by decide))) hk_97_12) (Eq.trans (Eq.trans (Eq.trans (Eq.trans (rd_k (by decide)) (rd_k (by decide))) (rd_k (by decide))) (rd_k (by decide))) hk_97_27) (by have q0 : (((uI (uI (uI (uI M 97 16 (M 97 15)) 97 17 0) 97 17 (((10 * ((uI (uI M 97 16 (M 97 15)) 97 17 0) 97 17)) + 0) - 48)) 97 16 (((uI (uI (uI M 97 16 (M 97 15)) 97 17 0) 97 17 (((10 * ((uI (uI M 97 16 (M 97 15)) 97 17 0) 97 17)) + 0) - 48)) 97 16) + 1)) 97 15) : Int32).toInt = (M 97 15).toInt := e497; have q1 : (((uI (uI (uI (uI M 97 16 (M 97 15)) 97 17 0) 97 17 (((10 * ((uI (uI M 97 16 (M 97 15)) 97 17 0) 97 17)) + 0) - 48)) 97 16 (((uI (uI (uI M 97 16 (M 97 15)) 97 17 0) 97 17 (((10 * ((uI (uI M 97 16 (M 97 15)) 97 17 0) 97 17)) + 0) - 48)) 97 16) + 1)) 97 15) : Int32).toInt = (M 97 15).toInt := e497; have q2 : (((uI (uI (uI (uI M 97 16 (M 97 15)) 97 17 0) 97 17 (((10 * ((uI (uI M 97 16 (M 97 15)) 97 17 0) 97 17)) + 0) - 48)) 97 16 (((uI (uI (uI M 97 16 (M 97 15)) 97 17 0) 97 17 (((10 * ((uI (uI M 97 16 (M 97 15)) 97 17 0) 97 17)) + 0) - 48)) 97 16) + 1)) 97 16) : Int32).toInt = ((M 97 15).toInt + 1) := e498; have q3 : (((uI (uI (uI (uI M 97 16 (M 97 15)) 97 17 0) 97 17 (((10 * ((uI (uI M 97 16 (M 97 15)) 97 17 0) 97 17)) + 0) - 48)) 97 16 (((uI (uI (uI M 97 16 (M 97 15)) 97 17 0) 97 17 (((10 * ((uI (uI M 97 16 (M 97 15)) 97 17 0) 97 17)) + 0) - 48)) 97 16) + 1)) 97 16) : Int32).toInt = ((M 97 15).toInt + 1) := e498; omega) (by have q0 : (((uI (uI (uI (uI M 97 16 (M 97 15)) 97 17 0) 97 17 (((10 * ((uI (uI M 97 16 (M 97 15)) 97 17 0) 97 17)) + 0) - 48)) 97 16 (((uI (uI (uI M 97 16 (M 97 15)) 97 17 0) 97 17 (((10 * ((uI (uI M 97 16 (M 97 15)) 97 17 0) 97 17)) + 0) - 48)) 97 16) + 1)) 97 16) : Int32).toInt = ((M 97 15).toInt + 1) := e498; omega)
                                  · skip
                                    have d499 : (((M 97 15).toInt) : Int) < ((M 97 9).toInt) := ci_nle e430 e429 c491
                                    refine ⟨vp_of (a := (M 97 15).toInt) e429 (by omega) (by omega), ?_⟩
                                    have hB500 : Bd (uI (uI (uI M 97 16 (M 97 15)) 97 17 0) 97 17 (((10 * ((uI (uI M 97 16 (M 97 15)) 97 17 0) 97 17)) + (((uI (uI M 97 16 (M 97 15)) 97 17 0) 101 (Int32.toNatClampNeg ((uI (uI M 97 16 (M 97 15)) 97 17 0) 97 16))) &&& 255)) - 48)) := Bd.o0 hB404 (show isO 112 97 12 = true from rfl) (by omega) (show bnd 12 17 = none from rfl)
                                    have e502 : (((uI (uI (uI M 97 16 (M 97 15)) 97 17 0) 97 17 (((10 * ((uI (uI M 97 16 (M 97 15)) 97 17 0) 97 17)) + (((uI (uI M 97 16 (M 97 15)) 97 17 0) 101 (Int32.toNatClampNeg ((uI (uI M 97 16 (M 97 15)) 97 17 0) 97 16))) &&& 255)) - 48)) 97 16) : Int32).toInt = (M 97 15).toInt := Eq.trans (congrArg Int32.toInt (Eq.trans (Eq.trans (rd_k (by decide)) (rd_k (by decide))) rd_eq)) rfl
                                    have e503 : ((((uI (uI (uI M 97 16 (M 97 15)) 97 17 0) 97 17 (((10 * ((uI (uI M 97 16 (M 97 15)) 97 17 0) 97 17)) + (((uI (uI M 97 16 (M 97 15)) 97 17 0) 101 (Int32.toNatClampNeg ((uI (uI M 97 16 (M 97 15)) 97 17 0) 97 16))) &&& 255)) - 48)) 97 16) + 1) : Int32).toInt = ((M 97 15).toInt) + (1) := ti_add e502 rfl (by omega)
                                    have hB501 : Bd (uI (uI (uI (uI M 97 16 (M 97 15)) 97 17 0) 97 17 (((10 * ((uI (uI M 97 16 (M 97 15)) 97 17 0) 97 17)) + (((uI (uI M 97 16 (M 97 15)) 97 17 0) 101 (Int32.toNatClampNeg ((uI (uI M 97 16 (M 97 15)) 97 17 0) 97 16))) &&& 255)) - 48)) 97 16 (((uI (uI (uI M 97 16 (M 97 15)) 97 17 0) 97 17 (((10 * ((uI (uI M 97 16 (M 97 15)) 97 17 0) 97 17)) + (((uI (uI M 97 16 (M 97 15)) 97 17 0) 101 (Int32.toNatClampNeg ((uI (uI M 97 16 (M 97 15)) 97 17 0) 97 16))) &&& 255)) - 48)) 97 16) + 1)) := Bd.o1 hB500 (show isO 112 97 12 = true from rfl) (by omega) (show bnd 12 16 = some _ from rfl) (show ((((uI (uI (uI M 97 16 (M 97 15)) 97 17 0) 97 17 (((10 * ((uI (uI M 97 16 (M 97 15)) 97 17 0) 97 17)) + (((uI (uI M 97 16 (M 97 15)) 97 17 0) 101 (Int32.toNatClampNeg ((uI (uI M 97 16 (M 97 15)) 97 17 0) 97 16))) &&& 255)) - 48)) 97 16) + 1) : Int32).toInt = ((M 97 15).toInt + 1) from e503) (by omega)
                                    have e504 : (((uI (uI (uI (uI M 97 16 (M 97 15)) 97 17 0) 97 17 (((10 * ((uI (uI M 97 16 (M 97 15)) 97 17 0) 97 17)) + (((uI (uI M 97 16 (M 97 15)) 97 17 0) 101 (Int32.toNatClampNeg ((uI (uI M 97 16 (M 97 15)) 97 17 0) 97 16))) &&& 255)) - 48)) 97 16 (((uI (uI (uI M 97 16 (M 97 15)) 97 17 0) 97 17 (((10 * ((uI (uI M 97 16 (M 97 15)) 97 17 0) 97 17)) + (((uI (uI M 97 16 (M 97 15)) 97 17 0) 101 (Int32.toNatClampNeg ((uI (uI M 97 16 (M 97 15)) 97 17 0) 97 16))) &&& 255)) - 48)) 97 16) + 1)) 97 15) : Int32).toInt = (M 97 15).toInt := Eq.trans (congrArg Int32.toInt (Eq.trans (Eq.trans (Eq.trans (rd_k (by decide)) (rd_k (by decide))) (rd_k (by decide))) (rd_k (by decide)))) rfl
                                    have e505 : (((uI (uI (uI (uI M 97 16 (M 97 15)) 97 17 0) 97 17 (((10 * ((uI (uI M 97 16 (M 97 15)) 97 17 0) 97 17)) + (((uI (uI M 97 16 (M 97 15)) 97 17 0) 101 (Int32.toNatClampNeg ((uI (uI M 97 16 (M 97 15)) 97 17 0) 97 16))) &&& 255)) - 48)) 97 16 (((uI (uI (uI M 97 16 (M 97 15)) 97 17 0) 97 17 (((10 * ((uI (uI M 97 16 (M 97 15)) 97 17 0) 97 17)) + (((uI (uI M 97 16 (M 97 15)) 97 17 0) 101 (Int32.toNatClampNeg ((uI (uI M 97 16 (M 97 15)) 97 17 0) 97 16))) &&& 255)) - 48)) 97 16) + 1)) 97 16) : Int32).toInt = ((M 97 15).toInt + 1) := Eq.trans (congrArg Int32.toInt rd_eq) e503
                                    exact ih.2.2.2 _ _ hB501 (Eq.trans (Eq.trans (Eq.trans (Eq.trans (rd_k (by decide)) (rd_k (by decide))) (rd_k (by decide))) (rd_k (by decide))) hk_97_12) (Eq.trans (Eq.trans (Eq.trans (Eq.trans (rd_k (by decide)) (rd_k (by decide))) (rd_k (by decide))) (rd_k (by decide))) hk_97_27) (by have q0 : (((uI (uI (uI (uI M 97 16 (M 97 15)) 97 17 0) 97 17 (((10 * ((uI (uI M 97 16 (M 97 15)) 97 17 0) 97 17)) + (((uI (uI M 97 16 (M 97 15)) 97 17 0) 101 (Int32.toNatClampNeg ((uI (uI M 97 16 (M 97 15)) 97 17 0) 97 16))) &&& 255)) - 48)) 97 16 (((uI (uI (uI M 97 16 (M 97 15)) 97 17 0) 97 17 (((10 * ((uI (uI M 97 16 (M 97 15)) 97 17 0) 97 17)) + (((uI (uI M 97 16 (M 97 15)) 97 17 0) 101 (Int32.toNatClampNeg ((uI (uI M 97 16 (M 97 15)) 97 17 0) 97 16))) &&& 255)) - 48)) 97 16) + 1)) 97 15) : Int32).toInt = (M 97 15).toInt := e504; have q1 : (((uI (uI (uI (uI M 97 16 (M 97 15)) 97 17 0) 97 17 (((10 * ((uI (uI M 97 16 (M 97 15)) 97 17 0) 97 17)) + (((uI (uI M 97 16 (M 97 15)) 97 17 0) 101 (Int32.toNatClampNeg ((uI (uI M 97 16 (M 97 15)) 97 17 0) 97 16))) &&& 255)) - 48)) 97 16 (((uI (uI (uI M 97 16 (M 97 15)) 97 17 0) 97 17 (((10 * ((uI (uI M 97 16 (M 97 15)) 97 17 0) 97 17)) + (((uI (uI M 97 16 (M 97 15)) 97 17 0) 101 (Int32.toNatClampNeg ((uI (uI M 97 16 (M 97 15)) 97 17 0) 97 16))) &&& 255)) - 48)) 97 16) + 1)) 97 15) : Int32).toInt = (M 97 15).toInt := e504; have q2 : (((uI (uI (uI (uI M 97 16 (M 97 15)) 97 17 0) 97 17 (((10 * ((uI (uI M 97 16 (M 97 15)) 97 17 0) 97 17)) + (((uI (uI M 97 16 (M 97 15)) 97 17 0) 101 (Int32.toNatClampNeg ((uI (uI M 97 16 (M 97 15)) 97 17 0) 97 16))) &&& 255)) - 48)) 97 16 (((uI (uI (uI M 97 16 (M 97 15)) 97 17 0) 97 17 (((10 * ((uI (uI M 97 16 (M 97 15)) 97 17 0) 97 17)) + (((uI (uI M 97 16 (M 97 15)) 97 17 0) 101 (Int32.toNatClampNeg ((uI (uI M 97 16 (M 97 15)) 97 17 0) 97 16))) &&& 255)) - 48)) 97 16) + 1)) 97 16) : Int32).toInt = ((M 97 15).toInt + 1) := e505; have q3 : (((uI (uI (uI (uI M 97 16 (M 97 15)) 97 17 0) 97 17 (((10 * ((uI (uI M 97 16 (M 97 15)) 97 17 0) 97 17)) + (((uI (uI M 97 16 (M 97 15)) 97 17 0) 101 (Int32.toNatClampNeg ((uI (uI M 97 16 (M 97 15)) 97 17 0) 97 16))) &&& 255)) - 48)) 97 16 (((uI (uI (uI M 97 16 (M 97 15)) 97 17 0) 97 17 (((10 * ((uI (uI M 97 16 (M 97 15)) 97 17 0) 97 17)) + (((uI (uI M 97 16 (M 97 15)) 97 17 0) 101 (Int32.toNatClampNeg ((uI (uI M 97 16 (M 97 15)) 97 17 0) 97 16))) &&& 255)) - 48)) 97 16) + 1)) 97 16) : Int32).toInt = ((M 97 15).toInt + 1) := e505; omega) (by have q0 : (((uI (uI (uI (uI M 97 16 (M 97 15)) 97 17 0) 97 17 (((10 * ((uI (uI M 97 16 (M 97 15)) 97 17 0) 97 17)) + (((uI (uI M 97 16 (M 97 15)) 97 17 0) 101 (Int32.toNatClampNeg ((uI (uI M 97 16 (M 97 15)) 97 17 0) 97 16))) &&& 255)) - 48)) 97 16 (((uI (uI (uI M 97 16 (M 97 15)) 97 17 0) 97 17 (((10 * ((uI (uI M 97 16 (M 97 15)) 97 17 0) 97 17)) + (((uI (uI M 97 16 (M 97 15)) 97 17 0) 101 (Int32.toNatClampNeg ((uI (uI M 97 16 (M 97 15)) 97 17 0) 97 16))) &&& 255)) - 48)) 97 16) + 1)) 97 16) : Int32).toInt = ((M 97 15).toInt + 1) := e505; omega)
                · exact absurd c291 (by decide)
              · skip
                have d506 : (((((M 101 (Int32.toNatClampNeg (M 97 15))) &&& 255) : Int32).toInt) : Int) ≤ (122) := ci_nlt rfl e286 c288
                refine ⟨Or.inr rfl, ?_⟩
                intro o507
                refine ⟨fun c508 => ?_, fun c508 => ?_⟩
                · exact absurd c508 (by decide)
                · skip
                  have hB509 : Bd (uI (uI M 97 16 (M 97 15)) 97 14 1) := Bd.o1 hB38 (show isO 112 97 12 = true from rfl) (by omega) (show bnd 12 14 = some _ from rfl) (show (1 : Int32).toInt = 1 from rfl) (by omega)
                  refine sg_X12_advance_109 hc _ _ _ ?_
                  refine w_X12_look2 ?_
                  refine ⟨fun c510 => ?_, fun c510 => ?_⟩
                  · skip
                    have e511 : (((uI (uI M 97 16 (M 97 15)) 97 14 1) 97 16) : Int32).toInt = (M 97 15).toInt := Eq.trans (congrArg Int32.toInt (Eq.trans (rd_k (by decide)) rd_eq)) rfl
                    have e512 : (((uI (uI M 97 16 (M 97 15)) 97 14 1) 97 9) : Int32).toInt = (M 97 9).toInt := Eq.trans (congrArg Int32.toInt (Eq.trans (rd_k (by decide)) (rd_k (by decide)))) rfl
                    have d513 : (((M 97 9).toInt) : Int) ≤ ((M 97 15).toInt) := ci_le e512 e511 c510
                    refine w_X12_isLetter ?_
                    refine ⟨fun c514 => ?_, fun c514 => ?_⟩
                    · skip
                      refine ⟨Or.inl rfl, ?_⟩
                      intro o515
                      refine ⟨fun c516 => ?_, fun c516 => ?_⟩
                      · skip
                        have hB517 : Bd (uI (uI (uI M 97 16 (M 97 15)) 97 14 1) 97 18 (((uI (uI M 97 16 (M 97 15)) 97 14 1) 97 16) - ((uI (uI M 97 16 (M 97 15)) 97 14 1) 97 15))) := Bd.o0 hB509 (show isO 112 97 12 = true from rfl) (by omega) (show bnd 12 18 = none from rfl)
                        have b518 := Bd.o hB0 (show isO 112 97 12 = true from rfl) (show bnd 12 14 = some _ from rfl)
                        have b519 := Bd.o hB0 (show isO 112 97 12 = true from rfl) (show bnd 12 16 = some _ from rfl)
                        have e520 : (((uI (uI (uI M 97 16 (M 97 15)) 97 14 1) 97 18 (((uI (uI M 97 16 (M 97 15)) 97 14 1) 97 16) - ((uI (uI M 97 16 (M 97 15)) 97 14 1) 97 15))) 97 14) : Int32).toInt = 1 := Eq.trans (congrArg Int32.toInt (Eq.trans (rd_k (by decide)) rd_eq)) rfl
                        have e521 : (((uI (uI (uI M 97 16 (M 97 15)) 97 14 1) 97 18 (((uI (uI M 97 16 (M 97 15)) 97 14 1) 97 16) - ((uI (uI M 97 16 (M 97 15)) 97 14 1) 97 15))) 97 16) : Int32).toInt = (M 97 15).toInt := Eq.trans (congrArg Int32.toInt (Eq.trans (Eq.trans (rd_k (by decide)) (rd_k (by decide))) rd_eq)) rfl
                        exact hQ _ _ _ _ hB517 ⟨(Eq.trans (Eq.trans (Eq.trans (rd_k (by decide)) (rd_k (by decide))) (rd_k (by decide))) hk_97_12), (Eq.trans (Eq.trans (Eq.trans (rd_k (by decide)) (rd_k (by decide))) (rd_k (by decide))) hk_97_27), (by have q3 : (((uI (uI (uI M 97 16 (M 97 15)) 97 14 1) 97 18 (((uI (uI M 97 16 (M 97 15)) 97 14 1) 97 16) - ((uI (uI M 97 16 (M 97 15)) 97 14 1) 97 15))) 97 14) : Int32).toInt = 1 := e520; have q4 : (((uI (uI (uI M 97 16 (M 97 15)) 97 14 1) 97 18 (((uI (uI M 97 16 (M 97 15)) 97 14 1) 97 16) - ((uI (uI M 97 16 (M 97 15)) 97 14 1) 97 15))) 97 16) : Int32).toInt = (M 97 15).toInt := e521; omega)⟩
                      · exact absurd c516 (by decide)
                    · exact absurd c514 (by decide)
                  · skip
                    have e522 : (((uI (uI M 97 16 (M 97 15)) 97 14 1) 97 16) : Int32).toInt = (M 97 15).toInt := Eq.trans (congrArg Int32.toInt (Eq.trans (rd_k (by decide)) rd_eq)) rfl
                    have e523 : (((uI (uI M 97 16 (M 97 15)) 97 14 1) 97 9) : Int32).toInt = (M 97 9).toInt := Eq.trans (congrArg Int32.toInt (Eq.trans (rd_k (by decide)) (rd_k (by decide)))) rfl
                    have d524 : (((M 97 15).toInt) : Int) < ((M 97 9).toInt) := ci_nle e523 e522 c510
                    refine ⟨vp_of (a := (M 97 15).toInt) e522 (by omega) (by omega), ?_⟩
                    refine w_X12_isLetter ?_
                    refine ⟨fun c525 => ?_, fun c525 => ?_⟩
                    · skip
                      have e526 : ((((uI (uI M 97 16 (M 97 15)) 97 14 1) 101 (Int32.toNatClampNeg ((uI (uI M 97 16 (M 97 15)) 97 14 1) 97 16))) &&& 255) : Int32).toInt = (((M 101 (Int32.toNatClampNeg (M 97 15))) &&& 255) : Int32).toInt := congrArg (fun z => (z &&& 255 : Int32).toInt) (Eq.trans (Eq.trans (rd_ne (by omega)) (rd_ne (by omega))) (congrArg (fun z => M 101 (Int32.toNatClampNeg z)) (Eq.trans (rd_k (by decide)) rd_eq)))
                      have d527 : (((((M 101 (Int32.toNatClampNeg (M 97 15))) &&& 255) : Int32).toInt) : Int) < (97) := ci_lt e526 rfl c525
                      refine ⟨Or.inl rfl, ?_⟩
                      intro o528
                      refine ⟨fun c529 => ?_, fun c529 => ?_⟩
                      · skip
                        have hB530 : Bd (uI (uI (uI M 97 16 (M 97 15)) 97 14 1) 97 18 (((uI (uI M 97 16 (M 97 15)) 97 14 1) 97 16) - ((uI (uI M 97 16 (M 97 15)) 97 14 1) 97 15))) := Bd.o0 hB509 (show isO 112 97 12 = true from rfl) (by omega) (show bnd 12 18 = none from rfl)
                        have b531 := Bd.o hB0 (show isO 112 97 12 = true from rfl) (show bnd 12 14 = some _ from rfl)
                        have b532 := Bd.o hB0 (show isO 112 97 12 = true from rfl) (show bnd 12 16 = some _ from rfl)
                        have e533 : (((uI (uI (uI M 97 16 (M 97 15)) 97 14 1) 97 18 (((uI (uI M 97 16 (M 97 15)) 97 14 1) 97 16) - ((uI (uI M 97 16 (M 97 15)) 97 14 1) 97 15))) 97 14) : Int32).toInt = 1 := Eq.trans (congrArg Int32.toInt (Eq.trans (rd_k (by decide)) rd_eq)) rfl
                        have e534 : (((uI (uI (uI M 97 16 (M 97 15)) 97 14 1) 97 18 (((uI (uI M 97 16 (M 97 15)) 97 14 1) 97 16) - ((uI (uI M 97 16 (M 97 15)) 97 14 1) 97 15))) 97 16) : Int32).toInt = (M 97 15).toInt := Eq.trans (congrArg Int32.toInt (Eq.trans (Eq.trans (rd_k (by decide)) (rd_k (by decide))) rd_eq)) rfl
                        exact hQ _ _ _ _ hB530 ⟨(Eq.trans (Eq.trans (Eq.trans (rd_k (by decide)) (rd_k (by decide))) (rd_k (by decide))) hk_97_12), (Eq.trans (Eq.trans (Eq.trans (rd_k (by decide)) (rd_k (by decide))) (rd_k (by decide))) hk_97_27), (by have q3 : (((uI (uI (uI M 97 16 (M 97 15)) 97 14 1) 97 18 (((uI (uI M 97 16 (M 97 15)) 97 14 1) 97 16) - ((uI (uI M 97 16 (M 97 15)) 97 14 1) 97 15))) 97 14) : Int32).toInt = 1 := e533; have q4 : (((uI (uI (uI M 97 16 (M 97 15)) 97 14 1) 97 18 (((uI (uI M 97 16 (M 97 15)) 97 14 1) 97 16) - ((uI (uI M 97 16 (M 97 15)) 97 14 1) 97 15))) 97 16) : Int32).toInt = (M 97 15).toInt := e534; omega)⟩
                      · exact absurd c529 (by decide)
                    · skip
                      have e535 : ((((uI (uI M 97 16 (M 97 15)) 97 14 1) 101 (Int32.toNatClampNeg ((uI (uI M 97 16 (M 97 15)) 97 14 1) 97 16))) &&& 255) : Int32).toInt = (((M 101 (Int32.toNatClampNeg (M 97 15))) &&& 255) : Int32).toInt := congrArg (fun z => (z &&& 255 : Int32).toInt) (Eq.trans (Eq.trans (rd_ne (by omega)) (rd_ne (by omega))) (congrArg (fun z => M 101 (Int32.toNatClampNeg z)) (Eq.trans (rd_k (by decide)) rd_eq)))
                      have d536 : ((97) : Int) ≤ ((((M 101 (Int32.toNatClampNeg (M 97 15))) &&& 255) : Int32).toInt) := ci_nlt e535 rfl c525
                      refine ⟨fun c537 => ?_, fun c537 => ?_⟩
                      · skip
                        have d538 : ((122) : Int) < ((((M 101 (Int32.toNatClampNeg (M 97 15))) &&& 255) : Int32).toInt) := ci_lt rfl e535 c537
                        refine ⟨Or.inl rfl, ?_⟩
                        intro o539
                        refine ⟨fun c540 => ?_, fun c540 => ?_⟩
                        · skip
                          have hB541 : Bd (uI (uI (uI M 97 16 (M 97 15)) 97 14 1) 97 18 (((uI (uI M 97 16 (M 97 15)) 97 14 1) 97 16) - ((uI (uI M 97 16 (M 97 15)) 97 14 1) 97 15))) := Bd.o0 hB509 (show isO 112 97 12 = true from rfl) (by omega) (show bnd 12 18 = none from rfl)
                          have b542 := Bd.o hB0 (show isO 112 97 12 = true from rfl) (show bnd 12 14 = some _ from rfl)
                          have b543 := Bd.o hB0 (show isO 112 97 12 = true from rfl) (show bnd 12 16 = some _ from rfl)
                          have e544 : (((uI (uI (uI M 97 16 (M 97 15)) 97 14 1) 97 18 (((uI (uI M 97 16 (M 97 15)) 97 14 1) 97 16) - ((uI (uI M 97 16 (M 97 15)) 97 14 1) 97 15))) 97 14) : Int32).toInt = 1 := Eq.trans (congrArg Int32.toInt (Eq.trans (rd_k (by decide)) rd_eq)) rfl
                          have e545 : (((uI (uI (uI M 97 16 (M 97 15)) 97 14 1) 97 18 (((uI (uI M 97 16 (M 97 15)) 97 14 1) 97 16) - ((uI (uI M 97 16 (M 97 15)) 97 14 1) 97 15))) 97 16) : Int32).toInt = (M 97 15).toInt := Eq.trans (congrArg Int32.toInt (Eq.trans (Eq.trans (rd_k (by decide)) (rd_k (by decide))) rd_eq)) rfl
                          exact hQ _ _ _ _ hB541 ⟨(Eq.trans (Eq.trans (Eq.trans (rd_k (by decide)) (rd_k (by decide))) (rd_k (by decide))) hk_97_12), (Eq.trans (Eq.trans (Eq.trans (rd_k (by decide)) (rd_k (by decide))) (rd_k (by decide))) hk_97_27), (by have q3 : (((uI (uI (uI M 97 16 (M 97 15)) 97 14 1) 97 18 (((uI (uI M 97 16 (M 97 15)) 97 14 1) 97 16) - ((uI (uI M 97 16 (M 97 15)) 97 14 1) 97 15))) 97 14) : Int32).toInt = 1 := e544; have q4 : (((uI (uI (uI M 97 16 (M 97 15)) 97 14 1) 97 18 (((uI (uI M 97 16 (M 97 15)) 97 14 1) 97 16) - ((uI (uI M 97 16 (M 97 15)) 97 14 1) 97 15))) 97 16) : Int32).toInt = (M 97 15).toInt := e545; omega)⟩
                        · exact absurd c540 (by decide)
                      · skip
                        have d546 : (((((M 101 (Int32.toNatClampNeg (M 97 15))) &&& 255) : Int32).toInt) : Int) ≤ (122) := ci_nlt rfl e535 c537
                        refine ⟨Or.inr rfl, ?_⟩
                        intro o547
                        refine ⟨fun c548 => ?_, fun c548 => ?_⟩
                        · exact absurd c548 (by decide)
                        · skip
                          refine ⟨fun c549 => ?_, fun c549 => ?_⟩
                          · skip
                            have e550 : (((uI (uI M 97 16 (M 97 15)) 97 14 1) 97 15) : Int32).toInt = (M 97 15).toInt := Eq.trans (congrArg Int32.toInt (Eq.trans (rd_k (by decide)) (rd_k (by decide)))) rfl
                            have e551 : ((((uI (uI M 97 16 (M 97 15)) 97 14 1) 97 16) - ((uI (uI M 97 16 (M 97 15)) 97 14 1) 97 15)) : Int32).toInt = ((M 97 15).toInt) - ((M 97 15).toInt) := ti_sub e522 e550 (by omega)
                            have d552 : ((8) : Int) ≤ (((M 97 15).toInt - (M 97 15).toInt)) := ci_le rfl e551 c549
                            have e554 : ((((uI (uI M 97 16 (M 97 15)) 97 14 1) 97 16) + 1) : Int32).toInt = ((M 97 15).toInt) + (1) := ti_add e522 rfl (by omega)
                            have hB553 : Bd (uI (uI (uI M 97 16 (M 97 15)) 97 14 1) 97 16 (((uI (uI M 97 16 (M 97 15)) 97 14 1) 97 16) + 1)) := Bd.o1 hB509 (show isO 112 97 12 = true from rfl) (by omega) (show bnd 12 16 = some _ from rfl) (show ((((uI (uI M 97 16 (M 97 15)) 97 14 1) 97 16) + 1) : Int32).toInt = ((M 97 15).toInt + 1) from e554) (by omega)
                            have e555 : (((uI (uI (uI M 97 16 (M 97 15)) 97 14 1) 97 16 (((uI (uI M 97 16 (M 97 15)) 97 14 1) 97 16) + 1)) 97 15) : Int32).toInt = (M 97 15).toInt := Eq.trans (congrArg Int32.toInt (Eq.trans (Eq.trans (rd_k (by decide)) (rd_k (by decide))) (rd_k (by decide)))) rfl
                            have e556 : (((uI (uI (uI M 97 16 (M 97 15)) 97 14 1) 97 16 (((uI (uI M 97 16 (M 97 15)) 97 14 1) 97 16) + 1)) 97 16) : Int32).toInt = ((M 97 15).toInt + 1) := Eq.trans (congrArg Int32.toInt rd_eq) e554
                            exact ih.2.2.1 _ _ hB553 (Eq.trans (Eq.trans (Eq.trans (rd_k (by decide)) (rd_k (by decide))) (rd_k (by decide))) hk_97_12) (Eq.trans (Eq.trans (Eq.trans (rd_k (by decide)) (rd_k (by decide))) (rd_k (by decide))) hk_97_27) (by have q0 : (((uI (uI (uI M 97 16 (M 97 15)) 97 14 1) 97 16 (((uI (uI M 97 16 (M 97 15)) 97 14 1) 97 16) + 1)) 97 15) : Int32).toInt = (M 97 15).toInt := e555; have q1 : (((uI (uI (uI M 97 16 (M 97 15)) 97 14 1) 97 16 (((uI (uI M 97 16 (M 97 15)) 97 14 1) 97 16) + 1)) 97 15) : Int32).toInt = (M 97 15).toInt := e555; have q2 : (((uI (uI (uI M 97 16 (M 97 15)) 97 14 1) 97 16 (((uI (uI M 97 16 (M 97 15)) 97 14 1) 97 16) + 1)) 97 16) : Int32).toInt = ((M 97 15).toInt + 1) := e556; have q3 : (((uI (uI (uI M 97 16 (M 97 15)) 97 14 1) 97 16 (((uI (uI M 97 16 (M 97 15)) 97 14 1) 97 16) + 1)) 97 15) : Int32).toInt = (M 97 15).toInt := e555; have q4 : (((uI (uI (uI M 97 16 (M 97 15)) 97 14 1) 97 16 (((uI (uI M 97 16 (M 97 15)) 97 14 1) 97 16) + 1)) 97 16) : Int32).toInt = ((M 97 15).toInt + 1) := e556; have q5 : (((uI (uI (uI M 97 16 (M 97 15)) 97 14 1) 97 16 (((uI (uI M 97 16 (M 97 15)) 97 14 1) 97 16) + 1)) 97 16) : Int32).toInt = ((M 97 15).toInt + 1) := e556; omega) (by have q0 : (((uI (uI (uI M 97 16 (M 97 15)) 97 14 1) 97 16 (((uI (uI M 97 16 (M 97 15)) 97 14 1) 97 16) + 1)) 97 16) : Int32).toInt = ((M 97 15).toInt + 1) := e556; omega)
                          · skip
                            have e557 : (((uI (uI M 97 16 (M 97 15)) 97 14 1) 97 15) : Int32).toInt = (M 97 15).toInt := Eq.trans (congrArg Int32.toInt (Eq.trans (rd_k (by decide)) (rd_k (by decide)))) rfl
                            have e558 : ((((uI (uI M 97 16 (M 97 15)) 97 14 1) 97 16) - ((uI (uI M 97 16 (M 97 15)) 97 14 1) 97 15)) : Int32).toInt = ((M 97 15).toInt) - ((M 97 15).toInt) := ti_sub e522 e557 (by omega)
                            have d559 : ((((M 97 15).toInt - (M 97 15).toInt)) : Int) < (8) := ci_nle rfl e558 c549
                            refine w_X12_look2 ?_
                            refine ⟨fun c560 => ?_, fun c560 => ?_⟩
                            · skip
                              have d561 : (((M 97 9).toInt) : Int) ≤ ((M 97 15).toInt) := ci_le e523 e522 c560
                              have e563 : ((((uI (uI M 97 16 (M 97 15)) 97 14 1) 97 16) + 1) : Int32).toInt = ((M 97 15).toInt) + (1) := ti_add e522 rfl (by omega)
                              have hB562 : Bd (uI (uI (uI M 97 16 (M 97 15)) 97 14 1) 97 16 (((uI (uI M 97 16 (M 97 15)) 97 14 1) 97 16) + 1)) := Bd.o1 hB509 (show isO 112 97 12 = true from rfl) (by omega) (show bnd 12 16 = some _ from rfl) (show ((((uI (uI M 97 16 (M 97 15)) 97 14 1) 97 16) + 1) : Int32).toInt = ((M 97 15).toInt + 1) from e563) (by omega)
                              have e564 : (((uI (uI (uI M 97 16 (M 97 15)) 97 14 1) 97 16 (((uI (uI M 97 16 (M 97 15)) 97 14 1) 97 16) + 1)) 97 15) : Int32).toInt = (M 97 15).toInt := Eq.trans (congrArg Int32.toInt (Eq.trans (Eq.trans (rd_k (by decide)) (rd_k (by decide))) (rd_k (by decide)))) rfl
                              have e565 : (((uI (uI (uI M 97 16 (M 97 15)) 97 14 1) 97 16 (((uI (uI M 97 16 (M 97 15)) 97 14 1) 97 16) + 1)) 97 16) : Int32).toInt = ((M 97 15).toInt + 1) := Eq.trans (congrArg Int32.toInt rd_eq) e563
                              exact ih.2.2.1 _ _ hB562 (Eq.trans (Eq.trans (Eq.trans (rd_k (by decide)) (rd_k (by decide))) (rd_k (by decide))) hk_97_12) (Eq.trans (Eq.trans (Eq.trans (rd_k (by decide)) (rd_k (by decide))) (rd_k (by decide))) hk_97_27) (by have q0 : (((uI (uI (uI M 97 16 (M 97 15)) 97 14 1) 97 16 (((uI (uI M 97 16 (M 97 15)) 97 14 1) 97 16) + 1)) 97 15) : Int32).toInt = (M 97 15).toInt := e564; have q1 : (((uI (uI (uI M 97 16 (M 97 15)) 97 14 1) 97 16 (((uI (uI M 97 16 (M 97 15)) 97 14 1) 97 16) + 1)) 97 15) : Int32).toInt = (M 97 15).toInt := e564; have q2 : (((uI (uI (uI M 97 16 (M 97 15)) 97 14 1) 97 16 (((uI (uI M 97 16 (M 97 15)) 97 14 1) 97 16) + 1)) 97 16) : Int32).toInt = ((M 97 15).toInt + 1) := e565; have q3 : (((uI (uI (uI M 97 16 (M 97 15)) 97 14 1) 97 16 (((uI (uI M 97 16 (M 97 15)) 97 14 1) 97 16) + 1)) 97 15) : Int32).toInt = (M 97 15).toInt := e564; have q4 : (((uI (uI (uI M 97 16 (M 97 15)) 97 14 1) 97 16 (((uI (uI M 97 16 (M 97 15)) 97 14 1) 97 16) + 1)) 97 16) : Int32).toInt = ((M 97 15).toInt + 1) := e565; have q5 : (((uI (uI (uI M 97 16 (M 97 15)) 97 14 1) 97 16 (((uI (uI M 97 16 (M 97 15)) 97 14 1) 97 16) + 1)) 97 16) : Int32).toInt = ((M 97 15).toInt + 1) := e565; omega) (by have q0 : (((uI (uI (uI M 97 16 (M 97 15)) 97 14 1) 97 16 (((uI (uI M 97 16 (M 97 15)) 97 14 1) 97 16) + 1)) 97 16) : Int32).toInt = ((M 97 15).toInt + 1) := e565; omega)
                            · skip
                              have d566 : (((M 97 15).toInt) : Int) < ((M 97 9).toInt) := ci_nle e523 e522 c560
                              refine ⟨vp_of (a := (M 97 15).toInt) e522 (by omega) (by omega), ?_⟩
                              have e568 : ((((uI (uI M 97 16 (M 97 15)) 97 14 1) 97 16) + 1) : Int32).toInt = ((M 97 15).toInt) + (1) := ti_add e522 rfl (by omega)
                              have hB567 : Bd (uI (uI (uI M 97 16 (M 97 15)) 97 14 1) 97 16 (((uI (uI M 97 16 (M 97 15)) 97 14 1) 97 16) + 1)) := Bd.o1 hB509 (show isO 112 97 12 = true from rfl) (by omega) (show bnd 12 16 = some _ from rfl) (show ((((uI (uI M 97 16 (M 97 15)) 97 14 1) 97 16) + 1) : Int32).toInt = ((M 97 15).toInt + 1) from e568) (by omega)
                              have e569 : (((uI (uI (uI M 97 16 (M 97 15)) 97 14 1) 97 16 (((uI (uI M 97 16 (M 97 15)) 97 14 1) 97 16) + 1)) 97 15) : Int32).toInt = (M 97 15).toInt := Eq.trans (congrArg Int32.toInt (Eq.trans (Eq.trans (rd_k (by decide)) (rd_k (by decide))) (rd_k (by decide)))) rfl
                              have e570 : (((uI (uI (uI M 97 16 (M 97 15)) 97 14 1) 97 16 (((uI (uI M 97 16 (M 97 15)) 97 14 1) 97 16) + 1)) 97 16) : Int32).toInt = ((M 97 15).toInt + 1) := Eq.trans (congrArg Int32.toInt rd_eq) e568
                              exact ih.2.2.1 _ _ hB567 (Eq.trans (Eq.trans (Eq.trans (rd_k (by decide)) (rd_k (by decide))) (rd_k (by decide))) hk_97_12) (Eq.trans (Eq.trans (Eq.trans (rd_k (by decide)) (rd_k (by decide))) (rd_k (by decide))) hk_97_27) (by have q0 : (((uI (uI (uI M 97 16 (M 97 15)) 97 14 1) 97 16 (((uI (uI M 97 16 (M 97 15)) 97 14 1) 97 16) + 1)) 97 15) : Int32).toInt = (M 97 15).toInt := e569; have q1 : (((uI (uI (uI M 97 16 (M 97 15)) 97 14 1) 97 16 (((uI (uI M 97 16 (M 97 15)) 97 14 1) 97 16) + 1)) 97 15) : Int32).toInt = (M 97 15).toInt := e569; have q2 : (((uI (uI (uI M 97 16 (M 97 15)) 97 14 1) 97 16 (((uI (uI M 97 16 (M 97 15)) 97 14 1) 97 16) + 1)) 97 16) : Int32).toInt = ((M 97 15).toInt + 1) := e570; have q3 : (((uI (uI (uI M 97 16 (M 97 15)) 97 14 1) 97 16 (((uI (uI M 97 16 (M 97 15)) 97 14 1) 97 16) + 1)) 97 15) : Int32).toInt = (M 97 15).toInt := e569; have q4 : (((uI (uI (uI M 97 16 (M 97 15)) 97 14 1) 97 16 (((uI (uI M 97 16 (M 97 15)) 97 14 1) 97 16) + 1)) 97 16) : Int32).toInt = ((M 97 15).toInt + 1) := e570; have q5 : (((uI (uI (uI M 97 16 (M 97 15)) 97 14 1) 97 16 (((uI (uI M 97 16 (M 97 15)) 97 14 1) 97 16) + 1)) 97 16) : Int32).toInt = ((M 97 15).toInt + 1) := e570; omega) (by have q0 : (((uI (uI (uI M 97 16 (M 97 15)) 97 14 1) 97 16 (((uI (uI M 97 16 (M 97 15)) 97 14 1) 97 16) + 1)) 97 16) : Int32).toInt = ((M 97 15).toInt + 1) := e570; omega)
        · skip
          have e571 : (((uI M 97 16 (M 97 15)) 97 15) : Int32).toInt = (M 97 15).toInt := Eq.trans (congrArg Int32.toInt (rd_k (by decide))) rfl
          have b572 := Bd.o hB (show isO 112 97 12 = true from rfl) (show bnd 12 9 = some _ from rfl)
          have e573 : (((uI M 97 16 (M 97 15)) 97 9) : Int32).toInt = (M 97 9).toInt := Eq.trans (congrArg Int32.toInt (rd_k (by decide))) rfl
          have d574 : (((M 97 9).toInt) : Int) ≤ ((M 97 15).toInt) := ci_nlt e571 e573 c39
          have hB575 : Bd (uI (uI M 97 16 (M 97 15)) 97 14 0) := Bd.o1 hB38 (show isO 112 97 12 = true from rfl) (by omega) (show bnd 12 14 = some _ from rfl) (show (0 : Int32).toInt = 0 from rfl) (by omega)
          have b576 := Bd.o hB0 (show isO 112 97 12 = true from rfl) (show bnd 12 14 = some _ from rfl)
          have b577 := Bd.o hB0 (show isO 112 97 12 = true from rfl) (show bnd 12 16 = some _ from rfl)
          have e578 : (((uI (uI M 97 16 (M 97 15)) 97 14 0) 97 14) : Int32).toInt = 0 := Eq.trans (congrArg Int32.toInt rd_eq) rfl
          have e579 : (((uI (uI M 97 16 (M 97 15)) 97 14 0) 97 16) : Int32).toInt = (M 97 15).toInt := Eq.trans (congrArg Int32.toInt (Eq.trans (rd_k (by decide)) rd_eq)) rfl
          exact hQ _ _ _ _ hB575 ⟨(Eq.trans (Eq.trans (rd_k (by decide)) (rd_k (by decide))) hk_97_12), (Eq.trans (Eq.trans (rd_k (by decide)) (rd_k (by decide))) hk_97_27), (by have q3 : (((uI (uI M 97 16 (M 97 15)) 97 14 0) 97 14) : Int32).toInt = 0 := e578; have q4 : (((uI (uI M 97 16 (M 97 15)) 97 14 0) 97 16) : Int32).toInt = (M 97 15).toInt := e579; omega)⟩
      · skip
        intro  M J hB hk_97_12 hk_97_27 hi hm
        refine sg_X12_advance_109 hc _ _ _ ?_
        have b580 := Bd.o hB (show isO 112 97 12 = true from rfl) (show bnd 12 15 = some _ from rfl)
        have b581 := Bd.o hB (show isO 112 97 12 = true from rfl) (show bnd 12 16 = some _ from rfl)
        refine w_X12_look2 ?_
        refine ⟨fun c582 => ?_, fun c582 => ?_⟩
        · skip
          have b583 := Bd.o hB (show isO 112 97 12 = true from rfl) (show bnd 12 9 = some _ from rfl)
          have d584 : (((M 97 9).toInt) : Int) ≤ ((M 97 16).toInt) := ci_le rfl rfl c582
          refine w_X12_isLetter ?_
          refine ⟨fun c585 => ?_, fun c585 => ?_⟩
          · skip
            refine ⟨Or.inl rfl, ?_⟩
            intro o586
            refine ⟨fun c587 => ?_, fun c587 => ?_⟩
            · skip
              have hB588 : Bd (uI M 97 18 ((M 97 16) - (M 97 15))) := Bd.o0 hB (show isO 112 97 12 = true from rfl) (by omega) (show bnd 12 18 = none from rfl)
              have b589 := Bd.o hB0 (show isO 112 97 12 = true from rfl) (show bnd 12 14 = some _ from rfl)
              have b590 := Bd.o hB0 (show isO 112 97 12 = true from rfl) (show bnd 12 16 = some _ from rfl)
              have b591 := Bd.o hB (show isO 112 97 12 = true from rfl) (show bnd 12 14 = some _ from rfl)
              have e592 : (((uI M 97 18 ((M 97 16) - (M 97 15))) 97 14) : Int32).toInt = (M 97 14).toInt := Eq.trans (congrArg Int32.toInt (rd_k (by decide))) rfl
              have e593 : (((uI M 97 18 ((M 97 16) - (M 97 15))) 97 16) : Int32).toInt = (M 97 16).toInt := Eq.trans (congrArg Int32.toInt (rd_k (by decide))) rfl
              exact hQ _ _ _ _ hB588 ⟨(Eq.trans (rd_k (by decide)) hk_97_12), (Eq.trans (rd_k (by decide)) hk_97_27), (by have q3 : (((uI M 97 18 ((M 97 16) - (M 97 15))) 97 14) : Int32).toInt = (M 97 14).toInt := e592; have q4 : (((uI M 97 18 ((M 97 16) - (M 97 15))) 97 16) : Int32).toInt = (M 97 16).toInt := e593; omega)⟩
            · exact absurd c587 (by decide)
          · exact absurd c585 (by decide)
        · skip
          have b594 := Bd.o hB (show isO 112 97 12 = true from rfl) (show bnd 12 9 = some _ from rfl)
          have d595 : (((M 97 16).toInt) : Int) < ((M 97 9).toInt) := ci_nle rfl rfl c582
          refine ⟨vp_of (a := (M 97 16).toInt) rfl (by omega) (by omega), ?_⟩
          refine w_X12_isLetter ?_
          refine ⟨fun c596 => ?_, fun c596 => ?_⟩
          · skip
            have d597 : (((((M 101 (Int32.toNatClampNeg (M 97 16))) &&& 255) : Int32).toInt) : Int) < (97) := ci_lt rfl rfl c596
            refine ⟨Or.inl rfl, ?_⟩
            intro o598
            refine ⟨fun c599 => ?_, fun c599 => ?_⟩
            · skip
              have hB600 : Bd (uI M 97 18 ((M 97 16) - (M 97 15))) := Bd.o0 hB (show isO 112 97 12 = true from rfl) (by omega) (show bnd 12 18 = none from rfl)
              have b601 := Bd.o hB0 (show isO 112 97 12 = true from rfl) (show bnd 12 14 = some _ from rfl)
              have b602 := Bd.o hB0 (show isO 112 97 12 = true from rfl) (show bnd 12 16 = some _ from rfl)
              have b603 := Bd.o hB (show isO 112 97 12 = true from rfl) (show bnd 12 14 = some _ from rfl)
              have e604 : (((uI M 97 18 ((M 97 16) - (M 97 15))) 97 14) : Int32).toInt = (M 97 14).toInt := Eq.trans (congrArg Int32.toInt (rd_k (by decide))) rfl
              have e605 : (((uI M 97 18 ((M 97 16) - (M 97 15))) 97 16) : Int32).toInt = (M 97 16).toInt := Eq.trans (congrArg Int32.toInt (rd_k (by decide))) rfl
              exact hQ _ _ _ _ hB600 ⟨(Eq.trans (rd_k (by decide)) hk_97_12), (Eq.trans (rd_k (by decide)) hk_97_27), (by have q3 : (((uI M 97 18 ((M 97 16) - (M 97 15))) 97 14) : Int32).toInt = (M 97 14).toInt := e604; have q4 : (((uI M 97 18 ((M 97 16) - (M 97 15))) 97 16) : Int32).toInt = (M 97 16).toInt := e605; omega)⟩
            · exact absurd c599 (by decide)
          · skip
            have d606 : ((97) : Int) ≤ ((((M 101 (Int32.toNatClampNeg (M 97 16))) &&& 255) : Int32).toInt) := ci_nlt rfl rfl c596
            refine ⟨fun c607 => ?_, fun c607 => ?_⟩
            · skip
              have d608 : ((122) : Int) < ((((M 101 (Int32.toNatClampNeg (M 97 16))) &&& 255) : Int32).toInt) := ci_lt rfl rfl c607
              refine ⟨Or.inl rfl, ?_⟩
              intro o609
              refine ⟨fun c610 => ?_, fun c610 => ?_⟩
              · skip
                have hB611 : Bd (uI M 97 18 ((M 97 16) - (M 97 15))) := Bd.o0 hB (show isO 112 97 12 = true from rfl) (by omega) (show bnd 12 18 = none from rfl)
                have b612 := Bd.o hB0 (show isO 112 97 12 = true from rfl) (show bnd 12 14 = some _ from rfl)
                have b613 := Bd.o hB0 (show isO 112 97 12 = true from rfl) (show bnd 12 16 = some _ from rfl)
                have b614 := Bd.o hB (show isO 112 97 12 = true from rfl) (show bnd 12 14 = some _ from rfl)
                have e615 : (((uI M 97 18 ((M 97 16) - (M 97 15))) 97 14) : Int32).toInt = (M 97 14).toInt := Eq.trans (congrArg Int32.toInt (rd_k (by decide))) rfl
                have e616 : (((uI M 97 18 ((M 97 16) - (M 97 15))) 97 16) : Int32).toInt = (M 97 16).toInt := Eq.trans (congrArg Int32.toInt (rd_k (by decide))) rfl
                exact hQ _ _ _ _ hB611 ⟨(Eq.trans (rd_k (by decide)) hk_97_12), (Eq.trans (rd_k (by decide)) hk_97_27), (by have q3 : (((uI M 97 18 ((M 97 16) - (M 97 15))) 97 14) : Int32).toInt = (M 97 14).toInt := e615; have q4 : (((uI M 97 18 ((M 97 16) - (M 97 15))) 97 16) : Int32).toInt = (M 97 16).toInt := e616; omega)⟩
              · exact absurd c610 (by decide)
            · skip
              have d617 : (((((M 101 (Int32.toNatClampNeg (M 97 16))) &&& 255) : Int32).toInt) : Int) ≤ (122) := ci_nlt rfl rfl c607
              refine ⟨Or.inr rfl, ?_⟩
              intro o618
              refine ⟨fun c619 => ?_, fun c619 => ?_⟩
              · exact absurd c619 (by decide)
              · skip
                refine ⟨fun c620 => ?_, fun c620 => ?_⟩
                · skip
                  have e621 : (((M 97 16) - (M 97 15)) : Int32).toInt = ((M 97 16).toInt) - ((M 97 15).toInt) := ti_sub rfl rfl (by omega)
                  have d622 : ((8) : Int) ≤ (((M 97 16).toInt - (M 97 15).toInt)) := ci_le rfl e621 c620
                  have e624 : (((M 97 16) + 1) : Int32).toInt = ((M 97 16).toInt) + (1) := ti_add rfl rfl (by omega)
                  have hB623 : Bd (uI M 97 16 ((M 97 16) + 1)) := Bd.o1 hB (show isO 112 97 12 = true from rfl) (by omega) (show bnd 12 16 = some _ from rfl) (show (((M 97 16) + 1) : Int32).toInt = ((M 97 16).toInt + 1) from e624) (by omega)
                  have e625 : (((uI M 97 16 ((M 97 16) + 1)) 97 15) : Int32).toInt = (M 97 15).toInt := Eq.trans (congrArg Int32.toInt (rd_k (by decide))) rfl
                  have e626 : (((uI M 97 16 ((M 97 16) + 1)) 97 16) : Int32).toInt = ((M 97 16).toInt + 1) := Eq.trans (congrArg Int32.toInt rd_eq) e624
                  exact ih.2.2.1 _ _ hB623 (Eq.trans (rd_k (by decide)) hk_97_12) (Eq.trans (rd_k (by decide)) hk_97_27) (by have q0 : (((uI M 97 16 ((M 97 16) + 1)) 97 15) : Int32).toInt = (M 97 15).toInt := e625; have q1 : (((uI M 97 16 ((M 97 16) + 1)) 97 15) : Int32).toInt = (M 97 15).toInt := e625; have q2 : (((uI M 97 16 ((M 97 16) + 1)) 97 16) : Int32).toInt = ((M 97 16).toInt + 1) := e626; have q3 : (((uI M 97 16 ((M 97 16) + 1)) 97 15) : Int32).toInt = (M 97 15).toInt := e625; have q4 : (((uI M 97 16 ((M 97 16) + 1)) 97 16) : Int32).toInt = ((M 97 16).toInt + 1) := e626; have q5 : (((uI M 97 16 ((M 97 16) + 1)) 97 16) : Int32).toInt = ((M 97 16).toInt + 1) := e626; omega) (by have q0 : (((uI M 97 16 ((M 97 16) + 1)) 97 16) : Int32).toInt = ((M 97 16).toInt + 1) := e626; omega)
                · skip
                  have e627 : (((M 97 16) - (M 97 15)) : Int32).toInt = ((M 97 16).toInt) - ((M 97 15).toInt) := ti_sub rfl rfl (by omega)
                  have d628 : ((((M 97 16).toInt - (M 97 15).toInt)) : Int) < (8) := ci_nle rfl e627 c620
                  refine w_X12_look2 ?_
                  refine ⟨fun c629 => ?_, fun c629 => ?_⟩
                  · skip
                    have d630 : (((M 97 9).toInt) : Int) ≤ ((M 97 16).toInt) := ci_le rfl rfl c629
                    have e632 : (((M 97 16) + 1) : Int32).toInt = ((M 97 16).toInt) + (1) := ti_add rfl rfl (by omega)
                    have hB631 : Bd (uI M 97 16 ((M 97 16) + 1)) := Bd.o1 hB (show isO 112 97 12 = true from rfl) (by omega) (show bnd 12 16 = some _ from rfl) (show (((M 97 16) + 1) : Int32).toInt = ((M 97 16).toInt + 1) from e632) (by omega)
                    have e633 : (((uI M 97 16 ((M 97 16) + 1)) 97 15) : Int32).toInt = (M 97 15).toInt := Eq.trans (congrArg Int32.toInt (rd_k (by decide))) rfl
                    have e634 : (((uI M 97 16 ((M 97 16) + 1)) 97 16) : Int32).toInt = ((M 97 16).toInt + 1) := Eq.trans (congrArg Int32.toInt rd_eq) e632
                    exact ih.2.2.1 _ _ hB631 (Eq.trans (rd_k (by decide)) hk_97_12) (Eq.trans (rd_k (by decide)) hk_97_27) (by have q0 : (((uI M 97 16 ((M 97 16) + 1)) 97 15) : Int32).toInt = (M 97 15).toInt := e633; have q1 : (((uI M 97 16 ((M 97 16) + 1)) 97 15) : Int32).toInt = (M 97 15).toInt := e633; have q2 : (((uI M 97 16 ((M 97 16) + 1)) 97 16) : Int32).toInt = ((M 97 16).toInt + 1) := e634; have q3 : (((uI M 97 16 ((M 97 16) + 1)) 97 15) : Int32).toInt = (M 97 15).toInt := e633; have q4 : (((uI M 97 16 ((M 97 16) + 1)) 97 16) : Int32).toInt = ((M 97 16).toInt + 1) := e634; have q5 : (((uI M 97 16 ((M 97 16) + 1)) 97 16) : Int32).toInt = ((M 97 16).toInt + 1) := e634; omega) (by have q0 : (((uI M 97 16 ((M 97 16) + 1)) 97 16) : Int32).toInt = ((M 97 16).toInt + 1) := e634; omega)
                  · skip
                    have d635 : (((M 97 16).toInt) : Int) < ((M 97 9).toInt) := ci_nle rfl rfl c629
                    refine ⟨vp_of (a := (M 97 16).toInt) rfl (by omega) (by omega), ?_⟩
                    have e637 : (((M 97 16) + 1) : Int32).toInt = ((M 97 16).toInt) + (1) := ti_add rfl rfl (by omega)
                    have hB636 : Bd (uI M 97 16 ((M 97 16) + 1)) := Bd.o1 hB (show isO 112 97 12 = true from rfl) (by omega) (show bnd 12 16 = some _ from rfl) (show (((M 97 16) + 1) : Int32).toInt = ((M 97 16).toInt + 1) from e637) (by omega)
                    have e638 : (((uI M 97 16 ((M 97 16) + 1)) 97 15) : Int32).toInt = (M 97 15).toInt := Eq.trans (congrArg Int32.toInt (rd_k (by decide))) rfl
                    have e639 : (((uI M 97 16 ((M 97 16) + 1)) 97 16) : Int32).toInt = ((M 97 16).toInt + 1) := Eq.trans (congrArg Int32.toInt rd_eq) e637
                    exact ih.2.2.1 _ _ hB636 (Eq.trans (rd_k (by decide)) hk_97_12) (Eq.trans (rd_k (by decide)) hk_97_27) (by have q0 : (((uI M 97 16 ((M 97 16) + 1)) 97 15) : Int32).toInt = (M 97 15).toInt := e638; have q1 : (((uI M 97 16 ((M 97 16) + 1)) 97 15) : Int32).toInt = (M 97 15).toInt := e638; have q2 : (((uI M 97 16 ((M 97 16) + 1)) 97 16) : Int32).toInt = ((M 97 16).toInt + 1) := e639; have q3 : (((uI M 97 16 ((M 97 16) + 1)) 97 15) : Int32).toInt = (M 97 15).toInt := e638; have q4 : (((uI M 97 16 ((M 97 16) + 1)) 97 16) : Int32).toInt = ((M 97 16).toInt + 1) := e639; have q5 : (((uI M 97 16 ((M 97 16) + 1)) 97 16) : Int32).toInt = ((M 97 16).toInt + 1) := e639; omega) (by have q0 : (((uI M 97 16 ((M 97 16) + 1)) 97 16) : Int32).toInt = ((M 97 16).toInt + 1) := e639; omega)
      · skip
        intro  M J hB hk_97_12 hk_97_27 hi hm
        refine sg_X12_advance_210 hc _ _ _ ?_
        have b640 := Bd.o hB (show isO 112 97 12 = true from rfl) (show bnd 12 15 = some _ from rfl)
        have b641 := Bd.o hB (show isO 112 97 12 = true from rfl) (show bnd 12 16 = some _ from rfl)
        refine w_X12_look2 ?_
        refine ⟨fun c642 => ?_, fun c642 => ?_⟩
        · skip
          have b643 := Bd.o hB (show isO 112 97 12 = true from rfl) (show bnd 12 9 = some _ from rfl)
          have d644 : (((M 97 9).toInt) : Int) ≤ ((M 97 16).toInt) := ci_le rfl rfl c642
          refine w_X12_isDigit ?_
          refine ⟨fun c645 => ?_, fun c645 => ?_⟩
          · skip
            refine ⟨Or.inl rfl, ?_⟩
            intro o646
            refine ⟨fun c647 => ?_, fun c647 => ?_⟩
            · skip
              refine ⟨fun c648 => ?_, fun c648 => ?_⟩
              · skip
                have e649 : (((M 97 16) - (M 97 15)) : Int32).toInt = ((M 97 16).toInt) - ((M 97 15).toInt) := ti_sub rfl rfl (by omega)
                have d650 : ((((M 97 16).toInt - (M 97 15).toInt)) : Int) ≤ (4) := ci_le e649 rfl c648
                have hB651 : Bd (uI M 97 14 2) := Bd.o1 hB (show isO 112 97 12 = true from rfl) (by omega) (show bnd 12 14 = some _ from rfl) (show (2 : Int32).toInt = 2 from rfl) (by omega)
                have b652 := Bd.o hB0 (show isO 112 97 12 = true from rfl) (show bnd 12 14 = some _ from rfl)
                have b653 := Bd.o hB0 (show isO 112 97 12 = true from rfl) (show bnd 12 16 = some _ from rfl)
                have e654 : (((uI M 97 14 2) 97 14) : Int32).toInt = 2 := Eq.trans (congrArg Int32.toInt rd_eq) rfl
                have e655 : (((uI M 97 14 2) 97 16) : Int32).toInt = (M 97 16).toInt := Eq.trans (congrArg Int32.toInt (rd_k (by decide))) rfl
                exact hQ _ _ _ _ hB651 ⟨(Eq.trans (rd_k (by decide)) hk_97_12), (Eq.trans (rd_k (by decide)) hk_97_27), (by have q3 : (((uI M 97 14 2) 97 14) : Int32).toInt = 2 := e654; have q4 : (((uI M 97 14 2) 97 16) : Int32).toInt = (M 97 16).toInt := e655; omega)⟩
              · skip
                have e656 : (((M 97 16) - (M 97 15)) : Int32).toInt = ((M 97 16).toInt) - ((M 97 15).toInt) := ti_sub rfl rfl (by omega)
                have d657 : ((4) : Int) < (((M 97 16).toInt - (M 97 15).toInt)) := ci_nle e656 rfl c648
                have hB658 : Bd (uI M 97 14 4) := Bd.o1 hB (show isO 112 97 12 = true from rfl) (by omega) (show bnd 12 14 = some _ from rfl) (show (4 : Int32).toInt = 4 from rfl) (by omega)
                have b659 := Bd.o hB0 (show isO 112 97 12 = true from rfl) (show bnd 12 14 = some _ from rfl)
                have b660 := Bd.o hB0 (show isO 112 97 12 = true from rfl) (show bnd 12 16 = some _ from rfl)
                have e661 : (((uI M 97 14 4) 97 14) : Int32).toInt = 4 := Eq.trans (congrArg Int32.toInt rd_eq) rfl
                have e662 : (((uI M 97 14 4) 97 16) : Int32).toInt = (M 97 16).toInt := Eq.trans (congrArg Int32.toInt (rd_k (by decide))) rfl
                exact hQ _ _ _ _ hB658 ⟨(Eq.trans (rd_k (by decide)) hk_97_12), (Eq.trans (rd_k (by decide)) hk_97_27), (by have q3 : (((uI M 97 14 4) 97 14) : Int32).toInt = 4 := e661; have q4 : (((uI M 97 14 4) 97 16) : Int32).toInt = (M 97 16).toInt := e662; omega)⟩
            · exact absurd c647 (by decide)
          · exact absurd c645 (by decide)
        · skip
          have b663 := Bd.o hB (show isO 112 97 12 = true from rfl) (show bnd 12 9 = some _ from rfl)
          have d664 : (((M 97 16).toInt) : Int) < ((M 97 9).toInt) := ci_nle rfl rfl c642
          refine ⟨vp_of (a := (M 97 16).toInt) rfl (by omega) (by omega), ?_⟩
          refine w_X12_isDigit ?_
          refine ⟨fun c665 => ?_, fun c665 => ?_⟩
          · skip
            have d666 : (((((M 101 (Int32.toNatClampNeg (M 97 16))) &&& 255) : Int32).toInt) : Int) < (48) := ci_lt rfl rfl c665
            refine ⟨Or.inl rfl, ?_⟩
            intro o667
            refine ⟨fun c668 => ?_, fun c668 => ?_⟩
            · skip
              refine ⟨fun c669 => ?_, fun c669 => ?_⟩
              · skip
                have e670 : (((M 97 16) - (M 97 15)) : Int32).toInt = ((M 97 16).toInt) - ((M 97 15).toInt) := ti_sub rfl rfl (by omega)
                have d671 : ((((M 97 16).toInt - (M 97 15).toInt)) : Int) ≤ (4) := ci_le e670 rfl c669
                have hB672 : Bd (uI M 97 14 2) := Bd.o1 hB (show isO 112 97 12 = true from rfl) (by omega) (show bnd 12 14 = some _ from rfl) (show (2 : Int32).toInt = 2 from rfl) (by omega)
                have b673 := Bd.o hB0 (show isO 112 97 12 = true from rfl) (show bnd 12 14 = some _ from rfl)
                have b674 := Bd.o hB0 (show isO 112 97 12 = true from rfl) (show bnd 12 16 = some _ from rfl)
                have e675 : (((uI M 97 14 2) 97 14) : Int32).toInt = 2 := Eq.trans (congrArg Int32.toInt rd_eq) rfl
                have e676 : (((uI M 97 14 2) 97 16) : Int32).toInt = (M 97 16).toInt := Eq.trans (congrArg Int32.toInt (rd_k (by decide))) rfl
                exact hQ _ _ _ _ hB672 ⟨(Eq.trans (rd_k (by decide)) hk_97_12), (Eq.trans (rd_k (by decide)) hk_97_27), (by have q3 : (((uI M 97 14 2) 97 14) : Int32).toInt = 2 := e675; have q4 : (((uI M 97 14 2) 97 16) : Int32).toInt = (M 97 16).toInt := e676; omega)⟩
              · skip
                have e677 : (((M 97 16) - (M 97 15)) : Int32).toInt = ((M 97 16).toInt) - ((M 97 15).toInt) := ti_sub rfl rfl (by omega)
                have d678 : ((4) : Int) < (((M 97 16).toInt - (M 97 15).toInt)) := ci_nle e677 rfl c669
                have hB679 : Bd (uI M 97 14 4) := Bd.o1 hB (show isO 112 97 12 = true from rfl) (by omega) (show bnd 12 14 = some _ from rfl) (show (4 : Int32).toInt = 4 from rfl) (by omega)
                have b680 := Bd.o hB0 (show isO 112 97 12 = true from rfl) (show bnd 12 14 = some _ from rfl)
                have b681 := Bd.o hB0 (show isO 112 97 12 = true from rfl) (show bnd 12 16 = some _ from rfl)
                have e682 : (((uI M 97 14 4) 97 14) : Int32).toInt = 4 := Eq.trans (congrArg Int32.toInt rd_eq) rfl
                have e683 : (((uI M 97 14 4) 97 16) : Int32).toInt = (M 97 16).toInt := Eq.trans (congrArg Int32.toInt (rd_k (by decide))) rfl
                exact hQ _ _ _ _ hB679 ⟨(Eq.trans (rd_k (by decide)) hk_97_12), (Eq.trans (rd_k (by decide)) hk_97_27), (by have q3 : (((uI M 97 14 4) 97 14) : Int32).toInt = 4 := e682; have q4 : (((uI M 97 14 4) 97 16) : Int32).toInt = (M 97 16).toInt := e683; omega)⟩
            · exact absurd c668 (by decide)
          · skip
            have d684 : ((48) : Int) ≤ ((((M 101 (Int32.toNatClampNeg (M 97 16))) &&& 255) : Int32).toInt) := ci_nlt rfl rfl c665
            refine ⟨fun c685 => ?_, fun c685 => ?_⟩
            · skip
              have d686 : ((57) : Int) < ((((M 101 (Int32.toNatClampNeg (M 97 16))) &&& 255) : Int32).toInt) := ci_lt rfl rfl c685
              refine ⟨Or.inl rfl, ?_⟩
              intro o687
              refine ⟨fun c688 => ?_, fun c688 => ?_⟩
              · skip
                refine ⟨fun c689 => ?_, fun c689 => ?_⟩
                · skip
                  have e690 : (((M 97 16) - (M 97 15)) : Int32).toInt = ((M 97 16).toInt) - ((M 97 15).toInt) := ti_sub rfl rfl (by omega)
                  have d691 : ((((M 97 16).toInt - (M 97 15).toInt)) : Int) ≤ (4) := ci_le e690 rfl c689
                  have hB692 : Bd (uI M 97 14 2) := Bd.o1 hB (show isO 112 97 12 = true from rfl) (by omega) (show bnd 12 14 = some _ from rfl) (show (2 : Int32).toInt = 2 from rfl) (by omega)
                  have b693 := Bd.o hB0 (show isO 112 97 12 = true from rfl) (show bnd 12 14 = some _ from rfl)
                  have b694 := Bd.o hB0 (show isO 112 97 12 = true from rfl) (show bnd 12 16 = some _ from rfl)
                  have e695 : (((uI M 97 14 2) 97 14) : Int32).toInt = 2 := Eq.trans (congrArg Int32.toInt rd_eq) rfl
                  have e696 : (((uI M 97 14 2) 97 16) : Int32).toInt = (M 97 16).toInt := Eq.trans (congrArg Int32.toInt (rd_k (by decide))) rfl
                  exact hQ _ _ _ _ hB692 ⟨(Eq.trans (rd_k (by decide)) hk_97_12), (Eq.trans (rd_k (by decide)) hk_97_27), (by have q3 : (((uI M 97 14 2) 97 14) : Int32).toInt = 2 := e695; have q4 : (((uI M 97 14 2) 97 16) : Int32).toInt = (M 97 16).toInt := e696; omega)⟩
                · skip
                  have e697 : (((M 97 16) - (M 97 15)) : Int32).toInt = ((M 97 16).toInt) - ((M 97 15).toInt) := ti_sub rfl rfl (by omega)
                  have d698 : ((4) : Int) < (((M 97 16).toInt - (M 97 15).toInt)) := ci_nle e697 rfl c689
                  have hB699 : Bd (uI M 97 14 4) := Bd.o1 hB (show isO 112 97 12 = true from rfl) (by omega) (show bnd 12 14 = some _ from rfl) (show (4 : Int32).toInt = 4 from rfl) (by omega)
                  have b700 := Bd.o hB0 (show isO 112 97 12 = true from rfl) (show bnd 12 14 = some _ from rfl)
                  have b701 := Bd.o hB0 (show isO 112 97 12 = true from rfl) (show bnd 12 16 = some _ from rfl)
                  have e702 : (((uI M 97 14 4) 97 14) : Int32).toInt = 4 := Eq.trans (congrArg Int32.toInt rd_eq) rfl
                  have e703 : (((uI M 97 14 4) 97 16) : Int32).toInt = (M 97 16).toInt := Eq.trans (congrArg Int32.toInt (rd_k (by decide))) rfl
                  exact hQ _ _ _ _ hB699 ⟨(Eq.trans (rd_k (by decide)) hk_97_12), (Eq.trans (rd_k (by decide)) hk_97_27), (by have q3 : (((uI M 97 14 4) 97 14) : Int32).toInt = 4 := e702; have q4 : (((uI M 97 14 4) 97 16) : Int32).toInt = (M 97 16).toInt := e703; omega)⟩
              · exact absurd c688 (by decide)
            · skip
              have d704 : (((((M 101 (Int32.toNatClampNeg (M 97 16))) &&& 255) : Int32).toInt) : Int) ≤ (57) := ci_nlt rfl rfl c685
              refine ⟨Or.inr rfl, ?_⟩
              intro o705
              refine ⟨fun c706 => ?_, fun c706 => ?_⟩
              · exact absurd c706 (by decide)
              · skip
                refine ⟨fun c707 => ?_, fun c707 => ?_⟩
                · skip
                  have e708 : (((M 97 16) - (M 97 15)) : Int32).toInt = ((M 97 16).toInt) - ((M 97 15).toInt) := ti_sub rfl rfl (by omega)
                  have d709 : ((4) : Int) ≤ (((M 97 16).toInt - (M 97 15).toInt)) := ci_le rfl e708 c707
                  have e711 : (((M 97 16) + 1) : Int32).toInt = ((M 97 16).toInt) + (1) := ti_add rfl rfl (by omega)
                  have hB710 : Bd (uI M 97 16 ((M 97 16) + 1)) := Bd.o1 hB (show isO 112 97 12 = true from rfl) (by omega) (show bnd 12 16 = some _ from rfl) (show (((M 97 16) + 1) : Int32).toInt = ((M 97 16).toInt + 1) from e711) (by omega)
                  have e712 : (((uI M 97 16 ((M 97 16) + 1)) 97 15) : Int32).toInt = (M 97 15).toInt := Eq.trans (congrArg Int32.toInt (rd_k (by decide))) rfl
                  have e713 : (((uI M 97 16 ((M 97 16) + 1)) 97 16) : Int32).toInt = ((M 97 16).toInt + 1) := Eq.trans (congrArg Int32.toInt rd_eq) e711
                  exact ih.2.2.2 _ _ hB710 (Eq.trans (rd_k (by decide)) hk_97_12) (Eq.trans (rd_k (by decide)) hk_97_27) (by have q0 : (((uI M 97 16 ((M 97 16) + 1)) 97 15) : Int32).toInt = (M 97 15).toInt := e712; have q1 : (((uI M 97 16 ((M 97 16) + 1)) 97 15) : Int32).toInt = (M 97 15).toInt := e712; have q2 : (((uI M 97 16 ((M 97 16) + 1)) 97 16) : Int32).toInt = ((M 97 16).toInt + 1) := e713; have q3 : (((uI M 97 16 ((M 97 16) + 1)) 97 16) : Int32).toInt = ((M 97 16).toInt + 1) := e713; omega) (by have q0 : (((uI M 97 16 ((M 97 16) + 1)) 97 16) : Int32).toInt = ((M 97 16).toInt + 1) := e713; omega)
                · skip
                  have e714 : (((M 97 16) - (M 97 15)) : Int32).toInt = ((M 97 16).toInt) - ((M 97 15).toInt) := ti_sub rfl rfl (by omega)
                  have d715 : ((((M 97 16).toInt - (M 97 15).toInt)) : Int) < (4) := ci_nle rfl e714 c707
                  refine w_X12_look2 ?_
                  refine ⟨fun c716 => ?_, fun c716 => ?_⟩
                  · skip
                    have d717 : (((M 97 9).toInt) : Int) ≤ ((M 97 16).toInt) := ci_le rfl rfl c716
                    have hB718 : Bd (uI M 97 17 (((10 * (M 97 17)) + 0) - 48)) := Bd.o0 hB (show isO 112 97 12 = true from rfl) (by omega) (show bnd 12 17 = none from rfl)
                    have e720 : (((uI M 97 17 (((10 * (M 97 17)) + 0) - 48)) 97 16) : Int32).toInt = (M 97 16).toInt := Eq.trans (congrArg Int32.toInt (rd_k (by decide))) rfl
                    have e721 : ((((uI M 97 17 (((10 * (M 97 17)) + 0) - 48)) 97 16) + 1) : Int32).toInt = ((M 97 16).toInt) + (1) := ti_add e720 rfl (by omega)
                    have hB719 : Bd (uI (uI M 97 17 (((10 * (M 97 17)) + 0) - 48)) 97 16 (((uI M 97 17 (((10 * (M 97 17)) + 0) - 48)) 97 16) + 1)) := Bd.o1 hB718 (show isO 112 97 12 = true from rfl) (by omega) (show bnd 12 16 = some _ from rfl) (show ((((uI M 97 17 (((10 * (M 97 17)) + 0) - 48)) 97 16) + 1) : Int32).toInt = ((M 97 16).toInt + 1) from e721) (by omega)
                    have e722 : (((uI (uI M 97 17 (((10 * (M 97 17)) + 0) - 48)) 97 16 (((uI M 97 17 (((10 * (M 97 17)) + 0) - 48)) 97 16) + 1)) 97 15) : Int32).toInt = (M 97 15).toInt := Eq.trans (congrArg Int32.toInt (Eq.trans (rd_k (by decide)) (rd_k (by decide)))) rfl
                    have e723 : (((uI (uI M 97 17 (((10 * (M 97 17)) + 0) - 48)) 97 16 (((uI M 97 17 (((10 * (M 97 17)) + 0) - 48)) 97 16) + 1)) 97 16) : Int32).toInt = ((M 97 16).toInt + 1) := Eq.trans (congrArg Int32.toInt rd_eq) e721
                    exact ih.2.2.2 _ _ hB719 (Eq.trans (Eq.trans (rd_k (by decide)) (rd_k (by decide))) hk_97_12) (Eq.trans (Eq.trans (rd_k (by decide)) (rd_k (by decide))) hk_97_27) (by have q0 : (((uI (uI M 97 17 (((10 * (M 97 17)) + 0) - 48)) 97 16 (((uI M 97 17 (((10 * (M 97 17)) + 0) - 48)) 97 16) + 1)) 97 15) : Int32).toInt = (M 97 15).toInt := e722; have q1 : (((uI (uI M 97 17 (((10 * (M 97 17)) + 0) - 48)) 97 16 (((uI M 97 17 (((10 * (M 97 17)) + 0) - 48)) 97 16) + 1)) 97 15) : Int32).toInt = (M 97 15).toInt := e722; have q2 : (((uI (uI M 97 17 (((10 * (M 97 17)) + 0) - 48)) 97 16 (((uI M 97 17 (((10 * (M 97 17)) + 0) - 48)) 97 16) + 1)) 97 16) : Int32).toInt = ((M 97 16).toInt + 1) := e723; have q3 : (((uI (uI M 97 17 (((10 * (M 97 17)) + 0) - 48)) 97 16 (((uI M 97 17 (((10 * (M 97 17)) + 0) - 48)) 97 16) + 1)) 97 16) : Int32).toInt = ((M 97 16).toInt + 1) := e723; omega) (by have q0 : (((uI (uI M 97 17 (((10 * (M 97 17)) + 0) - 48)) 97 16 (((uI M 97 17 (((10 * (M 97 17)) + 0) - 48)) 97 16) + 1)) 97 16) : Int32).toInt = ((M 97 16).toInt + 1) := e723; omega)
                  · skip
                    have d724 : (((M 97 16).toInt) : Int) < ((M 97 9).toInt) := ci_nle rfl rfl c716
                    refine ⟨vp_of (a := (M 97 16).toInt) rfl (by omega) (by omega), ?_⟩
                    have hB725 : Bd (uI M 97 17 (((10 * (M 97 17)) + ((M 101 (Int32.toNatClampNeg (M 97 16))) &&& 255)) - 48)) := Bd.o0 hB (show isO 112 97 12 = true from rfl) (by omega) (show bnd 12 17 = none from rfl)
                    have e727 : (((uI M 97 17 (((10 * (M 97 17)) + ((M 101 (Int32.toNatClampNeg (M 97 16))) &&& 255)) - 48)) 97 16) : Int32).toInt = (M 97 16).toInt := Eq.trans (congrArg Int32.toInt (rd_k (by decide))) rfl
                    have e728 : ((((uI M 97 17 (((10 * (M 97 17)) + ((M 101 (Int32.toNatClampNeg (M 97 16))) &&& 255)) - 48)) 97 16) + 1) : Int32).toInt = ((M 97 16).toInt) + (1) := ti_add e727 rfl (by omega)
                    have hB726 : Bd (uI (uI M 97 17 (((10 * (M 97 17)) + ((M 101 (Int32.toNatClampNeg (M 97 16))) &&& 255)) - 48)) 97 16 (((uI M 97 17 (((10 * (M 97 17)) + ((M 101 (Int32.toNatClampNeg (M 97 16))) &&& 255)) - 48)) 97 16) + 1)) := Bd.o1 hB725 (show isO 112 97 12 = true from rfl) (by omega) (show bnd 12 16 = some _ from rfl) (show ((((uI M 97 17 (((10 * (M 97 17)) + ((M 101 (Int32.toNatClampNeg (M 97 16))) &&& 255)) - 48)) 97 16) + 1) : Int32).toInt = ((M 97 16).toInt + 1) from e728) (by omega)
                    have e729 : (((uI (uI M 97 17 (((10 * (M 97 17)) + ((M 101 (Int32.toNatClampNeg (M 97 16))) &&& 255)) - 48)) 97 16 (((uI M 97 17 (((10 * (M 97 17)) + ((M 101 (Int32.toNatClampNeg (M 97 16))) &&& 255)) - 48)) 97 16) + 1)) 97 15) : Int32).toInt = (M 97 15).toInt := Eq.trans (congrArg Int32.toInt (Eq.trans (rd_k (by decide)) (rd_k (by decide)))) rfl
                    have e730 : (((uI (uI M 97 17 (((10 * (M 97 17)) + ((M 101 (Int32.toNatClampNeg (M 97 16))) &&& 255)) - 48)) 97 16 (((uI M 97 17 (((10 * (M 97 17)) + ((M 101 (Int32.toNatClampNeg (M 97 16))) &&& 255)) - 48)) 97 16) + 1)) 97 16) : Int32).toInt = ((M 97 16).toInt + 1) := Eq.trans (congrArg Int32.toInt rd_eq) e728
                    exact ih.2.2.2 _ _ hB726 (Eq.trans (Eq.trans (rd_k (by decide)) (rd_k (by decide))) hk_97_12) (Eq.trans (Eq.trans (rd_k (by decide)) (rd_k (by decide))) hk_97_27) (by have q0 : (((uI (uI M 97 17 (((10 * (M 97 17)) + ((M 101 (Int32.toNatClampNeg (M 97 16))) &&& 255)) - 48)) 97 16 (((uI M 97 17 (((10 * (M 97 17)) + ((M 101 (Int32.toNatClampNeg (M 97 16))) &&& 255)) - 48)) 97 16) + 1)) 97 15) : Int32).toInt = (M 97 15).toInt := e729; have q1 : (((uI (uI M 97 17 (((10 * (M 97 17)) + ((M 101 (Int32.toNatClampNeg (M 97 16))) &&& 255)) - 48)) 97 16 (((uI M 97 17 (((10 * (M 97 17)) + ((M 101 (Int32.toNatClampNeg (M 97 16))) &&& 255)) - 48)) 97 16) + 1)) 97 15) : Int32).toInt = (M 97 15).toInt := e729; have q2 : (((uI (uI M 97 17 (((10 * (M 97 17)) + ((M 101 (Int32.toNatClampNeg (M 97 16))) &&& 255)) - 48)) 97 16 (((uI M 97 17 (((10 * (M 97 17)) + ((M 101 (Int32.toNatClampNeg (M 97 16))) &&& 255)) - 48)) 97 16) + 1)) 97 16) : Int32).toInt = ((M 97 16).toInt + 1) := e730; have q3 : (((uI (uI M 97 17 (((10 * (M 97 17)) + ((M 101 (Int32.toNatClampNeg (M 97 16))) &&& 255)) - 48)) 97 16 (((uI M 97 17 (((10 * (M 97 17)) + ((M 101 (Int32.toNatClampNeg (M 97 16))) &&& 255)) - 48)) 97 16) + 1)) 97 16) : Int32).toInt = ((M 97 16).toInt + 1) := e730; omega) (by have q0 : (((uI (uI M 97 17 (((10 * (M 97 17)) + ((M 101 (Int32.toNatClampNeg (M 97 16))) &&& 255)) - 48)) 97 16 (((uI M 97 17 (((10 * (M 97 17)) + ((M 101 (Int32.toNatClampNeg (M 97 16))) &&& 255)) - 48)) 97 16) + 1)) 97 16) : Int32).toInt = ((M 97 16).toInt + 1) := e730; omega)
  refine sg_X12_advance_0 hc _ _ _ ?_
  have b732 := Bd.o hB0 (show isO 112 97 12 = true from rfl) (show bnd 12 16 = some _ from rfl)
  have hB731 : Bd (uI I 97 15 (I 97 16)) := Bd.o1 hB0 (show isO 112 97 12 = true from rfl) (by omega) (show bnd 12 15 = some _ from rfl) (show ((I 97 16) : Int32).toInt = (I 97 16).toInt from rfl) (by omega)
  have e733 : (((uI I 97 15 (I 97 16)) 97 15) : Int32).toInt = (I 97 16).toInt := Eq.trans (congrArg Int32.toInt rd_eq) rfl
  exact (L 1000000).1 _ _ hB731 (rd_k (by decide)) (rd_k (by decide)) (by have q0 : (((uI I 97 15 (I 97 16)) 97 15) : Int32).toInt = (I 97 16).toInt := e733; have q1 : (((uI I 97 15 (I 97 16)) 97 15) : Int32).toInt = (I 97 16).toInt := e733; omega) (by have q0 : (((uI I 97 15 (I 97 16)) 97 15) : Int32).toInt = (I 97 16).toInt := e733; omega)
set_option maxHeartbeats 2000000 in
theorem sp_X12_spelled {d : Nat} {Q : Qt} {v0 : Int32} {v1 : Int32} {v2 : Int32} {v3 : Int32} {v4 : Int32} {I : Im} {J : Jm} {R : Rm} (hB0 : Bd I) (hR0 : RI R) (hQ : ∀ (x : Int32) (y : Int64) (I2 : Im) (J2 : Jm), Bd I2 → (I2 97 12 = I 97 12 ∧ I2 97 27 = I 97 27 ∧ I2 97 14 = I 97 14 ∧ I2 97 16 = I 97 16) → Q x y I2 J2 R) : AM (d + 1) 197 112 [.int v0, .int v1, .int v2, .int v3, .int v4] I J R Q := by
  have i_v0 := i32 v0
  have i_v1 := i32 v1
  have i_v2 := i32 v2
  have i_v3 := i32 v3
  have i_v4 := i32 v4
  refine am_X12_spelled (fun P hc => ?_)
  refine sg_X12_spelled_0 hc _ _ _ _ _ _ _ _ ?_
  refine ⟨fun c1 => ?_, fun c1 => ?_⟩
  · skip
    have d2 : ((v2.toInt) : Int) ≤ (0) := ci_le rfl rfl c1
    refine ⟨fun c3 => ?_, fun c3 => ?_⟩
    · skip
      have d4 : ((v3.toInt) : Int) ≤ (0) := ci_le rfl rfl c3
      refine ⟨fun c5 => ?_, fun c5 => ?_⟩
      · skip
        have d6 : ((v4.toInt) : Int) ≤ (0) := ci_le rfl rfl c5
        exact hQ _ _ _ _ hB0 ⟨rfl, rfl, rfl, rfl⟩
      · skip
        have d7 : ((0) : Int) < (v4.toInt) := ci_nle rfl rfl c5
        exact hQ _ _ _ _ hB0 ⟨rfl, rfl, rfl, rfl⟩
    · skip
      have d8 : ((0) : Int) < (v3.toInt) := ci_nle rfl rfl c3
      refine ⟨fun c9 => ?_, fun c9 => ?_⟩
      · skip
        have d10 : ((v4.toInt) : Int) ≤ (0) := ci_le rfl rfl c9
        exact hQ _ _ _ _ hB0 ⟨rfl, rfl, rfl, rfl⟩
      · skip
        have d11 : ((0) : Int) < (v4.toInt) := ci_nle rfl rfl c9
        exact hQ _ _ _ _ hB0 ⟨rfl, rfl, rfl, rfl⟩
  · skip
    have d12 : ((0) : Int) < (v2.toInt) := ci_nle rfl rfl c1
    refine ⟨fun c13 => ?_, fun c13 => ?_⟩
    · skip
      have d14 : ((v3.toInt) : Int) ≤ (0) := ci_le rfl rfl c13
      refine ⟨fun c15 => ?_, fun c15 => ?_⟩
      · skip
        have d16 : ((v4.toInt) : Int) ≤ (0) := ci_le rfl rfl c15
        exact hQ _ _ _ _ hB0 ⟨rfl, rfl, rfl, rfl⟩
      · skip
        have d17 : ((0) : Int) < (v4.toInt) := ci_nle rfl rfl c15
        exact hQ _ _ _ _ hB0 ⟨rfl, rfl, rfl, rfl⟩
    · skip
      have d18 : ((0) : Int) < (v3.toInt) := ci_nle rfl rfl c13
      refine ⟨fun c19 => ?_, fun c19 => ?_⟩
      · skip
        have d20 : ((v4.toInt) : Int) ≤ (0) := ci_le rfl rfl c19
        exact hQ _ _ _ _ hB0 ⟨rfl, rfl, rfl, rfl⟩
      · skip
        have d21 : ((0) : Int) < (v4.toInt) := ci_nle rfl rfl c19
        exact hQ _ _ _ _ hB0 ⟨rfl, rfl, rfl, rfl⟩
set_option maxHeartbeats 2000000 in
theorem sp_X12_isWord {d : Nat} {Q : Qt} {v1 : Int64} {I : Im} {J : Jm} {R : Rm} (hB0 : Bd I) (hR0 : RI R) (hQ : ∀ (x : Int32) (y : Int64) (I2 : Im) (J2 : Jm), Bd I2 → (I2 97 12 = I 97 12 ∧ I2 97 27 = I 97 27 ∧ I2 97 14 = I 97 14 ∧ I2 97 16 = I 97 16 ∧ (x.toInt = 0 ∨ (I 97 14).toInt = 1)) → Q x y I2 J2 R) : AM (d + 1) 198 112 [.ref 97, .long v1] I J R Q := by
  have i_v1 := i64 v1
  refine am_X12_isWord (fun P hc => ?_)
  refine sg_X12_isWord_0 hc _ _ _ _ ?_
  refine ⟨fun c1 => ?_, fun c1 => ?_⟩
  · skip
    have b2 := Bd.o hB0 (show isO 112 97 12 = true from rfl) (show bnd 12 14 = some _ from rfl)
    have d3 : ¬ (((I 97 14).toInt) : Int) = (1) := ci_ne rfl rfl c1
    refine ⟨Or.inl rfl, ?_⟩
    exact hQ _ _ _ _ hB0 ⟨rfl, rfl, rfl, rfl, (by have q0 : (0 : Int32).toInt = 0 := rfl; omega)⟩
  · skip
    have b4 := Bd.o hB0 (show isO 112 97 12 = true from rfl) (show bnd 12 14 = some _ from rfl)
    have d5 : (((I 97 14).toInt) : Int) = (1) := ci_eq rfl rfl c1
    refine ⟨fun c6 => ?_, fun c6 => ?_⟩
    · skip
      rw [lg_cmp_eq] at c6
      have d7 : ¬ ((((J 97 19) : Int64).toInt) : Int) = ((v1 : Int64).toInt) := cl_ne rfl rfl c6
      refine ⟨Or.inl rfl, ?_⟩
      exact hQ _ _ _ _ hB0 ⟨rfl, rfl, rfl, rfl, (by have q0 : (0 : Int32).toInt = 0 := rfl; omega)⟩
    · skip
      rw [lg_cmp_eq] at c6
      have d8 : ((((J 97 19) : Int64).toInt) : Int) = ((v1 : Int64).toInt) := cl_eq rfl rfl c6
      refine ⟨Or.inr rfl, ?_⟩
      exact hQ _ _ _ _ hB0 ⟨rfl, rfl, rfl, rfl, (by have q0 : (1 : Int32).toInt = 1 := rfl; omega)⟩
set_option maxHeartbeats 2000000 in
theorem sp_X12_isOdds {d : Nat} {Q : Qt} {I : Im} {J : Jm} {R : Rm} (hB0 : Bd I) (hR0 : RI R) (hQ : ∀ (x : Int32) (y : Int64) (I2 : Im) (J2 : Jm), Bd I2 → (I2 97 12 = I 97 12 ∧ I2 97 27 = I 97 27 ∧ I2 97 14 = I 97 14 ∧ I2 97 16 = I 97 16 ∧ (x.toInt = 0 ∨ (I 97 14).toInt = 1)) → Q x y I2 J2 R) : AM (d + 2) 199 112 [.ref 97] I J R Q := by
  refine am_X12_isOdds (fun P hc => ?_)
  refine sg_X12_isOdds_0 hc _ _ _ ?_
  refine sp_X12_spelled hB0 hR0 (fun x1 y6 I2 J3 hB4 p5 => ?_)
  refine sp_X12_isWord hB4 hR0 (fun x7 y12 I8 J9 hB10 p11 => ?_)
  intro o13
  have b14 := Bd.o hB0 (show isO 112 97 12 = true from rfl) (show bnd 12 14 = some _ from rfl)
  have e15 : ((I2 97 14) : Int32).toInt = (I 97 14).toInt := Eq.trans (congrArg Int32.toInt p5.2.2.1) rfl
  have i16 := i32 x7
  refine ⟨o13, ?_⟩
  exact hQ _ _ _ _ hB10 ⟨(Eq.trans p11.1 p5.1), (Eq.trans p11.2.1 p5.2.1), (Eq.trans p11.2.2.1 p5.2.2.1), (Eq.trans p11.2.2.2.1 p5.2.2.2), (by have q0 : (x7 : Int32).toInt = x7.toInt := rfl; omega)⟩
set_option maxHeartbeats 2000000 in
theorem sp_X12_isStore {d : Nat} {Q : Qt} {I : Im} {J : Jm} {R : Rm} (hB0 : Bd I) (hR0 : RI R) (hQ : ∀ (x : Int32) (y : Int64) (I2 : Im) (J2 : Jm), Bd I2 → (I2 97 12 = I 97 12 ∧ I2 97 27 = I 97 27 ∧ I2 97 14 = I 97 14 ∧ I2 97 16 = I 97 16 ∧ (x.toInt = 0 ∨ (I 97 14).toInt = 1)) → Q x y I2 J2 R) : AM (d + 2) 200 112 [.ref 97] I J R Q := by
  refine am_X12_isStore (fun P hc => ?_)
  refine sg_X12_isStore_0 hc _ _ _ ?_
  refine sp_X12_spelled hB0 hR0 (fun x1 y6 I2 J3 hB4 p5 => ?_)
  refine sp_X12_isWord hB4 hR0 (fun x7 y12 I8 J9 hB10 p11 => ?_)
  intro o13
  have b14 := Bd.o hB0 (show isO 112 97 12 = true from rfl) (show bnd 12 14 = some _ from rfl)
  have e15 : ((I2 97 14) : Int32).toInt = (I 97 14).toInt := Eq.trans (congrArg Int32.toInt p5.2.2.1) rfl
  have i16 := i32 x7
  refine ⟨o13, ?_⟩
  exact hQ _ _ _ _ hB10 ⟨(Eq.trans p11.1 p5.1), (Eq.trans p11.2.1 p5.2.1), (Eq.trans p11.2.2.1 p5.2.2.1), (Eq.trans p11.2.2.2.1 p5.2.2.2), (by have q0 : (x7 : Int32).toInt = x7.toInt := rfl; omega)⟩
set_option maxHeartbeats 2000000 in
theorem sp_X12_isTimes {d : Nat} {Q : Qt} {I : Im} {J : Jm} {R : Rm} (hB0 : Bd I) (hR0 : RI R) (hQ : ∀ (x : Int32) (y : Int64) (I2 : Im) (J2 : Jm), Bd I2 → (I2 97 12 = I 97 12 ∧ I2 97 27 = I 97 27 ∧ I2 97 14 = I 97 14 ∧ I2 97 16 = I 97 16 ∧ (x.toInt = 0 ∨ (I 97 14).toInt = 1)) → Q x y I2 J2 R) : AM (d + 2) 201 112 [.ref 97] I J R Q := by
  refine am_X12_isTimes (fun P hc => ?_)
  refine sg_X12_isTimes_0 hc _ _ _ ?_
  refine sp_X12_spelled hB0 hR0 (fun x1 y6 I2 J3 hB4 p5 => ?_)
  refine sp_X12_isWord hB4 hR0 (fun x7 y12 I8 J9 hB10 p11 => ?_)
  intro o13
  have b14 := Bd.o hB0 (show isO 112 97 12 = true from rfl) (show bnd 12 14 = some _ from rfl)
  have e15 : ((I2 97 14) : Int32).toInt = (I 97 14).toInt := Eq.trans (congrArg Int32.toInt p5.2.2.1) rfl
  have i16 := i32 x7
  refine ⟨o13, ?_⟩
  exact hQ _ _ _ _ hB10 ⟨(Eq.trans p11.1 p5.1), (Eq.trans p11.2.1 p5.2.1), (Eq.trans p11.2.2.1 p5.2.2.1), (Eq.trans p11.2.2.2.1 p5.2.2.2), (by have q0 : (x7 : Int32).toInt = x7.toInt := rfl; omega)⟩
set_option maxHeartbeats 2000000 in
theorem sp_X12_isMan {d : Nat} {Q : Qt} {I : Im} {J : Jm} {R : Rm} (hB0 : Bd I) (hR0 : RI R) (hQ : ∀ (x : Int32) (y : Int64) (I2 : Im) (J2 : Jm), Bd I2 → (I2 97 12 = I 97 12 ∧ I2 97 27 = I 97 27 ∧ I2 97 14 = I 97 14 ∧ I2 97 16 = I 97 16 ∧ (x.toInt = 0 ∨ (I 97 14).toInt = 1)) → Q x y I2 J2 R) : AM (d + 2) 202 112 [.ref 97] I J R Q := by
  refine am_X12_isMan (fun P hc => ?_)
  refine sg_X12_isMan_0 hc _ _ _ ?_
  refine sp_X12_spelled hB0 hR0 (fun x1 y6 I2 J3 hB4 p5 => ?_)
  refine sp_X12_isWord hB4 hR0 (fun x7 y12 I8 J9 hB10 p11 => ?_)
  intro o13
  have b14 := Bd.o hB0 (show isO 112 97 12 = true from rfl) (show bnd 12 14 = some _ from rfl)
  have e15 : ((I2 97 14) : Int32).toInt = (I 97 14).toInt := Eq.trans (congrArg Int32.toInt p5.2.2.1) rfl
  have i16 := i32 x7
  refine ⟨o13, ?_⟩
  exact hQ _ _ _ _ hB10 ⟨(Eq.trans p11.1 p5.1), (Eq.trans p11.2.1 p5.2.1), (Eq.trans p11.2.2.1 p5.2.2.1), (Eq.trans p11.2.2.2.1 p5.2.2.2), (by have q0 : (x7 : Int32).toInt = x7.toInt := rfl; omega)⟩
set_option maxHeartbeats 2000000 in
theorem sp_X12_isDue {d : Nat} {Q : Qt} {I : Im} {J : Jm} {R : Rm} (hB0 : Bd I) (hR0 : RI R) (hQ : ∀ (x : Int32) (y : Int64) (I2 : Im) (J2 : Jm), Bd I2 → (I2 97 12 = I 97 12 ∧ I2 97 27 = I 97 27 ∧ I2 97 14 = I 97 14 ∧ I2 97 16 = I 97 16 ∧ (x.toInt = 0 ∨ (I 97 14).toInt = 1)) → Q x y I2 J2 R) : AM (d + 2) 203 112 [.ref 97] I J R Q := by
  refine am_X12_isDue (fun P hc => ?_)
  refine sg_X12_isDue_0 hc _ _ _ ?_
  refine sp_X12_spelled hB0 hR0 (fun x1 y6 I2 J3 hB4 p5 => ?_)
  refine sp_X12_isWord hB4 hR0 (fun x7 y12 I8 J9 hB10 p11 => ?_)
  intro o13
  have b14 := Bd.o hB0 (show isO 112 97 12 = true from rfl) (show bnd 12 14 = some _ from rfl)
  have e15 : ((I2 97 14) : Int32).toInt = (I 97 14).toInt := Eq.trans (congrArg Int32.toInt p5.2.2.1) rfl
  have i16 := i32 x7
  refine ⟨o13, ?_⟩
  exact hQ _ _ _ _ hB10 ⟨(Eq.trans p11.1 p5.1), (Eq.trans p11.2.1 p5.2.1), (Eq.trans p11.2.2.1 p5.2.2.1), (Eq.trans p11.2.2.2.1 p5.2.2.2), (by have q0 : (x7 : Int32).toInt = x7.toInt := rfl; omega)⟩
set_option maxHeartbeats 2000000 in
theorem sp_X12_isBy {d : Nat} {Q : Qt} {I : Im} {J : Jm} {R : Rm} (hB0 : Bd I) (hR0 : RI R) (hQ : ∀ (x : Int32) (y : Int64) (I2 : Im) (J2 : Jm), Bd I2 → (I2 97 12 = I 97 12 ∧ I2 97 27 = I 97 27 ∧ I2 97 14 = I 97 14 ∧ I2 97 16 = I 97 16 ∧ (x.toInt = 0 ∨ (I 97 14).toInt = 1)) → Q x y I2 J2 R) : AM (d + 2) 204 112 [.ref 97] I J R Q := by
  refine am_X12_isBy (fun P hc => ?_)
  refine sg_X12_isBy_0 hc _ _ _ ?_
  refine sp_X12_spelled hB0 hR0 (fun x1 y6 I2 J3 hB4 p5 => ?_)
  refine sp_X12_isWord hB4 hR0 (fun x7 y12 I8 J9 hB10 p11 => ?_)
  intro o13
  have b14 := Bd.o hB0 (show isO 112 97 12 = true from rfl) (show bnd 12 14 = some _ from rfl)
  have e15 : ((I2 97 14) : Int32).toInt = (I 97 14).toInt := Eq.trans (congrArg Int32.toInt p5.2.2.1) rfl
  have i16 := i32 x7
  refine ⟨o13, ?_⟩
  exact hQ _ _ _ _ hB10 ⟨(Eq.trans p11.1 p5.1), (Eq.trans p11.2.1 p5.2.1), (Eq.trans p11.2.2.1 p5.2.2.1), (Eq.trans p11.2.2.2.1 p5.2.2.2), (by have q0 : (x7 : Int32).toInt = x7.toInt := rfl; omega)⟩
set_option maxHeartbeats 2000000 in
theorem sp_X12_isHas {d : Nat} {Q : Qt} {I : Im} {J : Jm} {R : Rm} (hB0 : Bd I) (hR0 : RI R) (hQ : ∀ (x : Int32) (y : Int64) (I2 : Im) (J2 : Jm), Bd I2 → (I2 97 12 = I 97 12 ∧ I2 97 27 = I 97 27 ∧ I2 97 14 = I 97 14 ∧ I2 97 16 = I 97 16 ∧ (x.toInt = 0 ∨ (I 97 14).toInt = 1)) → Q x y I2 J2 R) : AM (d + 2) 205 112 [.ref 97] I J R Q := by
  refine am_X12_isHas (fun P hc => ?_)
  refine sg_X12_isHas_0 hc _ _ _ ?_
  refine sp_X12_spelled hB0 hR0 (fun x1 y6 I2 J3 hB4 p5 => ?_)
  refine sp_X12_isWord hB4 hR0 (fun x7 y12 I8 J9 hB10 p11 => ?_)
  intro o13
  have b14 := Bd.o hB0 (show isO 112 97 12 = true from rfl) (show bnd 12 14 = some _ from rfl)
  have e15 : ((I2 97 14) : Int32).toInt = (I 97 14).toInt := Eq.trans (congrArg Int32.toInt p5.2.2.1) rfl
  have i16 := i32 x7
  refine ⟨o13, ?_⟩
  exact hQ _ _ _ _ hB10 ⟨(Eq.trans p11.1 p5.1), (Eq.trans p11.2.1 p5.2.1), (Eq.trans p11.2.2.1 p5.2.2.1), (Eq.trans p11.2.2.2.1 p5.2.2.2), (by have q0 : (x7 : Int32).toInt = x7.toInt := rfl; omega)⟩
set_option maxHeartbeats 2000000 in
theorem sp_X12_isKnown {d : Nat} {Q : Qt} {I : Im} {J : Jm} {R : Rm} (hB0 : Bd I) (hR0 : RI R) (hQ : ∀ (x : Int32) (y : Int64) (I2 : Im) (J2 : Jm), Bd I2 → (I2 97 12 = I 97 12 ∧ I2 97 27 = I 97 27 ∧ I2 97 14 = I 97 14 ∧ I2 97 16 = I 97 16 ∧ (x.toInt = 0 ∨ (I 97 14).toInt = 1)) → Q x y I2 J2 R) : AM (d + 2) 206 112 [.ref 97] I J R Q := by
  refine am_X12_isKnown (fun P hc => ?_)
  refine sg_X12_isKnown_0 hc _ _ _ ?_
  refine sp_X12_spelled hB0 hR0 (fun x1 y6 I2 J3 hB4 p5 => ?_)
  refine sp_X12_isWord hB4 hR0 (fun x7 y12 I8 J9 hB10 p11 => ?_)
  intro o13
  have b14 := Bd.o hB0 (show isO 112 97 12 = true from rfl) (show bnd 12 14 = some _ from rfl)
  have e15 : ((I2 97 14) : Int32).toInt = (I 97 14).toInt := Eq.trans (congrArg Int32.toInt p5.2.2.1) rfl
  have i16 := i32 x7
  refine ⟨o13, ?_⟩
  exact hQ _ _ _ _ hB10 ⟨(Eq.trans p11.1 p5.1), (Eq.trans p11.2.1 p5.2.1), (Eq.trans p11.2.2.1 p5.2.2.1), (Eq.trans p11.2.2.2.1 p5.2.2.2), (by have q0 : (x7 : Int32).toInt = x7.toInt := rfl; omega)⟩
set_option maxHeartbeats 2000000 in
theorem sp_X12_isEnd {d : Nat} {Q : Qt} {I : Im} {J : Jm} {R : Rm} (hB0 : Bd I) (hR0 : RI R) (hQ : ∀ (x : Int32) (y : Int64) (I2 : Im) (J2 : Jm), Bd I2 → (I2 97 12 = I 97 12 ∧ I2 97 27 = I 97 27 ∧ I2 97 14 = I 97 14 ∧ I2 97 16 = I 97 16 ∧ (x.toInt = 0 ∨ (I 97 14).toInt = 1)) → Q x y I2 J2 R) : AM (d + 2) 209 112 [.ref 97] I J R Q := by
  refine am_X12_isEnd (fun P hc => ?_)
  refine sg_X12_isEnd_0 hc _ _ _ ?_
  refine sp_X12_spelled hB0 hR0 (fun x1 y6 I2 J3 hB4 p5 => ?_)
  refine sp_X12_isWord hB4 hR0 (fun x7 y12 I8 J9 hB10 p11 => ?_)
  intro o13
  have b14 := Bd.o hB0 (show isO 112 97 12 = true from rfl) (show bnd 12 14 = some _ from rfl)
  have e15 : ((I2 97 14) : Int32).toInt = (I 97 14).toInt := Eq.trans (congrArg Int32.toInt p5.2.2.1) rfl
  have i16 := i32 x7
  refine ⟨o13, ?_⟩
  exact hQ _ _ _ _ hB10 ⟨(Eq.trans p11.1 p5.1), (Eq.trans p11.2.1 p5.2.1), (Eq.trans p11.2.2.1 p5.2.2.1), (Eq.trans p11.2.2.2.1 p5.2.2.2), (by have q0 : (x7 : Int32).toInt = x7.toInt := rfl; omega)⟩
set_option maxHeartbeats 2000000 in
theorem sp_X12_stepWord {d : Nat} {Q : Qt} {I : Im} {J : Jm} {R : Rm} (hB0 : Bd I) (hR0 : RI R) (hQ : ∀ (x : Int32) (y : Int64) (I2 : Im) (J2 : Jm), Bd I2 → (I2 97 12 = I 97 12 ∧ I2 97 27 = I 97 27 ∧ I2 97 14 = I 97 14 ∧ I2 97 16 = I 97 16 ∧ (-1 ≤ x.toInt ∧ x.toInt ≤ 8 ∧ (x.toInt = -1 ∨ (I 97 14).toInt = 1))) → Q x y I2 J2 R) : AM (d + 2) 207 112 [.ref 97] I J R Q := by
  refine am_X12_stepWord (fun P hc => ?_)
  refine sg_X12_stepWord_0 hc _ _ _ ?_
  refine sp_X12_spelled hB0 hR0 (fun x1 y6 I2 J3 hB4 p5 => ?_)
  refine sp_X12_isWord hB4 hR0 (fun x7 y12 I8 J9 hB10 p11 => ?_)
  intro o13
  have b14 := Bd.o hB0 (show isO 112 97 12 = true from rfl) (show bnd 12 14 = some _ from rfl)
  have e15 : ((I2 97 14) : Int32).toInt = (I 97 14).toInt := Eq.trans (congrArg Int32.toInt p5.2.2.1) rfl
  have i16 := i32 x7
  refine ⟨fun c17 => ?_, fun c17 => ?_⟩
  · skip
    have d18 : ((x7.toInt) : Int) = (0) := ci_eq rfl rfl c17
    refine sp_X12_spelled hB10 hR0 (fun x19 y24 I20 J21 hB22 p23 => ?_)
    refine sp_X12_isWord hB22 hR0 (fun x25 y30 I26 J27 hB28 p29 => ?_)
    intro o31
    have e32 : ((I20 97 14) : Int32).toInt = (I 97 14).toInt := Eq.trans (congrArg Int32.toInt (Eq.trans (Eq.trans p23.2.2.1 p11.2.2.1) p5.2.2.1)) rfl
    have i33 := i32 x25
    refine ⟨fun c34 => ?_, fun c34 => ?_⟩
    · skip
      have d35 : ((x25.toInt) : Int) = (0) := ci_eq rfl rfl c34
      refine sp_X12_spelled hB28 hR0 (fun x36 y41 I37 J38 hB39 p40 => ?_)
      refine sp_X12_isWord hB39 hR0 (fun x42 y47 I43 J44 hB45 p46 => ?_)
      intro o48
      have e49 : ((I37 97 14) : Int32).toInt = (I 97 14).toInt := Eq.trans (congrArg Int32.toInt (Eq.trans (Eq.trans (Eq.trans (Eq.trans p40.2.2.1 p29.2.2.1) p23.2.2.1) p11.2.2.1) p5.2.2.1)) rfl
      have i50 := i32 x42
      refine ⟨fun c51 => ?_, fun c51 => ?_⟩
      · skip
        have d52 : ((x42.toInt) : Int) = (0) := ci_eq rfl rfl c51
        refine sp_X12_spelled hB45 hR0 (fun x53 y58 I54 J55 hB56 p57 => ?_)
        refine sp_X12_isWord hB56 hR0 (fun x59 y64 I60 J61 hB62 p63 => ?_)
        intro o65
        have e66 : ((I54 97 14) : Int32).toInt = (I 97 14).toInt := Eq.trans (congrArg Int32.toInt (Eq.trans (Eq.trans (Eq.trans (Eq.trans (Eq.trans (Eq.trans p57.2.2.1 p46.2.2.1) p40.2.2.1) p29.2.2.1) p23.2.2.1) p11.2.2.1) p5.2.2.1)) rfl
        have i67 := i32 x59
        refine ⟨fun c68 => ?_, fun c68 => ?_⟩
        · skip
          have d69 : ((x59.toInt) : Int) = (0) := ci_eq rfl rfl c68
          refine sp_X12_spelled hB62 hR0 (fun x70 y75 I71 J72 hB73 p74 => ?_)
          refine sp_X12_isWord hB73 hR0 (fun x76 y81 I77 J78 hB79 p80 => ?_)
          intro o82
          have e83 : ((I71 97 14) : Int32).toInt = (I 97 14).toInt := Eq.trans (congrArg Int32.toInt (Eq.trans (Eq.trans (Eq.trans (Eq.trans (Eq.trans (Eq.trans (Eq.trans (Eq.trans p74.2.2.1 p63.2.2.1) p57.2.2.1) p46.2.2.1) p40.2.2.1) p29.2.2.1) p23.2.2.1) p11.2.2.1) p5.2.2.1)) rfl
          have i84 := i32 x76
          refine ⟨fun c85 => ?_, fun c85 => ?_⟩
          · skip
            have d86 : ((x76.toInt) : Int) = (0) := ci_eq rfl rfl c85
            refine sp_X12_spelled hB79 hR0 (fun x87 y92 I88 J89 hB90 p91 => ?_)
            refine sp_X12_isWord hB90 hR0 (fun x93 y98 I94 J95 hB96 p97 => ?_)
            intro o99
            have e100 : ((I88 97 14) : Int32).toInt = (I 97 14).toInt := Eq.trans (congrArg Int32.toInt (Eq.trans (Eq.trans (Eq.trans (Eq.trans (Eq.trans (Eq.trans (Eq.trans (Eq.trans (Eq.trans (Eq.trans p91.2.2.1 p80.2.2.1) p74.2.2.1) p63.2.2.1) p57.2.2.1) p46.2.2.1) p40.2.2.1) p29.2.2.1) p23.2.2.1) p11.2.2.1) p5.2.2.1)) rfl
            have i101 := i32 x93
            refine ⟨fun c102 => ?_, fun c102 => ?_⟩
            · skip
              have d103 : ((x93.toInt) : Int) = (0) := ci_eq rfl rfl c102
              refine sp_X12_spelled hB96 hR0 (fun x104 y109 I105 J106 hB107 p108 => ?_)
              refine sp_X12_isWord hB107 hR0 (fun x110 y115 I111 J112 hB113 p114 => ?_)
              intro o116
              have e117 : ((I105 97 14) : Int32).toInt = (I 97 14).toInt := Eq.trans (congrArg Int32.toInt (Eq.trans (Eq.trans (Eq.trans (Eq.trans (Eq.trans (Eq.trans (Eq.trans (Eq.trans (Eq.trans (Eq.trans (Eq.trans (Eq.trans p108.2.2.1 p97.2.2.1) p91.2.2.1) p80.2.2.1) p74.2.2.1) p63.2.2.1) p57.2.2.1) p46.2.2.1) p40.2.2.1) p29.2.2.1) p23.2.2.1) p11.2.2.1) p5.2.2.1)) rfl
              have i118 := i32 x110
              refine ⟨fun c119 => ?_, fun c119 => ?_⟩
              · skip
                have d120 : ((x110.toInt) : Int) = (0) := ci_eq rfl rfl c119
                refine sp_X12_spelled hB113 hR0 (fun x121 y126 I122 J123 hB124 p125 => ?_)
                refine sp_X12_isWord hB124 hR0 (fun x127 y132 I128 J129 hB130 p131 => ?_)
                intro o133
                have e134 : ((I122 97 14) : Int32).toInt = (I 97 14).toInt := Eq.trans (congrArg Int32.toInt (Eq.trans (Eq.trans (Eq.trans (Eq.trans (Eq.trans (Eq.trans (Eq.trans (Eq.trans (Eq.trans (Eq.trans (Eq.trans (Eq.trans (Eq.trans (Eq.trans p125.2.2.1 p114.2.2.1) p108.2.2.1) p97.2.2.1) p91.2.2.1) p80.2.2.1) p74.2.2.1) p63.2.2.1) p57.2.2.1) p46.2.2.1) p40.2.2.1) p29.2.2.1) p23.2.2.1) p11.2.2.1) p5.2.2.1)) rfl
                have i135 := i32 x127
                refine ⟨fun c136 => ?_, fun c136 => ?_⟩
                · skip
                  have d137 : ((x127.toInt) : Int) = (0) := ci_eq rfl rfl c136
                  refine sp_X12_spelled hB130 hR0 (fun x138 y143 I139 J140 hB141 p142 => ?_)
                  refine sp_X12_isWord hB141 hR0 (fun x144 y149 I145 J146 hB147 p148 => ?_)
                  intro o150
                  have e151 : ((I139 97 14) : Int32).toInt = (I 97 14).toInt := Eq.trans (congrArg Int32.toInt (Eq.trans (Eq.trans (Eq.trans (Eq.trans (Eq.trans (Eq.trans (Eq.trans (Eq.trans (Eq.trans (Eq.trans (Eq.trans (Eq.trans (Eq.trans (Eq.trans (Eq.trans (Eq.trans p142.2.2.1 p131.2.2.1) p125.2.2.1) p114.2.2.1) p108.2.2.1) p97.2.2.1) p91.2.2.1) p80.2.2.1) p74.2.2.1) p63.2.2.1) p57.2.2.1) p46.2.2.1) p40.2.2.1) p29.2.2.1) p23.2.2.1) p11.2.2.1) p5.2.2.1)) rfl
                  have i152 := i32 x144
                  refine ⟨fun c153 => ?_, fun c153 => ?_⟩
                  · skip
                    have d154 : ((x144.toInt) : Int) = (0) := ci_eq rfl rfl c153
                    exact hQ _ _ _ _ hB147 ⟨(Eq.trans (Eq.trans (Eq.trans (Eq.trans (Eq.trans (Eq.trans (Eq.trans (Eq.trans (Eq.trans (Eq.trans (Eq.trans (Eq.trans (Eq.trans (Eq.trans (Eq.trans (Eq.trans (Eq.trans p148.1 p142.1) p131.1) p125.1) p114.1) p108.1) p97.1) p91.1) p80.1) p74.1) p63.1) p57.1) p46.1) p40.1) p29.1) p23.1) p11.1) p5.1), (Eq.trans (Eq.trans (Eq.trans (Eq.trans (Eq.trans (Eq.trans (Eq.trans (Eq.trans (Eq.trans (Eq.trans (Eq.trans (Eq.trans (Eq.trans (Eq.trans (Eq.trans (Eq.trans (Eq.trans p148.2.1 p142.2.1) p131.2.1) p125.2.1) p114.2.1) p108.2.1) p97.2.1) p91.2.1) p80.2.1) p74.2.1) p63.2.1) p57.2.1) p46.2.1) p40.2.1) p29.2.1) p23.2.1) p11.2.1) p5.2.1), (Eq.trans (Eq.trans (Eq.trans (Eq.trans (Eq.trans (Eq.trans (Eq.trans (Eq.trans (Eq.trans (Eq.trans (Eq.trans (Eq.trans (Eq.trans (Eq.trans (Eq.trans (Eq.trans (Eq.trans p148.2.2.1 p142.2.2.1) p131.2.2.1) p125.2.2.1) p114.2.2.1) p108.2.2.1) p97.2.2.1) p91.2.2.1) p80.2.2.1) p74.2.2.1) p63.2.2.1) p57.2.2.1) p46.2.2.1) p40.2.2.1) p29.2.2.1) p23.2.2.1) p11.2.2.1) p5.2.2.1), (Eq.trans (Eq.trans (Eq.trans (Eq.trans (Eq.trans (Eq.trans (Eq.trans (Eq.trans (Eq.trans (Eq.trans (Eq.trans (Eq.trans (Eq.trans (Eq.trans (Eq.trans (Eq.trans (Eq.trans p148.2.2.2.1 p142.2.2.2) p131.2.2.2.1) p125.2.2.2) p114.2.2.2.1) p108.2.2.2) p97.2.2.2.1) p91.2.2.2) p80.2.2.2.1) p74.2.2.2) p63.2.2.2.1) p57.2.2.2) p46.2.2.2.1) p40.2.2.2) p29.2.2.2.1) p23.2.2.2) p11.2.2.2.1) p5.2.2.2), (by have q0 : ((-1) : Int32).toInt = (-1) := rfl; omega)⟩
                  · skip
                    have d155 : ¬ ((x144.toInt) : Int) = (0) := ci_ne rfl rfl c153
                    exact hQ _ _ _ _ hB147 ⟨(Eq.trans (Eq.trans (Eq.trans (Eq.trans (Eq.trans (Eq.trans (Eq.trans (Eq.trans (Eq.trans (Eq.trans (Eq.trans (Eq.trans (Eq.trans (Eq.trans (Eq.trans (Eq.trans (Eq.trans p148.1 p142.1) p131.1) p125.1) p114.1) p108.1) p97.1) p91.1) p80.1) p74.1) p63.1) p57.1) p46.1) p40.1) p29.1) p23.1) p11.1) p5.1), (Eq.trans (Eq.trans (Eq.trans (Eq.trans (Eq.trans (Eq.trans (Eq.trans (Eq.trans (Eq.trans (Eq.trans (Eq.trans (Eq.trans (Eq.trans (Eq.trans (Eq.trans (Eq.trans (Eq.trans p148.2.1 p142.2.1) p131.2.1) p125.2.1) p114.2.1) p108.2.1) p97.2.1) p91.2.1) p80.2.1) p74.2.1) p63.2.1) p57.2.1) p46.2.1) p40.2.1) p29.2.1) p23.2.1) p11.2.1) p5.2.1), (Eq.trans (Eq.trans (Eq.trans (Eq.trans (Eq.trans (Eq.trans (Eq.trans (Eq.trans (Eq.trans (Eq.trans (Eq.trans (Eq.trans (Eq.trans (Eq.trans (Eq.trans (Eq.trans (Eq.trans p148.2.2.1 p142.2.2.1) p131.2.2.1) p125.2.2.1) p114.2.2.1) p108.2.2.1) p97.2.2.1) p91.2.2.1) p80.2.2.1) p74.2.2.1) p63.2.2.1) p57.2.2.1) p46.2.2.1) p40.2.2.1) p29.2.2.1) p23.2.2.1) p11.2.2.1) p5.2.2.1), (Eq.trans (Eq.trans (Eq.trans (Eq.trans (Eq.trans (Eq.trans (Eq.trans (Eq.trans (Eq.trans (Eq.trans (Eq.trans (Eq.trans (Eq.trans (Eq.trans (Eq.trans (Eq.trans (Eq.trans p148.2.2.2.1 p142.2.2.2) p131.2.2.2.1) p125.2.2.2) p114.2.2.2.1) p108.2.2.2) p97.2.2.2.1) p91.2.2.2) p80.2.2.2.1) p74.2.2.2) p63.2.2.2.1) p57.2.2.2) p46.2.2.2.1) p40.2.2.2) p29.2.2.2.1) p23.2.2.2) p11.2.2.2.1) p5.2.2.2), (by have q0 : (8 : Int32).toInt = 8 := rfl; omega)⟩
                · skip
                  have d156 : ¬ ((x127.toInt) : Int) = (0) := ci_ne rfl rfl c136
                  exact hQ _ _ _ _ hB130 ⟨(Eq.trans (Eq.trans (Eq.trans (Eq.trans (Eq.trans (Eq.trans (Eq.trans (Eq.trans (Eq.trans (Eq.trans (Eq.trans (Eq.trans (Eq.trans (Eq.trans (Eq.trans p131.1 p125.1) p114.1) p108.1) p97.1) p91.1) p80.1) p74.1) p63.1) p57.1) p46.1) p40.1) p29.1) p23.1) p11.1) p5.1), (Eq.trans (Eq.trans (Eq.trans (Eq.trans (Eq.trans (Eq.trans (Eq.trans (Eq.trans (Eq.trans (Eq.trans (Eq.trans (Eq.trans (Eq.trans (Eq.trans (Eq.trans p131.2.1 p125.2.1) p114.2.1) p108.2.1) p97.2.1) p91.2.1) p80.2.1) p74.2.1) p63.2.1) p57.2.1) p46.2.1) p40.2.1) p29.2.1) p23.2.1) p11.2.1) p5.2.1), (Eq.trans (Eq.trans (Eq.trans (Eq.trans (Eq.trans (Eq.trans (Eq.trans (Eq.trans (Eq.trans (Eq.trans (Eq.trans (Eq.trans (Eq.trans (Eq.trans (Eq.trans p131.2.2.1 p125.2.2.1) p114.2.2.1) p108.2.2.1) p97.2.2.1) p91.2.2.1) p80.2.2.1) p74.2.2.1) p63.2.2.1) p57.2.2.1) p46.2.2.1) p40.2.2.1) p29.2.2.1) p23.2.2.1) p11.2.2.1) p5.2.2.1), (Eq.trans (Eq.trans (Eq.trans (Eq.trans (Eq.trans (Eq.trans (Eq.trans (Eq.trans (Eq.trans (Eq.trans (Eq.trans (Eq.trans (Eq.trans (Eq.trans (Eq.trans p131.2.2.2.1 p125.2.2.2) p114.2.2.2.1) p108.2.2.2) p97.2.2.2.1) p91.2.2.2) p80.2.2.2.1) p74.2.2.2) p63.2.2.2.1) p57.2.2.2) p46.2.2.2.1) p40.2.2.2) p29.2.2.2.1) p23.2.2.2) p11.2.2.2.1) p5.2.2.2), (by have q0 : (7 : Int32).toInt = 7 := rfl; omega)⟩
              · skip
                have d157 : ¬ ((x110.toInt) : Int) = (0) := ci_ne rfl rfl c119
                exact hQ _ _ _ _ hB113 ⟨(Eq.trans (Eq.trans (Eq.trans (Eq.trans (Eq.trans (Eq.trans (Eq.trans (Eq.trans (Eq.trans (Eq.trans (Eq.trans (Eq.trans (Eq.trans p114.1 p108.1) p97.1) p91.1) p80.1) p74.1) p63.1) p57.1) p46.1) p40.1) p29.1) p23.1) p11.1) p5.1), (Eq.trans (Eq.trans (Eq.trans (Eq.trans (Eq.trans (Eq.trans (Eq.trans (Eq.trans (Eq.trans (Eq.trans (Eq.trans (Eq.trans (Eq.trans p114.2.1 p108.2.1) p97.2.1) p91.2.1) p80.2.1) p74.2.1) p63.2.1) p57.2.1) p46.2.1) p40.2.1) p29.2.1) p23.2.1) p11.2.1) p5.2.1), (Eq.trans (Eq.trans (Eq.trans (Eq.trans (Eq.trans (Eq.trans (Eq.trans (Eq.trans (Eq.trans (Eq.trans (Eq.trans (Eq.trans (Eq.trans p114.2.2.1 p108.2.2.1) p97.2.2.1) p91.2.2.1) p80.2.2.1) p74.2.2.1) p63.2.2.1) p57.2.2.1) p46.2.2.1) p40.2.2.1) p29.2.2.1) p23.2.2.1) p11.2.2.1) p5.2.2.1), (Eq.trans (Eq.trans (Eq.trans (Eq.trans (Eq.trans (Eq.trans (Eq.trans (Eq.trans (Eq.trans (Eq.trans (Eq.trans (Eq.trans (Eq.trans p114.2.2.2.1 p108.2.2.2) p97.2.2.2.1) p91.2.2.2) p80.2.2.2.1) p74.2.2.2) p63.2.2.2.1) p57.2.2.2) p46.2.2.2.1) p40.2.2.2) p29.2.2.2.1) p23.2.2.2) p11.2.2.2.1) p5.2.2.2), (by have q0 : (6 : Int32).toInt = 6 := rfl; omega)⟩
            · skip
              have d158 : ¬ ((x93.toInt) : Int) = (0) := ci_ne rfl rfl c102
              exact hQ _ _ _ _ hB96 ⟨(Eq.trans (Eq.trans (Eq.trans (Eq.trans (Eq.trans (Eq.trans (Eq.trans (Eq.trans (Eq.trans (Eq.trans (Eq.trans p97.1 p91.1) p80.1) p74.1) p63.1) p57.1) p46.1) p40.1) p29.1) p23.1) p11.1) p5.1), (Eq.trans (Eq.trans (Eq.trans (Eq.trans (Eq.trans (Eq.trans (Eq.trans (Eq.trans (Eq.trans (Eq.trans (Eq.trans p97.2.1 p91.2.1) p80.2.1) p74.2.1) p63.2.1) p57.2.1) p46.2.1) p40.2.1) p29.2.1) p23.2.1) p11.2.1) p5.2.1), (Eq.trans (Eq.trans (Eq.trans (Eq.trans (Eq.trans (Eq.trans (Eq.trans (Eq.trans (Eq.trans (Eq.trans (Eq.trans p97.2.2.1 p91.2.2.1) p80.2.2.1) p74.2.2.1) p63.2.2.1) p57.2.2.1) p46.2.2.1) p40.2.2.1) p29.2.2.1) p23.2.2.1) p11.2.2.1) p5.2.2.1), (Eq.trans (Eq.trans (Eq.trans (Eq.trans (Eq.trans (Eq.trans (Eq.trans (Eq.trans (Eq.trans (Eq.trans (Eq.trans p97.2.2.2.1 p91.2.2.2) p80.2.2.2.1) p74.2.2.2) p63.2.2.2.1) p57.2.2.2) p46.2.2.2.1) p40.2.2.2) p29.2.2.2.1) p23.2.2.2) p11.2.2.2.1) p5.2.2.2), (by have q0 : (5 : Int32).toInt = 5 := rfl; omega)⟩
          · skip
            have d159 : ¬ ((x76.toInt) : Int) = (0) := ci_ne rfl rfl c85
            exact hQ _ _ _ _ hB79 ⟨(Eq.trans (Eq.trans (Eq.trans (Eq.trans (Eq.trans (Eq.trans (Eq.trans (Eq.trans (Eq.trans p80.1 p74.1) p63.1) p57.1) p46.1) p40.1) p29.1) p23.1) p11.1) p5.1), (Eq.trans (Eq.trans (Eq.trans (Eq.trans (Eq.trans (Eq.trans (Eq.trans (Eq.trans (Eq.trans p80.2.1 p74.2.1) p63.2.1) p57.2.1) p46.2.1) p40.2.1) p29.2.1) p23.2.1) p11.2.1) p5.2.1), (Eq.trans (Eq.trans (Eq.trans (Eq.trans (Eq.trans (Eq.trans (Eq.trans (Eq.trans (Eq.trans p80.2.2.1 p74.2.2.1) p63.2.2.1) p57.2.2.1) p46.2.2.1) p40.2.2.1) p29.2.2.1) p23.2.2.1) p11.2.2.1) p5.2.2.1), (Eq.trans (Eq.trans (Eq.trans (Eq.trans (Eq.trans (Eq.trans (Eq.trans (Eq.trans (Eq.trans p80.2.2.2.1 p74.2.2.2) p63.2.2.2.1) p57.2.2.2) p46.2.2.2.1) p40.2.2.2) p29.2.2.2.1) p23.2.2.2) p11.2.2.2.1) p5.2.2.2), (by have q0 : (4 : Int32).toInt = 4 := rfl; omega)⟩
        · skip
          have d160 : ¬ ((x59.toInt) : Int) = (0) := ci_ne rfl rfl c68
          exact hQ _ _ _ _ hB62 ⟨(Eq.trans (Eq.trans (Eq.trans (Eq.trans (Eq.trans (Eq.trans (Eq.trans p63.1 p57.1) p46.1) p40.1) p29.1) p23.1) p11.1) p5.1), (Eq.trans (Eq.trans (Eq.trans (Eq.trans (Eq.trans (Eq.trans (Eq.trans p63.2.1 p57.2.1) p46.2.1) p40.2.1) p29.2.1) p23.2.1) p11.2.1) p5.2.1), (Eq.trans (Eq.trans (Eq.trans (Eq.trans (Eq.trans (Eq.trans (Eq.trans p63.2.2.1 p57.2.2.1) p46.2.2.1) p40.2.2.1) p29.2.2.1) p23.2.2.1) p11.2.2.1) p5.2.2.1), (Eq.trans (Eq.trans (Eq.trans (Eq.trans (Eq.trans (Eq.trans (Eq.trans p63.2.2.2.1 p57.2.2.2) p46.2.2.2.1) p40.2.2.2) p29.2.2.2.1) p23.2.2.2) p11.2.2.2.1) p5.2.2.2), (by have q0 : (3 : Int32).toInt = 3 := rfl; omega)⟩
      · skip
        have d161 : ¬ ((x42.toInt) : Int) = (0) := ci_ne rfl rfl c51
        exact hQ _ _ _ _ hB45 ⟨(Eq.trans (Eq.trans (Eq.trans (Eq.trans (Eq.trans p46.1 p40.1) p29.1) p23.1) p11.1) p5.1), (Eq.trans (Eq.trans (Eq.trans (Eq.trans (Eq.trans p46.2.1 p40.2.1) p29.2.1) p23.2.1) p11.2.1) p5.2.1), (Eq.trans (Eq.trans (Eq.trans (Eq.trans (Eq.trans p46.2.2.1 p40.2.2.1) p29.2.2.1) p23.2.2.1) p11.2.2.1) p5.2.2.1), (Eq.trans (Eq.trans (Eq.trans (Eq.trans (Eq.trans p46.2.2.2.1 p40.2.2.2) p29.2.2.2.1) p23.2.2.2) p11.2.2.2.1) p5.2.2.2), (by have q0 : (2 : Int32).toInt = 2 := rfl; omega)⟩
    · skip
      have d162 : ¬ ((x25.toInt) : Int) = (0) := ci_ne rfl rfl c34
      exact hQ _ _ _ _ hB28 ⟨(Eq.trans (Eq.trans (Eq.trans p29.1 p23.1) p11.1) p5.1), (Eq.trans (Eq.trans (Eq.trans p29.2.1 p23.2.1) p11.2.1) p5.2.1), (Eq.trans (Eq.trans (Eq.trans p29.2.2.1 p23.2.2.1) p11.2.2.1) p5.2.2.1), (Eq.trans (Eq.trans (Eq.trans p29.2.2.2.1 p23.2.2.2) p11.2.2.2.1) p5.2.2.2), (by have q0 : (1 : Int32).toInt = 1 := rfl; omega)⟩
  · skip
    have d163 : ¬ ((x7.toInt) : Int) = (0) := ci_ne rfl rfl c17
    exact hQ _ _ _ _ hB10 ⟨(Eq.trans p11.1 p5.1), (Eq.trans p11.2.1 p5.2.1), (Eq.trans p11.2.2.1 p5.2.2.1), (Eq.trans p11.2.2.2.1 p5.2.2.2), (by have q0 : (0 : Int32).toInt = 0 := rfl; omega)⟩
set_option maxHeartbeats 2000000 in
theorem sp_X12_testWord {d : Nat} {Q : Qt} {I : Im} {J : Jm} {R : Rm} (hB0 : Bd I) (hR0 : RI R) (hQ : ∀ (x : Int32) (y : Int64) (I2 : Im) (J2 : Jm), Bd I2 → (I2 97 12 = I 97 12 ∧ I2 97 27 = I 97 27 ∧ I2 97 14 = I 97 14 ∧ I2 97 16 = I 97 16 ∧ (-1 ≤ x.toInt ∧ x.toInt ≤ 2)) → Q x y I2 J2 R) : AM (d + 2) 208 112 [.ref 97] I J R Q := by
  refine am_X12_testWord (fun P hc => ?_)
  refine sg_X12_testWord_0 hc _ _ _ ?_
  refine sp_X12_spelled hB0 hR0 (fun x1 y6 I2 J3 hB4 p5 => ?_)
  refine sp_X12_isWord hB4 hR0 (fun x7 y12 I8 J9 hB10 p11 => ?_)
  intro o13
  have b14 := Bd.o hB0 (show isO 112 97 12 = true from rfl) (show bnd 12 14 = some _ from rfl)
  have e15 : ((I2 97 14) : Int32).toInt = (I 97 14).toInt := Eq.trans (congrArg Int32.toInt p5.2.2.1) rfl
  have i16 := i32 x7
  refine ⟨fun c17 => ?_, fun c17 => ?_⟩
  · skip
    have d18 : ((x7.toInt) : Int) = (0) := ci_eq rfl rfl c17
    refine sp_X12_spelled hB10 hR0 (fun x19 y24 I20 J21 hB22 p23 => ?_)
    refine sp_X12_isWord hB22 hR0 (fun x25 y30 I26 J27 hB28 p29 => ?_)
    intro o31
    have e32 : ((I20 97 14) : Int32).toInt = (I 97 14).toInt := Eq.trans (congrArg Int32.toInt (Eq.trans (Eq.trans p23.2.2.1 p11.2.2.1) p5.2.2.1)) rfl
    have i33 := i32 x25
    refine ⟨fun c34 => ?_, fun c34 => ?_⟩
    · skip
      have d35 : ((x25.toInt) : Int) = (0) := ci_eq rfl rfl c34
      refine sp_X12_spelled hB28 hR0 (fun x36 y41 I37 J38 hB39 p40 => ?_)
      refine sp_X12_isWord hB39 hR0 (fun x42 y47 I43 J44 hB45 p46 => ?_)
      intro o48
      have e49 : ((I37 97 14) : Int32).toInt = (I 97 14).toInt := Eq.trans (congrArg Int32.toInt (Eq.trans (Eq.trans (Eq.trans (Eq.trans p40.2.2.1 p29.2.2.1) p23.2.2.1) p11.2.2.1) p5.2.2.1)) rfl
      have i50 := i32 x42
      refine ⟨fun c51 => ?_, fun c51 => ?_⟩
      · skip
        have d52 : ((x42.toInt) : Int) = (0) := ci_eq rfl rfl c51
        exact hQ _ _ _ _ hB45 ⟨(Eq.trans (Eq.trans (Eq.trans (Eq.trans (Eq.trans p46.1 p40.1) p29.1) p23.1) p11.1) p5.1), (Eq.trans (Eq.trans (Eq.trans (Eq.trans (Eq.trans p46.2.1 p40.2.1) p29.2.1) p23.2.1) p11.2.1) p5.2.1), (Eq.trans (Eq.trans (Eq.trans (Eq.trans (Eq.trans p46.2.2.1 p40.2.2.1) p29.2.2.1) p23.2.2.1) p11.2.2.1) p5.2.2.1), (Eq.trans (Eq.trans (Eq.trans (Eq.trans (Eq.trans p46.2.2.2.1 p40.2.2.2) p29.2.2.2.1) p23.2.2.2) p11.2.2.2.1) p5.2.2.2), (by have q0 : ((-1) : Int32).toInt = (-1) := rfl; omega)⟩
      · skip
        have d53 : ¬ ((x42.toInt) : Int) = (0) := ci_ne rfl rfl c51
        exact hQ _ _ _ _ hB45 ⟨(Eq.trans (Eq.trans (Eq.trans (Eq.trans (Eq.trans p46.1 p40.1) p29.1) p23.1) p11.1) p5.1), (Eq.trans (Eq.trans (Eq.trans (Eq.trans (Eq.trans p46.2.1 p40.2.1) p29.2.1) p23.2.1) p11.2.1) p5.2.1), (Eq.trans (Eq.trans (Eq.trans (Eq.trans (Eq.trans p46.2.2.1 p40.2.2.1) p29.2.2.1) p23.2.2.1) p11.2.2.1) p5.2.2.1), (Eq.trans (Eq.trans (Eq.trans (Eq.trans (Eq.trans p46.2.2.2.1 p40.2.2.2) p29.2.2.2.1) p23.2.2.2) p11.2.2.2.1) p5.2.2.2), (by have q0 : (2 : Int32).toInt = 2 := rfl; omega)⟩
    · skip
      have d54 : ¬ ((x25.toInt) : Int) = (0) := ci_ne rfl rfl c34
      exact hQ _ _ _ _ hB28 ⟨(Eq.trans (Eq.trans (Eq.trans p29.1 p23.1) p11.1) p5.1), (Eq.trans (Eq.trans (Eq.trans p29.2.1 p23.2.1) p11.2.1) p5.2.1), (Eq.trans (Eq.trans (Eq.trans p29.2.2.1 p23.2.2.1) p11.2.2.1) p5.2.2.1), (Eq.trans (Eq.trans (Eq.trans p29.2.2.2.1 p23.2.2.2) p11.2.2.2.1) p5.2.2.2), (by have q0 : (1 : Int32).toInt = 1 := rfl; omega)⟩
  · skip
    have d55 : ¬ ((x7.toInt) : Int) = (0) := ci_ne rfl rfl c17
    exact hQ _ _ _ _ hB10 ⟨(Eq.trans p11.1 p5.1), (Eq.trans p11.2.1 p5.2.1), (Eq.trans p11.2.2.1 p5.2.2.1), (Eq.trans p11.2.2.2.1 p5.2.2.2), (by have q0 : (0 : Int32).toInt = 0 := rfl; omega)⟩
set_option maxHeartbeats 2000000 in
theorem sp_X12_isKept {d : Nat} {Q : Qt} {I : Im} {J : Jm} {R : Rm} (hB0 : Bd I) (hR0 : RI R) (hQ : ∀ (x : Int32) (y : Int64) (I2 : Im) (J2 : Jm), Bd I2 → (I2 97 12 = I 97 12 ∧ I2 97 27 = I 97 27 ∧ I2 97 14 = I 97 14 ∧ I2 97 16 = I 97 16) → Q x y I2 J2 R) : AM (d + 3) 210 112 [.ref 97] I J R Q := by
  refine am_X12_isKept (fun P hc => ?_)
  refine sg_X12_isKept_0 hc _ _ _ ?_
  refine sp_X12_isOdds hB0 hR0 (fun x1 y6 I2 J3 hB4 p5 => ?_)
  intro o7
  have b8 := Bd.o hB0 (show isO 112 97 12 = true from rfl) (show bnd 12 14 = some _ from rfl)
  have i9 := i32 x1
  refine ⟨fun c10 => ?_, fun c10 => ?_⟩
  · skip
    have d11 : ¬ ((x1.toInt) : Int) = (0) := ci_ne rfl rfl c10
    refine ⟨Or.inr rfl, ?_⟩
    exact hQ _ _ _ _ hB4 ⟨p5.1, p5.2.1, p5.2.2.1, p5.2.2.2.1⟩
  · skip
    have d12 : ((x1.toInt) : Int) = (0) := ci_eq rfl rfl c10
    refine sp_X12_isStore hB4 hR0 (fun x13 y18 I14 J15 hB16 p17 => ?_)
    intro o19
    have e20 : ((I2 97 14) : Int32).toInt = (I 97 14).toInt := Eq.trans (congrArg Int32.toInt p5.2.2.1) rfl
    have i21 := i32 x13
    refine ⟨fun c22 => ?_, fun c22 => ?_⟩
    · skip
      have d23 : ¬ ((x13.toInt) : Int) = (0) := ci_ne rfl rfl c22
      refine ⟨Or.inr rfl, ?_⟩
      exact hQ _ _ _ _ hB16 ⟨(Eq.trans p17.1 p5.1), (Eq.trans p17.2.1 p5.2.1), (Eq.trans p17.2.2.1 p5.2.2.1), (Eq.trans p17.2.2.2.1 p5.2.2.2.1)⟩
    · skip
      have d24 : ((x13.toInt) : Int) = (0) := ci_eq rfl rfl c22
      refine sp_X12_isTimes hB16 hR0 (fun x25 y30 I26 J27 hB28 p29 => ?_)
      intro o31
      have e32 : ((I14 97 14) : Int32).toInt = (I 97 14).toInt := Eq.trans (congrArg Int32.toInt (Eq.trans p17.2.2.1 p5.2.2.1)) rfl
      have i33 := i32 x25
      refine ⟨fun c34 => ?_, fun c34 => ?_⟩
      · skip
        have d35 : ¬ ((x25.toInt) : Int) = (0) := ci_ne rfl rfl c34
        refine ⟨Or.inr rfl, ?_⟩
        exact hQ _ _ _ _ hB28 ⟨(Eq.trans (Eq.trans p29.1 p17.1) p5.1), (Eq.trans (Eq.trans p29.2.1 p17.2.1) p5.2.1), (Eq.trans (Eq.trans p29.2.2.1 p17.2.2.1) p5.2.2.1), (Eq.trans (Eq.trans p29.2.2.2.1 p17.2.2.2.1) p5.2.2.2.1)⟩
      · skip
        have d36 : ((x25.toInt) : Int) = (0) := ci_eq rfl rfl c34
        refine sp_X12_isMan hB28 hR0 (fun x37 y42 I38 J39 hB40 p41 => ?_)
        intro o43
        have e44 : ((I26 97 14) : Int32).toInt = (I 97 14).toInt := Eq.trans (congrArg Int32.toInt (Eq.trans (Eq.trans p29.2.2.1 p17.2.2.1) p5.2.2.1)) rfl
        have i45 := i32 x37
        refine ⟨fun c46 => ?_, fun c46 => ?_⟩
        · skip
          have d47 : ¬ ((x37.toInt) : Int) = (0) := ci_ne rfl rfl c46
          refine ⟨Or.inr rfl, ?_⟩
          exact hQ _ _ _ _ hB40 ⟨(Eq.trans (Eq.trans (Eq.trans p41.1 p29.1) p17.1) p5.1), (Eq.trans (Eq.trans (Eq.trans p41.2.1 p29.2.1) p17.2.1) p5.2.1), (Eq.trans (Eq.trans (Eq.trans p41.2.2.1 p29.2.2.1) p17.2.2.1) p5.2.2.1), (Eq.trans (Eq.trans (Eq.trans p41.2.2.2.1 p29.2.2.2.1) p17.2.2.2.1) p5.2.2.2.1)⟩
        · skip
          have d48 : ((x37.toInt) : Int) = (0) := ci_eq rfl rfl c46
          refine sp_X12_isDue hB40 hR0 (fun x49 y54 I50 J51 hB52 p53 => ?_)
          intro o55
          have e56 : ((I38 97 14) : Int32).toInt = (I 97 14).toInt := Eq.trans (congrArg Int32.toInt (Eq.trans (Eq.trans (Eq.trans p41.2.2.1 p29.2.2.1) p17.2.2.1) p5.2.2.1)) rfl
          have i57 := i32 x49
          refine ⟨fun c58 => ?_, fun c58 => ?_⟩
          · skip
            have d59 : ¬ ((x49.toInt) : Int) = (0) := ci_ne rfl rfl c58
            refine ⟨Or.inr rfl, ?_⟩
            exact hQ _ _ _ _ hB52 ⟨(Eq.trans (Eq.trans (Eq.trans (Eq.trans p53.1 p41.1) p29.1) p17.1) p5.1), (Eq.trans (Eq.trans (Eq.trans (Eq.trans p53.2.1 p41.2.1) p29.2.1) p17.2.1) p5.2.1), (Eq.trans (Eq.trans (Eq.trans (Eq.trans p53.2.2.1 p41.2.2.1) p29.2.2.1) p17.2.2.1) p5.2.2.1), (Eq.trans (Eq.trans (Eq.trans (Eq.trans p53.2.2.2.1 p41.2.2.2.1) p29.2.2.2.1) p17.2.2.2.1) p5.2.2.2.1)⟩
          · skip
            have d60 : ((x49.toInt) : Int) = (0) := ci_eq rfl rfl c58
            refine sp_X12_isBy hB52 hR0 (fun x61 y66 I62 J63 hB64 p65 => ?_)
            intro o67
            have e68 : ((I50 97 14) : Int32).toInt = (I 97 14).toInt := Eq.trans (congrArg Int32.toInt (Eq.trans (Eq.trans (Eq.trans (Eq.trans p53.2.2.1 p41.2.2.1) p29.2.2.1) p17.2.2.1) p5.2.2.1)) rfl
            have i69 := i32 x61
            refine ⟨fun c70 => ?_, fun c70 => ?_⟩
            · skip
              have d71 : ¬ ((x61.toInt) : Int) = (0) := ci_ne rfl rfl c70
              refine ⟨Or.inr rfl, ?_⟩
              exact hQ _ _ _ _ hB64 ⟨(Eq.trans (Eq.trans (Eq.trans (Eq.trans (Eq.trans p65.1 p53.1) p41.1) p29.1) p17.1) p5.1), (Eq.trans (Eq.trans (Eq.trans (Eq.trans (Eq.trans p65.2.1 p53.2.1) p41.2.1) p29.2.1) p17.2.1) p5.2.1), (Eq.trans (Eq.trans (Eq.trans (Eq.trans (Eq.trans p65.2.2.1 p53.2.2.1) p41.2.2.1) p29.2.2.1) p17.2.2.1) p5.2.2.1), (Eq.trans (Eq.trans (Eq.trans (Eq.trans (Eq.trans p65.2.2.2.1 p53.2.2.2.1) p41.2.2.2.1) p29.2.2.2.1) p17.2.2.2.1) p5.2.2.2.1)⟩
            · skip
              have d72 : ((x61.toInt) : Int) = (0) := ci_eq rfl rfl c70
              refine sp_X12_isHas hB64 hR0 (fun x73 y78 I74 J75 hB76 p77 => ?_)
              intro o79
              have e80 : ((I62 97 14) : Int32).toInt = (I 97 14).toInt := Eq.trans (congrArg Int32.toInt (Eq.trans (Eq.trans (Eq.trans (Eq.trans (Eq.trans p65.2.2.1 p53.2.2.1) p41.2.2.1) p29.2.2.1) p17.2.2.1) p5.2.2.1)) rfl
              have i81 := i32 x73
              refine ⟨fun c82 => ?_, fun c82 => ?_⟩
              · skip
                have d83 : ¬ ((x73.toInt) : Int) = (0) := ci_ne rfl rfl c82
                refine ⟨Or.inr rfl, ?_⟩
                exact hQ _ _ _ _ hB76 ⟨(Eq.trans (Eq.trans (Eq.trans (Eq.trans (Eq.trans (Eq.trans p77.1 p65.1) p53.1) p41.1) p29.1) p17.1) p5.1), (Eq.trans (Eq.trans (Eq.trans (Eq.trans (Eq.trans (Eq.trans p77.2.1 p65.2.1) p53.2.1) p41.2.1) p29.2.1) p17.2.1) p5.2.1), (Eq.trans (Eq.trans (Eq.trans (Eq.trans (Eq.trans (Eq.trans p77.2.2.1 p65.2.2.1) p53.2.2.1) p41.2.2.1) p29.2.2.1) p17.2.2.1) p5.2.2.1), (Eq.trans (Eq.trans (Eq.trans (Eq.trans (Eq.trans (Eq.trans p77.2.2.2.1 p65.2.2.2.1) p53.2.2.2.1) p41.2.2.2.1) p29.2.2.2.1) p17.2.2.2.1) p5.2.2.2.1)⟩
              · skip
                have d84 : ((x73.toInt) : Int) = (0) := ci_eq rfl rfl c82
                refine sp_X12_isKnown hB76 hR0 (fun x85 y90 I86 J87 hB88 p89 => ?_)
                intro o91
                have e92 : ((I74 97 14) : Int32).toInt = (I 97 14).toInt := Eq.trans (congrArg Int32.toInt (Eq.trans (Eq.trans (Eq.trans (Eq.trans (Eq.trans (Eq.trans p77.2.2.1 p65.2.2.1) p53.2.2.1) p41.2.2.1) p29.2.2.1) p17.2.2.1) p5.2.2.1)) rfl
                have i93 := i32 x85
                refine ⟨fun c94 => ?_, fun c94 => ?_⟩
                · skip
                  have d95 : ((x85.toInt) : Int) = (0) := ci_eq rfl rfl c94
                  refine sp_X12_stepWord hB88 hR0 (fun x96 y101 I97 J98 hB99 p100 => ?_)
                  have e102 : ((I86 97 14) : Int32).toInt = (I 97 14).toInt := Eq.trans (congrArg Int32.toInt (Eq.trans (Eq.trans (Eq.trans (Eq.trans (Eq.trans (Eq.trans (Eq.trans p89.2.2.1 p77.2.2.1) p65.2.2.1) p53.2.2.1) p41.2.2.1) p29.2.2.1) p17.2.2.1) p5.2.2.1)) rfl
                  have i103 := i32 x96
                  refine ⟨fun c104 => ?_, fun c104 => ?_⟩
                  · skip
                    have d105 : ((0) : Int) ≤ (x96.toInt) := ci_le rfl rfl c104
                    refine ⟨Or.inr rfl, ?_⟩
                    exact hQ _ _ _ _ hB99 ⟨(Eq.trans (Eq.trans (Eq.trans (Eq.trans (Eq.trans (Eq.trans (Eq.trans (Eq.trans p100.1 p89.1) p77.1) p65.1) p53.1) p41.1) p29.1) p17.1) p5.1), (Eq.trans (Eq.trans (Eq.trans (Eq.trans (Eq.trans (Eq.trans (Eq.trans (Eq.trans p100.2.1 p89.2.1) p77.2.1) p65.2.1) p53.2.1) p41.2.1) p29.2.1) p17.2.1) p5.2.1), (Eq.trans (Eq.trans (Eq.trans (Eq.trans (Eq.trans (Eq.trans (Eq.trans (Eq.trans p100.2.2.1 p89.2.2.1) p77.2.2.1) p65.2.2.1) p53.2.2.1) p41.2.2.1) p29.2.2.1) p17.2.2.1) p5.2.2.1), (Eq.trans (Eq.trans (Eq.trans (Eq.trans (Eq.trans (Eq.trans (Eq.trans (Eq.trans p100.2.2.2.1 p89.2.2.2.1) p77.2.2.2.1) p65.2.2.2.1) p53.2.2.2.1) p41.2.2.2.1) p29.2.2.2.1) p17.2.2.2.1) p5.2.2.2.1)⟩
                  · skip
                    have d106 : ((x96.toInt) : Int) < (0) := ci_nle rfl rfl c104
                    refine sp_X12_testWord hB99 hR0 (fun x107 y112 I108 J109 hB110 p111 => ?_)
                    have i113 := i32 x107
                    refine ⟨fun c114 => ?_, fun c114 => ?_⟩
                    · skip
                      have d115 : ((0) : Int) ≤ (x107.toInt) := ci_le rfl rfl c114
                      refine ⟨Or.inr rfl, ?_⟩
                      exact hQ _ _ _ _ hB110 ⟨(Eq.trans (Eq.trans (Eq.trans (Eq.trans (Eq.trans (Eq.trans (Eq.trans (Eq.trans (Eq.trans p111.1 p100.1) p89.1) p77.1) p65.1) p53.1) p41.1) p29.1) p17.1) p5.1), (Eq.trans (Eq.trans (Eq.trans (Eq.trans (Eq.trans (Eq.trans (Eq.trans (Eq.trans (Eq.trans p111.2.1 p100.2.1) p89.2.1) p77.2.1) p65.2.1) p53.2.1) p41.2.1) p29.2.1) p17.2.1) p5.2.1), (Eq.trans (Eq.trans (Eq.trans (Eq.trans (Eq.trans (Eq.trans (Eq.trans (Eq.trans (Eq.trans p111.2.2.1 p100.2.2.1) p89.2.2.1) p77.2.2.1) p65.2.2.1) p53.2.2.1) p41.2.2.1) p29.2.2.1) p17.2.2.1) p5.2.2.1), (Eq.trans (Eq.trans (Eq.trans (Eq.trans (Eq.trans (Eq.trans (Eq.trans (Eq.trans (Eq.trans p111.2.2.2.1 p100.2.2.2.1) p89.2.2.2.1) p77.2.2.2.1) p65.2.2.2.1) p53.2.2.2.1) p41.2.2.2.1) p29.2.2.2.1) p17.2.2.2.1) p5.2.2.2.1)⟩
                    · skip
                      have d116 : ((x107.toInt) : Int) < (0) := ci_nle rfl rfl c114
                      refine sp_X12_isEnd hB110 hR0 (fun x117 y122 I118 J119 hB120 p121 => ?_)
                      intro o123
                      have e124 : ((I108 97 14) : Int32).toInt = (I 97 14).toInt := Eq.trans (congrArg Int32.toInt (Eq.trans (Eq.trans (Eq.trans (Eq.trans (Eq.trans (Eq.trans (Eq.trans (Eq.trans (Eq.trans p111.2.2.1 p100.2.2.1) p89.2.2.1) p77.2.2.1) p65.2.2.1) p53.2.2.1) p41.2.2.1) p29.2.2.1) p17.2.2.1) p5.2.2.1)) rfl
                      have i125 := i32 x117
                      refine ⟨fun c126 => ?_, fun c126 => ?_⟩
                      · skip
                        have d127 : ((x117.toInt) : Int) = (0) := ci_eq rfl rfl c126
                        refine ⟨Or.inl rfl, ?_⟩
                        exact hQ _ _ _ _ hB120 ⟨(Eq.trans (Eq.trans (Eq.trans (Eq.trans (Eq.trans (Eq.trans (Eq.trans (Eq.trans (Eq.trans (Eq.trans p121.1 p111.1) p100.1) p89.1) p77.1) p65.1) p53.1) p41.1) p29.1) p17.1) p5.1), (Eq.trans (Eq.trans (Eq.trans (Eq.trans (Eq.trans (Eq.trans (Eq.trans (Eq.trans (Eq.trans (Eq.trans p121.2.1 p111.2.1) p100.2.1) p89.2.1) p77.2.1) p65.2.1) p53.2.1) p41.2.1) p29.2.1) p17.2.1) p5.2.1), (Eq.trans (Eq.trans (Eq.trans (Eq.trans (Eq.trans (Eq.trans (Eq.trans (Eq.trans (Eq.trans (Eq.trans p121.2.2.1 p111.2.2.1) p100.2.2.1) p89.2.2.1) p77.2.2.1) p65.2.2.1) p53.2.2.1) p41.2.2.1) p29.2.2.1) p17.2.2.1) p5.2.2.1), (Eq.trans (Eq.trans (Eq.trans (Eq.trans (Eq.trans (Eq.trans (Eq.trans (Eq.trans (Eq.trans (Eq.trans p121.2.2.2.1 p111.2.2.2.1) p100.2.2.2.1) p89.2.2.2.1) p77.2.2.2.1) p65.2.2.2.1) p53.2.2.2.1) p41.2.2.2.1) p29.2.2.2.1) p17.2.2.2.1) p5.2.2.2.1)⟩
                      · skip
                        have d128 : ¬ ((x117.toInt) : Int) = (0) := ci_ne rfl rfl c126
                        refine ⟨Or.inr rfl, ?_⟩
                        exact hQ _ _ _ _ hB120 ⟨(Eq.trans (Eq.trans (Eq.trans (Eq.trans (Eq.trans (Eq.trans (Eq.trans (Eq.trans (Eq.trans (Eq.trans p121.1 p111.1) p100.1) p89.1) p77.1) p65.1) p53.1) p41.1) p29.1) p17.1) p5.1), (Eq.trans (Eq.trans (Eq.trans (Eq.trans (Eq.trans (Eq.trans (Eq.trans (Eq.trans (Eq.trans (Eq.trans p121.2.1 p111.2.1) p100.2.1) p89.2.1) p77.2.1) p65.2.1) p53.2.1) p41.2.1) p29.2.1) p17.2.1) p5.2.1), (Eq.trans (Eq.trans (Eq.trans (Eq.trans (Eq.trans (Eq.trans (Eq.trans (Eq.trans (Eq.trans (Eq.trans p121.2.2.1 p111.2.2.1) p100.2.2.1) p89.2.2.1) p77.2.2.1) p65.2.2.1) p53.2.2.1) p41.2.2.1) p29.2.2.1) p17.2.2.1) p5.2.2.1), (Eq.trans (Eq.trans (Eq.trans (Eq.trans (Eq.trans (Eq.trans (Eq.trans (Eq.trans (Eq.trans (Eq.trans p121.2.2.2.1 p111.2.2.2.1) p100.2.2.2.1) p89.2.2.2.1) p77.2.2.2.1) p65.2.2.2.1) p53.2.2.2.1) p41.2.2.2.1) p29.2.2.2.1) p17.2.2.2.1) p5.2.2.2.1)⟩
                · skip
                  have d129 : ¬ ((x85.toInt) : Int) = (0) := ci_ne rfl rfl c94
                  refine ⟨Or.inr rfl, ?_⟩
                  exact hQ _ _ _ _ hB88 ⟨(Eq.trans (Eq.trans (Eq.trans (Eq.trans (Eq.trans (Eq.trans (Eq.trans p89.1 p77.1) p65.1) p53.1) p41.1) p29.1) p17.1) p5.1), (Eq.trans (Eq.trans (Eq.trans (Eq.trans (Eq.trans (Eq.trans (Eq.trans p89.2.1 p77.2.1) p65.2.1) p53.2.1) p41.2.1) p29.2.1) p17.2.1) p5.2.1), (Eq.trans (Eq.trans (Eq.trans (Eq.trans (Eq.trans (Eq.trans (Eq.trans p89.2.2.1 p77.2.2.1) p65.2.2.1) p53.2.2.1) p41.2.2.1) p29.2.2.1) p17.2.2.1) p5.2.2.1), (Eq.trans (Eq.trans (Eq.trans (Eq.trans (Eq.trans (Eq.trans (Eq.trans p89.2.2.2.1 p77.2.2.2.1) p65.2.2.2.1) p53.2.2.2.1) p41.2.2.2.1) p29.2.2.2.1) p17.2.2.2.1) p5.2.2.2.1)⟩
set_option maxHeartbeats 2000000 in
theorem sp_X12_isName {d : Nat} {Q : Qt} {I : Im} {J : Jm} {R : Rm} (hB0 : Bd I) (hR0 : RI R) (hQ : ∀ (x : Int32) (y : Int64) (I2 : Im) (J2 : Jm), Bd I2 → (I2 97 12 = I 97 12 ∧ I2 97 27 = I 97 27 ∧ I2 97 14 = I 97 14 ∧ I2 97 16 = I 97 16) → Q x y I2 J2 R) : AM (d + 4) 211 112 [.ref 97] I J R Q := by
  refine am_X12_isName (fun P hc => ?_)
  refine sg_X12_isName_0 hc _ _ _ ?_
  refine ⟨fun c1 => ?_, fun c1 => ?_⟩
  · skip
    have b2 := Bd.o hB0 (show isO 112 97 12 = true from rfl) (show bnd 12 14 = some _ from rfl)
    have d3 : ¬ (((I 97 14).toInt) : Int) = (1) := ci_ne rfl rfl c1
    refine ⟨Or.inl rfl, ?_⟩
    exact hQ _ _ _ _ hB0 ⟨rfl, rfl, rfl, rfl⟩
  · skip
    have b4 := Bd.o hB0 (show isO 112 97 12 = true from rfl) (show bnd 12 14 = some _ from rfl)
    have d5 : (((I 97 14).toInt) : Int) = (1) := ci_eq rfl rfl c1
    refine ⟨fun c6 => ?_, fun c6 => ?_⟩
    · skip
      have d7 : ((8) : Int) < ((I 97 18).toInt) := ci_lt rfl rfl c6
      refine ⟨Or.inl rfl, ?_⟩
      exact hQ _ _ _ _ hB0 ⟨rfl, rfl, rfl, rfl⟩
    · skip
      have d8 : (((I 97 18).toInt) : Int) ≤ (8) := ci_nlt rfl rfl c6
      refine sp_X12_isKept hB0 hR0 (fun x9 y14 I10 J11 hB12 p13 => ?_)
      intro o15
      have i16 := i32 x9
      refine ⟨fun c17 => ?_, fun c17 => ?_⟩
      · skip
        have d18 : ¬ ((x9.toInt) : Int) = (0) := ci_ne rfl rfl c17
        refine ⟨Or.inl rfl, ?_⟩
        exact hQ _ _ _ _ hB12 ⟨p13.1, p13.2.1, p13.2.2.1, p13.2.2.2⟩
      · skip
        have d19 : ((x9.toInt) : Int) = (0) := ci_eq rfl rfl c17
        refine ⟨Or.inr rfl, ?_⟩
        exact hQ _ _ _ _ hB12 ⟨p13.1, p13.2.1, p13.2.2.1, p13.2.2.2⟩
set_option maxHeartbeats 2000000 in
theorem sp_X12_isSign {d : Nat} {Q : Qt} {v1 : Int32} {I : Im} {J : Jm} {R : Rm} (hB0 : Bd I) (hR0 : RI R) (hQ : ∀ (x : Int32) (y : Int64) (I2 : Im) (J2 : Jm), Bd I2 → (I2 97 12 = I 97 12 ∧ I2 97 27 = I 97 27 ∧ I2 97 14 = I 97 14 ∧ I2 97 16 = I 97 16 ∧ (x.toInt = 0 ∨ (I 97 14).toInt = 3)) → Q x y I2 J2 R) : AM (d + 1) 196 112 [.ref 97, .int v1] I J R Q := by
  have i_v1 := i32 v1
  refine am_X12_isSign (fun P hc => ?_)
  refine sg_X12_isSign_0 hc _ _ _ _ ?_
  refine ⟨fun c1 => ?_, fun c1 => ?_⟩
  · skip
    have b2 := Bd.o hB0 (show isO 112 97 12 = true from rfl) (show bnd 12 14 = some _ from rfl)
    have d3 : ¬ (((I 97 14).toInt) : Int) = (3) := ci_ne rfl rfl c1
    refine ⟨Or.inl rfl, ?_⟩
    exact hQ _ _ _ _ hB0 ⟨rfl, rfl, rfl, rfl, (by have q0 : (0 : Int32).toInt = 0 := rfl; omega)⟩
  · skip
    have b4 := Bd.o hB0 (show isO 112 97 12 = true from rfl) (show bnd 12 14 = some _ from rfl)
    have d5 : (((I 97 14).toInt) : Int) = (3) := ci_eq rfl rfl c1
    refine ⟨fun c6 => ?_, fun c6 => ?_⟩
    · skip
      have d7 : ¬ (((I 97 17).toInt) : Int) = (v1.toInt) := ci_ne rfl rfl c6
      refine ⟨Or.inl rfl, ?_⟩
      exact hQ _ _ _ _ hB0 ⟨rfl, rfl, rfl, rfl, (by have q0 : (0 : Int32).toInt = 0 := rfl; omega)⟩
    · skip
      have d8 : (((I 97 17).toInt) : Int) = (v1.toInt) := ci_eq rfl rfl c6
      refine ⟨Or.inr rfl, ?_⟩
      exact hQ _ _ _ _ hB0 ⟨rfl, rfl, rfl, rfl, (by have q0 : (1 : Int32).toInt = 1 := rfl; omega)⟩
set_option maxHeartbeats 2000000 in
theorem sp_X12_fail {d : Nat} {Q : Qt} {v1 : Int32} {v2 : Int32} {I : Im} {J : Jm} {R : Rm} (hB0 : Bd I) (hR0 : RI R) (hv1 : 1 ≤ v1.toInt ∧ v1.toInt ≤ 7) (hQ : ∀ (x : Int32) (y : Int64) (I2 : Im) (J2 : Jm), Bd I2 → (I2 97 27 = I 97 27 ∧ I2 97 14 = I 97 14 ∧ I2 97 16 = I 97 16 ∧ I2 97 17 = I 97 17 ∧ (1 ≤ (I2 97 12).toInt)) → Q x y I2 J2 R) : AM (d + 1) 212 112 [.ref 97, .int v1, .int v2] I J R Q := by
  have i_v1 := i32 v1
  have i_v2 := i32 v2
  refine am_X12_fail (fun P hc => ?_)
  refine sg_X12_fail_0 hc _ _ _ _ _ ?_
  refine ⟨fun c1 => ?_, fun c1 => ?_⟩
  · skip
    have b2 := Bd.o hB0 (show isO 112 97 12 = true from rfl) (show bnd 12 12 = some _ from rfl)
    have d3 : (((I 97 12).toInt) : Int) ≤ (0) := ci_le rfl rfl c1
    have hB4 : Bd (uI I 97 12 v1) := Bd.o1 hB0 (show isO 112 97 12 = true from rfl) (by omega) (show bnd 12 12 = some _ from rfl) (show (v1 : Int32).toInt = v1.toInt from rfl) (by omega)
    have hB5 : Bd (uI (uI I 97 12 v1) 97 13 v2) := Bd.o0 hB4 (show isO 112 97 12 = true from rfl) (by omega) (show bnd 12 13 = none from rfl)
    have e6 : (((uI (uI I 97 12 v1) 97 13 v2) 97 12) : Int32).toInt = v1.toInt := Eq.trans (congrArg Int32.toInt (Eq.trans (rd_k (by decide)) rd_eq)) rfl
    exact hQ _ _ _ _ hB5 ⟨(Eq.trans (rd_k (by decide)) (rd_k (by decide))), (Eq.trans (rd_k (by decide)) (rd_k (by decide))), (Eq.trans (rd_k (by decide)) (rd_k (by decide))), (Eq.trans (rd_k (by decide)) (rd_k (by decide))), (by have q1 : (((uI (uI I 97 12 v1) 97 13 v2) 97 12) : Int32).toInt = v1.toInt := e6; omega)⟩
  · skip
    have b7 := Bd.o hB0 (show isO 112 97 12 = true from rfl) (show bnd 12 12 = some _ from rfl)
    have d8 : ((0) : Int) < ((I 97 12).toInt) := ci_nle rfl rfl c1
    exact hQ _ _ _ _ hB0 ⟨rfl, rfl, rfl, rfl, (by have q1 : ((I 97 12) : Int32).toInt = (I 97 12).toInt := rfl; omega)⟩
set_option maxHeartbeats 2000000 in
theorem sp_X12_amiss {d : Nat} {Q : Qt} {I : Im} {J : Jm} {R : Rm} (hB0 : Bd I) (hR0 : RI R) (hQ : ∀ (x : Int32) (y : Int64) (I2 : Im) (J2 : Jm), Bd I2 → (I2 97 27 = I 97 27 ∧ I2 97 14 = I 97 14 ∧ I2 97 16 = I 97 16 ∧ I2 97 17 = I 97 17 ∧ (1 ≤ (I2 97 12).toInt)) → Q x y I2 J2 R) : AM (d + 2) 213 112 [.ref 97] I J R Q := by
  refine am_X12_amiss (fun P hc => ?_)
  refine sg_X12_amiss_0 hc _ _ _ ?_
  refine ⟨fun c1 => ?_, fun c1 => ?_⟩
  · skip
    have b2 := Bd.o hB0 (show isO 112 97 12 = true from rfl) (show bnd 12 14 = some _ from rfl)
    have d3 : ¬ (((I 97 14).toInt) : Int) = (4) := ci_ne rfl rfl c1
    refine sp_X12_fail hB0 hR0 (by have z : (2 : Int32).toInt = 2 := rfl; omega) (fun x4 y9 I5 J6 hB7 p8 => ?_)
    have q10 : (2 : Int32).toInt = 2 := rfl
    have b11 := Bd.o hB0 (show isO 112 97 12 = true from rfl) (show bnd 12 15 = some _ from rfl)
    have q12 : ((I 97 15) : Int32).toInt = (I 97 15).toInt := rfl
    have b13 := Bd.o hB7 (show isO 112 97 12 = true from rfl) (show bnd 12 12 = some _ from rfl)
    exact hQ _ _ _ _ hB7 ⟨p8.1, p8.2.1, p8.2.2.1, p8.2.2.2.1, (by have q1 : ((I5 97 12) : Int32).toInt = (I5 97 12).toInt := rfl; omega)⟩
  · skip
    have b14 := Bd.o hB0 (show isO 112 97 12 = true from rfl) (show bnd 12 14 = some _ from rfl)
    have d15 : (((I 97 14).toInt) : Int) = (4) := ci_eq rfl rfl c1
    refine sp_X12_fail hB0 hR0 (by have z : (1 : Int32).toInt = 1 := rfl; omega) (fun x16 y21 I17 J18 hB19 p20 => ?_)
    have q22 : (1 : Int32).toInt = 1 := rfl
    have b23 := Bd.o hB0 (show isO 112 97 12 = true from rfl) (show bnd 12 15 = some _ from rfl)
    have q24 : ((I 97 15) : Int32).toInt = (I 97 15).toInt := rfl
    have b25 := Bd.o hB19 (show isO 112 97 12 = true from rfl) (show bnd 12 12 = some _ from rfl)
    exact hQ _ _ _ _ hB19 ⟨p20.1, p20.2.1, p20.2.2.1, p20.2.2.2.1, (by have q1 : ((I17 97 12) : Int32).toInt = (I17 97 12).toInt := rfl; omega)⟩
set_option maxHeartbeats 2000000 in
theorem sp_X12_must {d : Nat} {Q : Qt} {v1 : Int32} {I : Im} {J : Jm} {R : Rm} (hB0 : Bd I) (hR0 : RI R) (hQ : ∀ (x : Int32) (y : Int64) (I2 : Im) (J2 : Jm), Bd I2 → (I2 97 27 = I 97 27 ∧ ((2 * (901 - (I2 97 16).toInt) + min (I2 97 14).toInt 1) ≤ (2 * (901 - (I 97 16).toInt) + min (I 97 14).toInt 1) ∧ ((I 97 12).toInt = 0 ∨ 1 ≤ (I2 97 12).toInt) ∧ (1 ≤ (I2 97 12).toInt ∨ (¬ v1.toInt = 0 ∧ ((I 97 14).toInt = 0 ∨ (2 * (901 - (I2 97 16).toInt) + min (I2 97 14).toInt 1) < (2 * (901 - (I 97 16).toInt) + min (I 97 14).toInt 1)))))) → Q x y I2 J2 R) : AM (d + 3) 214 112 [.ref 97, .int v1] I J R Q := by
  have i_v1 := i32 v1
  refine am_X12_must (fun P hc => ?_)
  refine sg_X12_must_0 hc _ _ _ _ ?_
  refine ⟨fun c1 => ?_, fun c1 => ?_⟩
  · skip
    have b2 := Bd.o hB0 (show isO 112 97 12 = true from rfl) (show bnd 12 12 = some _ from rfl)
    have d3 : (((I 97 12).toInt) : Int) ≤ (0) := ci_le rfl rfl c1
    refine ⟨fun c4 => ?_, fun c4 => ?_⟩
    · skip
      have d5 : ((v1.toInt) : Int) = (0) := ci_eq rfl rfl c4
      refine sp_X12_amiss hB0 hR0 (fun x6 y11 I7 J8 hB9 p10 => ?_)
      have b12 := Bd.o hB9 (show isO 112 97 12 = true from rfl) (show bnd 12 12 = some _ from rfl)
      have b13 := Bd.o hB0 (show isO 112 97 12 = true from rfl) (show bnd 12 14 = some _ from rfl)
      have b14 := Bd.o hB0 (show isO 112 97 12 = true from rfl) (show bnd 12 16 = some _ from rfl)
      have e15 : ((I7 97 14) : Int32).toInt = (I 97 14).toInt := Eq.trans (congrArg Int32.toInt p10.2.1) rfl
      have e16 : ((I7 97 16) : Int32).toInt = (I 97 16).toInt := Eq.trans (congrArg Int32.toInt p10.2.2.1) rfl
      exact hQ _ _ _ _ hB9 ⟨p10.1, (by have q4 : ((I7 97 12) : Int32).toInt = (I7 97 12).toInt := rfl; have q5 : ((I7 97 14) : Int32).toInt = (I 97 14).toInt := e15; have q6 : ((I7 97 16) : Int32).toInt = (I 97 16).toInt := e16; omega)⟩
    · skip
      have d17 : ¬ ((v1.toInt) : Int) = (0) := ci_ne rfl rfl c4
      refine sp_X12_advance hB0 hR0 (fun x18 y23 I19 J20 hB21 p22 => ?_)
      have b24 := Bd.o hB0 (show isO 112 97 12 = true from rfl) (show bnd 12 14 = some _ from rfl)
      have b25 := Bd.o hB0 (show isO 112 97 12 = true from rfl) (show bnd 12 16 = some _ from rfl)
      have b26 := Bd.o hB21 (show isO 112 97 12 = true from rfl) (show bnd 12 14 = some _ from rfl)
      have b27 := Bd.o hB21 (show isO 112 97 12 = true from rfl) (show bnd 12 16 = some _ from rfl)
      have e28 : ((I19 97 12) : Int32).toInt = (I 97 12).toInt := Eq.trans (congrArg Int32.toInt p22.1) rfl
      exact hQ _ _ _ _ hB21 ⟨p22.2.1, (by have q4 : ((I19 97 12) : Int32).toInt = (I 97 12).toInt := e28; have q5 : ((I19 97 14) : Int32).toInt = (I19 97 14).toInt := rfl; have q6 : ((I19 97 16) : Int32).toInt = (I19 97 16).toInt := rfl; omega)⟩
  · skip
    have b29 := Bd.o hB0 (show isO 112 97 12 = true from rfl) (show bnd 12 12 = some _ from rfl)
    have d30 : ((0) : Int) < ((I 97 12).toInt) := ci_nle rfl rfl c1
    have b31 := Bd.o hB0 (show isO 112 97 12 = true from rfl) (show bnd 12 14 = some _ from rfl)
    have b32 := Bd.o hB0 (show isO 112 97 12 = true from rfl) (show bnd 12 16 = some _ from rfl)
    exact hQ _ _ _ _ hB0 ⟨rfl, (by have q4 : ((I 97 12) : Int32).toInt = (I 97 12).toInt := rfl; have q5 : ((I 97 14) : Int32).toInt = (I 97 14).toInt := rfl; have q6 : ((I 97 16) : Int32).toInt = (I 97 16).toInt := rfl; omega)⟩
set_option maxHeartbeats 2000000 in
theorem sp_X12_mayBe {d : Nat} {Q : Qt} {v1 : Int32} {v2 : Int32} {I : Im} {J : Jm} {R : Rm} (hB0 : Bd I) (hR0 : RI R) (hQ : ∀ (x : Int32) (y : Int64) (I2 : Im) (J2 : Jm), Bd I2 → (I2 97 27 = I 97 27 ∧ I2 97 14 = I 97 14 ∧ I2 97 16 = I 97 16 ∧ I2 97 17 = I 97 17 ∧ (((I 97 12).toInt = 0 ∨ 1 ≤ (I2 97 12).toInt) ∧ (1 ≤ (I2 97 12).toInt ∨ ((I 97 14).toInt = 2 ∧ v1.toInt ≤ (I2 97 17).toInt ∧ (I2 97 17).toInt ≤ v2.toInt)))) → Q x y I2 J2 R) : AM (d + 3) 215 112 [.ref 97, .int v1, .int v2] I J R Q := by
  have i_v1 := i32 v1
  have i_v2 := i32 v2
  refine am_X12_mayBe (fun P hc => ?_)
  have L : ∀ n : Nat, (∀ (M : Im) (J : Jm), Bd M → (M 97 27 = I 97 27) → (M 97 14 = I 97 14) → (M 97 16 = I 97 16) → (M 97 17 = I 97 17) → (((I 97 12).toInt = 0 ∨ 1 ≤ (M 97 12).toInt) ∧ (1 ≤ (M 97 12).toInt ∨ (I 97 14).toInt = 2)) → 1 < (n : Int) → P 19 112 [(0, .ref 97), (1, .int v1), (2, .int v2)] [] M J R) := by
    intro n
    induction n with
    | zero =>
      exact fun  M J _ _ _ _ _ hi hm => absurd hm (by omega)
    | succ n ih =>
      intro  M J hB hk_97_27 hk_97_14 hk_97_16 hk_97_17 hi hm
      have i_v1 := i32 v1
      have i_v2 := i32 v2
      refine sg_X12_mayBe_19 hc _ _ _ _ _ ?_
      have b1 := Bd.o hB (show isO 112 97 12 = true from rfl) (show bnd 12 12 = some _ from rfl)
      refine ⟨fun c2 => ?_, fun c2 => ?_⟩
      · skip
        have d3 : ¬ (((M 97 12).toInt) : Int) = (0) := ci_ne rfl rfl c2
        have b4 := Bd.o hB0 (show isO 112 97 12 = true from rfl) (show bnd 12 12 = some _ from rfl)
        have b5 := Bd.o hB0 (show isO 112 97 12 = true from rfl) (show bnd 12 14 = some _ from rfl)
        have e6 : ((M 97 17) : Int32).toInt = (I 97 17).toInt := Eq.trans (congrArg Int32.toInt hk_97_17) rfl
        exact hQ _ _ _ _ hB ⟨hk_97_27, hk_97_14, hk_97_16, hk_97_17, (by have q3 : ((M 97 12) : Int32).toInt = (M 97 12).toInt := rfl; have q4 : ((M 97 17) : Int32).toInt = (I 97 17).toInt := e6; omega)⟩
      · skip
        have d7 : (((M 97 12).toInt) : Int) = (0) := ci_eq rfl rfl c2
        refine w_X12_isIn ?_
        refine ⟨fun c8 => ?_, fun c8 => ?_⟩
        · skip
          rw [lg_cmp_lt] at c8
          have e9 : ((M 97 17) : Int32).toInt = (I 97 17).toInt := Eq.trans (congrArg Int32.toInt hk_97_17) rfl
          have i10 := i32 ((M 97 17))
          have d11 : (((I 97 17).toInt) : Int) < (v1.toInt) := cl_lt (tl_i2l e9) (tl_i2l rfl) c8
          refine ⟨Or.inl rfl, ?_⟩
          intro o12
          refine ⟨fun c13 => ?_, fun c13 => ?_⟩
          · exact absurd c13 (by decide)
          · skip
            refine sp_X12_fail hB hR0 (by have z : (4 : Int32).toInt = 4 := rfl; omega) (fun x14 y19 I15 J16 hB17 p18 => ?_)
            have q20 : (4 : Int32).toInt = 4 := rfl
            have b21 := Bd.o hB (show isO 112 97 12 = true from rfl) (show bnd 12 15 = some _ from rfl)
            have q22 : ((M 97 15) : Int32).toInt = (M 97 15).toInt := rfl
            have b23 := Bd.o hB17 (show isO 112 97 12 = true from rfl) (show bnd 12 12 = some _ from rfl)
            have b24 := Bd.o hB0 (show isO 112 97 12 = true from rfl) (show bnd 12 12 = some _ from rfl)
            have b25 := Bd.o hB0 (show isO 112 97 12 = true from rfl) (show bnd 12 14 = some _ from rfl)
            have e26 : ((I15 97 17) : Int32).toInt = (I 97 17).toInt := Eq.trans (congrArg Int32.toInt (Eq.trans p18.2.2.2.1 hk_97_17)) rfl
            exact hQ _ _ _ _ hB17 ⟨(Eq.trans p18.1 hk_97_27), (Eq.trans p18.2.1 hk_97_14), (Eq.trans p18.2.2.1 hk_97_16), (Eq.trans p18.2.2.2.1 hk_97_17), (by have q3 : ((I15 97 12) : Int32).toInt = (I15 97 12).toInt := rfl; have q4 : ((I15 97 17) : Int32).toInt = (I 97 17).toInt := e26; omega)⟩
        · skip
          rw [lg_cmp_lt] at c8
          have e27 : ((M 97 17) : Int32).toInt = (I 97 17).toInt := Eq.trans (congrArg Int32.toInt hk_97_17) rfl
          have i28 := i32 ((M 97 17))
          have d29 : ((v1.toInt) : Int) ≤ ((I 97 17).toInt) := cl_nlt (tl_i2l e27) (tl_i2l rfl) c8
          refine ⟨fun c30 => ?_, fun c30 => ?_⟩
          · skip
            rw [lg_cmp_gt] at c30
            have d31 : ((v2.toInt) : Int) < ((I 97 17).toInt) := cl_lt (tl_i2l rfl) (tl_i2l e27) c30
            refine ⟨Or.inl rfl, ?_⟩
            intro o32
            refine ⟨fun c33 => ?_, fun c33 => ?_⟩
            · exact absurd c33 (by decide)
            · skip
              refine sp_X12_fail hB hR0 (by have z : (4 : Int32).toInt = 4 := rfl; omega) (fun x34 y39 I35 J36 hB37 p38 => ?_)
              have q40 : (4 : Int32).toInt = 4 := rfl
              have b41 := Bd.o hB (show isO 112 97 12 = true from rfl) (show bnd 12 15 = some _ from rfl)
              have q42 : ((M 97 15) : Int32).toInt = (M 97 15).toInt := rfl
              have b43 := Bd.o hB37 (show isO 112 97 12 = true from rfl) (show bnd 12 12 = some _ from rfl)
              have b44 := Bd.o hB0 (show isO 112 97 12 = true from rfl) (show bnd 12 12 = some _ from rfl)
              have b45 := Bd.o hB0 (show isO 112 97 12 = true from rfl) (show bnd 12 14 = some _ from rfl)
              have e46 : ((I35 97 17) : Int32).toInt = (I 97 17).toInt := Eq.trans (congrArg Int32.toInt (Eq.trans p38.2.2.2.1 hk_97_17)) rfl
              exact hQ _ _ _ _ hB37 ⟨(Eq.trans p38.1 hk_97_27), (Eq.trans p38.2.1 hk_97_14), (Eq.trans p38.2.2.1 hk_97_16), (Eq.trans p38.2.2.2.1 hk_97_17), (by have q3 : ((I35 97 12) : Int32).toInt = (I35 97 12).toInt := rfl; have q4 : ((I35 97 17) : Int32).toInt = (I 97 17).toInt := e46; omega)⟩
          · skip
            rw [lg_cmp_gt] at c30
            have d47 : (((I 97 17).toInt) : Int) ≤ (v2.toInt) := cl_nlt (tl_i2l rfl) (tl_i2l e27) c30
            refine ⟨Or.inr rfl, ?_⟩
            intro o48
            refine ⟨fun c49 => ?_, fun c49 => ?_⟩
            · skip
              have b50 := Bd.o hB0 (show isO 112 97 12 = true from rfl) (show bnd 12 12 = some _ from rfl)
              have b51 := Bd.o hB0 (show isO 112 97 12 = true from rfl) (show bnd 12 14 = some _ from rfl)
              exact hQ _ _ _ _ hB ⟨hk_97_27, hk_97_14, hk_97_16, hk_97_17, (by have q3 : ((M 97 12) : Int32).toInt = (M 97 12).toInt := rfl; have q4 : ((M 97 17) : Int32).toInt = (I 97 17).toInt := e27; omega)⟩
            · exact absurd c49 (by decide)
  refine sg_X12_mayBe_0 hc _ _ _ _ _ ?_
  refine ⟨fun c52 => ?_, fun c52 => ?_⟩
  · skip
    have b53 := Bd.o hB0 (show isO 112 97 12 = true from rfl) (show bnd 12 12 = some _ from rfl)
    have d54 : ¬ (((I 97 12).toInt) : Int) = (0) := ci_ne rfl rfl c52
    exact (L 1000000) _ _ hB0 rfl rfl rfl rfl (by have q0 : ((I 97 12) : Int32).toInt = (I 97 12).toInt := rfl; have q1 : ((I 97 12) : Int32).toInt = (I 97 12).toInt := rfl; omega) (by omega)
  · skip
    have b55 := Bd.o hB0 (show isO 112 97 12 = true from rfl) (show bnd 12 12 = some _ from rfl)
    have d56 : (((I 97 12).toInt) : Int) = (0) := ci_eq rfl rfl c52
    refine ⟨fun c57 => ?_, fun c57 => ?_⟩
    · skip
      have b58 := Bd.o hB0 (show isO 112 97 12 = true from rfl) (show bnd 12 14 = some _ from rfl)
      have d59 : (((I 97 14).toInt) : Int) = (2) := ci_eq rfl rfl c57
      exact (L 1000000) _ _ hB0 rfl rfl rfl rfl (by have q0 : ((I 97 12) : Int32).toInt = (I 97 12).toInt := rfl; have q1 : ((I 97 12) : Int32).toInt = (I 97 12).toInt := rfl; omega) (by omega)
    · skip
      have b60 := Bd.o hB0 (show isO 112 97 12 = true from rfl) (show bnd 12 14 = some _ from rfl)
      have d61 : ¬ (((I 97 14).toInt) : Int) = (2) := ci_ne rfl rfl c57
      refine sp_X12_amiss hB0 hR0 (fun x62 y67 I63 J64 hB65 p66 => ?_)
      have b68 := Bd.o hB65 (show isO 112 97 12 = true from rfl) (show bnd 12 12 = some _ from rfl)
      exact (L 1000000) _ _ hB65 p66.1 p66.2.1 p66.2.2.1 p66.2.2.2.1 (by have q0 : ((I63 97 12) : Int32).toInt = (I63 97 12).toInt := rfl; have q1 : ((I63 97 12) : Int32).toInt = (I63 97 12).toInt := rfl; omega) (by omega)
set_option maxHeartbeats 2000000 in
theorem sp_X12_count {d : Nat} {Q : Qt} {v1 : Int32} {v2 : Int32} {I : Im} {J : Jm} {R : Rm} (hB0 : Bd I) (hR0 : RI R) (hQ : ∀ (x : Int32) (y : Int64) (I2 : Im) (J2 : Jm), Bd I2 → (I2 97 27 = I 97 27 ∧ ((2 * (901 - (I2 97 16).toInt) + min (I2 97 14).toInt 1) ≤ (2 * (901 - (I 97 16).toInt) + min (I 97 14).toInt 1) ∧ ((I 97 12).toInt = 0 ∨ 1 ≤ (I2 97 12).toInt) ∧ (1 ≤ (I2 97 12).toInt ∧ x.toInt = 0 ∨ (v1.toInt ≤ x.toInt ∧ x.toInt ≤ v2.toInt ∧ (2 * (901 - (I2 97 16).toInt) + min (I2 97 14).toInt 1) < (2 * (901 - (I 97 16).toInt) + min (I 97 14).toInt 1))))) → Q x y I2 J2 R) : AM (d + 4) 216 112 [.ref 97, .int v1, .int v2] I J R Q := by
  have i_v1 := i32 v1
  have i_v2 := i32 v2
  refine am_X12_count (fun P hc => ?_)
  refine sg_X12_count_0 hc _ _ _ _ _ ?_
  refine sp_X12_mayBe hB0 hR0 (fun x1 y6 I2 J3 hB4 p5 => ?_)
  have b7 := Bd.o hB0 (show isO 112 97 12 = true from rfl) (show bnd 12 12 = some _ from rfl)
  have b8 := Bd.o hB0 (show isO 112 97 12 = true from rfl) (show bnd 12 14 = some _ from rfl)
  have b9 := Bd.o hB4 (show isO 112 97 12 = true from rfl) (show bnd 12 12 = some _ from rfl)
  have e10 : ((I2 97 17) : Int32).toInt = (I 97 17).toInt := Eq.trans (congrArg Int32.toInt p5.2.2.2.1) rfl
  refine ⟨fun c11 => ?_, fun c11 => ?_⟩
  · skip
    have d12 : (((I2 97 12).toInt) : Int) ≤ (0) := ci_le rfl rfl c11
    refine sp_X12_advance hB4 hR0 (fun x13 y18 I14 J15 hB16 p17 => ?_)
    have e19 : ((I2 97 14) : Int32).toInt = (I 97 14).toInt := Eq.trans (congrArg Int32.toInt p5.2.1) rfl
    have b20 := Bd.o hB0 (show isO 112 97 12 = true from rfl) (show bnd 12 16 = some _ from rfl)
    have e21 : ((I2 97 16) : Int32).toInt = (I 97 16).toInt := Eq.trans (congrArg Int32.toInt p5.2.2.1) rfl
    have b22 := Bd.o hB16 (show isO 112 97 12 = true from rfl) (show bnd 12 14 = some _ from rfl)
    have b23 := Bd.o hB16 (show isO 112 97 12 = true from rfl) (show bnd 12 16 = some _ from rfl)
    have e24 : ((I14 97 12) : Int32).toInt = (I2 97 12).toInt := Eq.trans (congrArg Int32.toInt p17.1) rfl
    exact hQ _ _ _ _ hB16 ⟨(Eq.trans p17.2.1 p5.1), (by have q4 : ((I14 97 12) : Int32).toInt = (I2 97 12).toInt := e24; have q5 : ((I14 97 14) : Int32).toInt = (I14 97 14).toInt := rfl; have q6 : ((I14 97 16) : Int32).toInt = (I14 97 16).toInt := rfl; have q0 : ((I2 97 17) : Int32).toInt = (I 97 17).toInt := e10; omega)⟩
  · skip
    have d25 : ((0) : Int) < ((I2 97 12).toInt) := ci_nle rfl rfl c11
    have b26 := Bd.o hB0 (show isO 112 97 12 = true from rfl) (show bnd 12 16 = some _ from rfl)
    have e27 : ((I2 97 14) : Int32).toInt = (I 97 14).toInt := Eq.trans (congrArg Int32.toInt p5.2.1) rfl
    have e28 : ((I2 97 16) : Int32).toInt = (I 97 16).toInt := Eq.trans (congrArg Int32.toInt p5.2.2.1) rfl
    exact hQ _ _ _ _ hB4 ⟨p5.1, (by have q4 : ((I2 97 12) : Int32).toInt = (I2 97 12).toInt := rfl; have q5 : ((I2 97 14) : Int32).toInt = (I 97 14).toInt := e27; have q6 : ((I2 97 16) : Int32).toInt = (I 97 16).toInt := e28; have q0 : (0 : Int32).toInt = 0 := rfl; omega)⟩
set_option maxHeartbeats 2000000 in
theorem sp_X12_behindWord {d : Nat} {Q : Qt} {v1 : Int32} {v2 : Int32} {v3 : Int32} {I : Im} {J : Jm} {R : Rm} (hB0 : Bd I) (hR0 : RI R) (hQ : ∀ (x : Int32) (y : Int64) (I2 : Im) (J2 : Jm), Bd I2 → (I2 97 27 = I 97 27 ∧ ((2 * (901 - (I2 97 16).toInt) + min (I2 97 14).toInt 1) ≤ (2 * (901 - (I 97 16).toInt) + min (I 97 14).toInt 1) ∧ ((I 97 12).toInt = 0 ∨ 1 ≤ (I2 97 12).toInt) ∧ (1 ≤ (I2 97 12).toInt ∧ x.toInt = 0 ∨ (v2.toInt ≤ x.toInt ∧ x.toInt ≤ v3.toInt)))) → Q x y I2 J2 R) : AM (d + 5) 217 112 [.ref 97, .int v1, .int v2, .int v3] I J R Q := by
  have i_v1 := i32 v1
  have i_v2 := i32 v2
  have i_v3 := i32 v3
  refine am_X12_behindWord (fun P hc => ?_)
  refine sg_X12_behindWord_0 hc _ _ _ _ _ _ ?_
  refine sp_X12_must hB0 hR0 (fun x1 y6 I2 J3 hB4 p5 => ?_)
  have b7 := Bd.o hB0 (show isO 112 97 12 = true from rfl) (show bnd 12 12 = some _ from rfl)
  have b8 := Bd.o hB0 (show isO 112 97 12 = true from rfl) (show bnd 12 14 = some _ from rfl)
  have b9 := Bd.o hB0 (show isO 112 97 12 = true from rfl) (show bnd 12 16 = some _ from rfl)
  have b10 := Bd.o hB4 (show isO 112 97 12 = true from rfl) (show bnd 12 12 = some _ from rfl)
  have b11 := Bd.o hB4 (show isO 112 97 12 = true from rfl) (show bnd 12 14 = some _ from rfl)
  have b12 := Bd.o hB4 (show isO 112 97 12 = true from rfl) (show bnd 12 16 = some _ from rfl)
  refine sp_X12_count hB4 hR0 (fun x13 y18 I14 J15 hB16 p17 => ?_)
  have b19 := Bd.o hB16 (show isO 112 97 12 = true from rfl) (show bnd 12 12 = some _ from rfl)
  have b20 := Bd.o hB16 (show isO 112 97 12 = true from rfl) (show bnd 12 14 = some _ from rfl)
  have b21 := Bd.o hB16 (show isO 112 97 12 = true from rfl) (show bnd 12 16 = some _ from rfl)
  have i22 := i32 x13
  exact hQ _ _ _ _ hB16 ⟨(Eq.trans p17.1 p5.1), (by have q4 : ((I14 97 12) : Int32).toInt = (I14 97 12).toInt := rfl; have q5 : ((I14 97 14) : Int32).toInt = (I14 97 14).toInt := rfl; have q6 : ((I14 97 16) : Int32).toInt = (I14 97 16).toInt := rfl; have q0 : (x13 : Int32).toInt = x13.toInt := rfl; omega)⟩
set_option maxHeartbeats 2000000 in
theorem sp_X12_perhaps {d : Nat} {Q : Qt} {v1 : Int32} {I : Im} {J : Jm} {R : Rm} (hB0 : Bd I) (hR0 : RI R) (hQ : ∀ (x : Int32) (y : Int64) (I2 : Im) (J2 : Jm), Bd I2 → (I2 97 27 = I 97 27 ∧ ((2 * (901 - (I2 97 16).toInt) + min (I2 97 14).toInt 1) ≤ (2 * (901 - (I 97 16).toInt) + min (I 97 14).toInt 1) ∧ ((I 97 12).toInt = 0 ∨ 1 ≤ (I2 97 12).toInt))) → Q x y I2 J2 R) : AM (d + 3) 218 112 [.ref 97, .int v1] I J R Q := by
  have i_v1 := i32 v1
  refine am_X12_perhaps (fun P hc => ?_)
  refine sg_X12_perhaps_0 hc _ _ _ _ ?_
  refine ⟨fun c1 => ?_, fun c1 => ?_⟩
  · skip
    have b2 := Bd.o hB0 (show isO 112 97 12 = true from rfl) (show bnd 12 12 = some _ from rfl)
    have d3 : ((0) : Int) < ((I 97 12).toInt) := ci_lt rfl rfl c1
    refine ⟨Or.inl rfl, ?_⟩
    have b4 := Bd.o hB0 (show isO 112 97 12 = true from rfl) (show bnd 12 14 = some _ from rfl)
    have b5 := Bd.o hB0 (show isO 112 97 12 = true from rfl) (show bnd 12 16 = some _ from rfl)
    exact hQ _ _ _ _ hB0 ⟨rfl, (by have q4 : ((I 97 12) : Int32).toInt = (I 97 12).toInt := rfl; have q5 : ((I 97 14) : Int32).toInt = (I 97 14).toInt := rfl; have q6 : ((I 97 16) : Int32).toInt = (I 97 16).toInt := rfl; have q0 : (0 : Int32).toInt = 0 := rfl; omega)⟩
  · skip
    have b6 := Bd.o hB0 (show isO 112 97 12 = true from rfl) (show bnd 12 12 = some _ from rfl)
    have d7 : (((I 97 12).toInt) : Int) ≤ (0) := ci_nlt rfl rfl c1
    refine ⟨fun c8 => ?_, fun c8 => ?_⟩
    · skip
      have d9 : ¬ ((v1.toInt) : Int) = (0) := ci_ne rfl rfl c8
      refine sp_X12_advance hB0 hR0 (fun x10 y15 I11 J12 hB13 p14 => ?_)
      have b16 := Bd.o hB0 (show isO 112 97 12 = true from rfl) (show bnd 12 14 = some _ from rfl)
      have b17 := Bd.o hB0 (show isO 112 97 12 = true from rfl) (show bnd 12 16 = some _ from rfl)
      have b18 := Bd.o hB13 (show isO 112 97 12 = true from rfl) (show bnd 12 14 = some _ from rfl)
      have b19 := Bd.o hB13 (show isO 112 97 12 = true from rfl) (show bnd 12 16 = some _ from rfl)
      refine ⟨Or.inr rfl, ?_⟩
      have e20 : ((I11 97 12) : Int32).toInt = (I 97 12).toInt := Eq.trans (congrArg Int32.toInt p14.1) rfl
      exact hQ _ _ _ _ hB13 ⟨p14.2.1, (by have q4 : ((I11 97 12) : Int32).toInt = (I 97 12).toInt := e20; have q5 : ((I11 97 14) : Int32).toInt = (I11 97 14).toInt := rfl; have q6 : ((I11 97 16) : Int32).toInt = (I11 97 16).toInt := rfl; have q0 : (1 : Int32).toInt = 1 := rfl; omega)⟩
    · skip
      have d21 : ((v1.toInt) : Int) = (0) := ci_eq rfl rfl c8
      refine ⟨Or.inl rfl, ?_⟩
      have b22 := Bd.o hB0 (show isO 112 97 12 = true from rfl) (show bnd 12 14 = some _ from rfl)
      have b23 := Bd.o hB0 (show isO 112 97 12 = true from rfl) (show bnd 12 16 = some _ from rfl)
      exact hQ _ _ _ _ hB0 ⟨rfl, (by have q4 : ((I 97 12) : Int32).toInt = (I 97 12).toInt := rfl; have q5 : ((I 97 14) : Int32).toInt = (I 97 14).toInt := rfl; have q6 : ((I 97 16) : Int32).toInt = (I 97 16).toInt := rfl; have q0 : (0 : Int32).toInt = 0 := rfl; omega)⟩
set_option maxHeartbeats 2000000 in
theorem sp_X12_starts {d : Nat} {Q : Qt} {v1 : Int32} {v2 : Int32} {I : Im} {J : Jm} {R : Rm} (hB0 : Bd I) (hR0 : RI R) (hQ : ∀ (x : Int32) (y : Int64) (I2 : Im) (J2 : Jm), Bd I2 → ((x.toInt = 0 ∨ (I2 97 12).toInt = 0)) → Q x y I2 J2 R) : AM (d + 3) 222 112 [.ref 97, .int v1, .int v2] I J R Q := by
  have i_v1 := i32 v1
  have i_v2 := i32 v2
  refine am_X12_starts (fun P hc => ?_)
  refine sg_X12_starts_0 hc _ _ _ _ _ ?_
  refine ⟨fun c1 => ?_, fun c1 => ?_⟩
  · skip
    have d2 : ((v1.toInt) : Int) < (0) := ci_lt rfl rfl c1
    refine w_X12_no ?_
    have hB3 : Bd (uI I 97 0 5) := Bd.o0 hB0 (show isO 112 97 12 = true from rfl) (by omega) (show bnd 12 0 = none from rfl)
    refine ⟨Or.inl rfl, ?_⟩
    intro o4
    refine ⟨Or.inl rfl, ?_⟩
    have b5 := Bd.o hB0 (show isO 112 97 12 = true from rfl) (show bnd 12 12 = some _ from rfl)
    have e6 : (((uI I 97 0 5) 97 12) : Int32).toInt = (I 97 12).toInt := Eq.trans (congrArg Int32.toInt (rd_k (by decide))) rfl
    exact hQ _ _ _ _ hB3 (by have q1 : (((uI I 97 0 5) 97 12) : Int32).toInt = (I 97 12).toInt := e6; have q0 : (0 : Int32).toInt = 0 := rfl; omega)
  · skip
    have d7 : ((0) : Int) ≤ (v1.toInt) := ci_nlt rfl rfl c1
    refine ⟨fun c8 => ?_, fun c8 => ?_⟩
    · skip
      have b9 := Bd.o hB0 (show isO 112 97 12 = true from rfl) (show bnd 12 8 = some _ from rfl)
      have d10 : (((I 97 8).toInt) : Int) < (v1.toInt) := ci_lt rfl rfl c8
      refine w_X12_no ?_
      have hB11 : Bd (uI I 97 0 5) := Bd.o0 hB0 (show isO 112 97 12 = true from rfl) (by omega) (show bnd 12 0 = none from rfl)
      refine ⟨Or.inl rfl, ?_⟩
      intro o12
      refine ⟨Or.inl rfl, ?_⟩
      have b13 := Bd.o hB0 (show isO 112 97 12 = true from rfl) (show bnd 12 12 = some _ from rfl)
      have e14 : (((uI I 97 0 5) 97 12) : Int32).toInt = (I 97 12).toInt := Eq.trans (congrArg Int32.toInt (rd_k (by decide))) rfl
      exact hQ _ _ _ _ hB11 (by have q1 : (((uI I 97 0 5) 97 12) : Int32).toInt = (I 97 12).toInt := e14; have q0 : (0 : Int32).toInt = 0 := rfl; omega)
    · skip
      have b15 := Bd.o hB0 (show isO 112 97 12 = true from rfl) (show bnd 12 8 = some _ from rfl)
      have d16 : ((v1.toInt) : Int) ≤ ((I 97 8).toInt) := ci_nlt rfl rfl c8
      refine ⟨fun c17 => ?_, fun c17 => ?_⟩
      · skip
        have d18 : ((v1.toInt) : Int) ≤ (v2.toInt) := ci_le rfl rfl c17
        have hB19 : Bd (uI I 97 9 v1) := Bd.o1 hB0 (show isO 112 97 12 = true from rfl) (by omega) (show bnd 12 9 = some _ from rfl) (show (v1 : Int32).toInt = v1.toInt from rfl) (by omega)
        have hB20 : Bd (uI (uI I 97 9 v1) 97 8 0) := Bd.o1 hB19 (show isO 112 97 12 = true from rfl) (by omega) (show bnd 12 8 = some _ from rfl) (show (0 : Int32).toInt = 0 from rfl) (by omega)
        have hB21 : Bd (uI (uI (uI I 97 9 v1) 97 8 0) 97 16 0) := Bd.o1 hB20 (show isO 112 97 12 = true from rfl) (by omega) (show bnd 12 16 = some _ from rfl) (show (0 : Int32).toInt = 0 from rfl) (by omega)
        have hB22 : Bd (uI (uI (uI (uI I 97 9 v1) 97 8 0) 97 16 0) 97 12 0) := Bd.o1 hB21 (show isO 112 97 12 = true from rfl) (by omega) (show bnd 12 12 = some _ from rfl) (show (0 : Int32).toInt = 0 from rfl) (by omega)
        refine sp_X12_advance hB22 hR0 (fun x23 y28 I24 J25 hB26 p27 => ?_)
        have b29 := Bd.o hB0 (show isO 112 97 12 = true from rfl) (show bnd 12 14 = some _ from rfl)
        have e30 : (((uI (uI (uI (uI I 97 9 v1) 97 8 0) 97 16 0) 97 12 0) 97 14) : Int32).toInt = (I 97 14).toInt := Eq.trans (congrArg Int32.toInt (Eq.trans (Eq.trans (Eq.trans (rd_k (by decide)) (rd_k (by decide))) (rd_k (by decide))) (rd_k (by decide)))) rfl
        have e31 : (((uI (uI (uI (uI I 97 9 v1) 97 8 0) 97 16 0) 97 12 0) 97 16) : Int32).toInt = 0 := Eq.trans (congrArg Int32.toInt (Eq.trans (rd_k (by decide)) rd_eq)) rfl
        have b32 := Bd.o hB26 (show isO 112 97 12 = true from rfl) (show bnd 12 14 = some _ from rfl)
        have b33 := Bd.o hB26 (show isO 112 97 12 = true from rfl) (show bnd 12 16 = some _ from rfl)
        refine ⟨Or.inr rfl, ?_⟩
        have e34 : ((I24 97 12) : Int32).toInt = 0 := Eq.trans (congrArg Int32.toInt (Eq.trans p27.1 rd_eq)) rfl
        exact hQ _ _ _ _ hB26 (by have q1 : ((I24 97 12) : Int32).toInt = 0 := e34; have q0 : (1 : Int32).toInt = 1 := rfl; omega)
      · skip
        have d35 : ((v2.toInt) : Int) < (v1.toInt) := ci_nle rfl rfl c17
        refine w_X12_no ?_
        have hB36 : Bd (uI I 97 0 5) := Bd.o0 hB0 (show isO 112 97 12 = true from rfl) (by omega) (show bnd 12 0 = none from rfl)
        refine ⟨Or.inl rfl, ?_⟩
        intro o37
        refine ⟨Or.inl rfl, ?_⟩
        have b38 := Bd.o hB0 (show isO 112 97 12 = true from rfl) (show bnd 12 12 = some _ from rfl)
        have e39 : (((uI I 97 0 5) 97 12) : Int32).toInt = (I 97 12).toInt := Eq.trans (congrArg Int32.toInt (rd_k (by decide))) rfl
        exact hQ _ _ _ _ hB36 (by have q1 : (((uI I 97 0 5) 97 12) : Int32).toInt = (I 97 12).toInt := e39; have q0 : (0 : Int32).toInt = 0 := rfl; omega)
set_option maxHeartbeats 2000000 in
theorem sp_X12_isWell {d : Nat} {Q : Qt} {I : Im} {J : Jm} {R : Rm} (hB0 : Bd I) (hR0 : RI R) (hQ : ∀ (x : Int32) (y : Int64) (I2 : Im) (J2 : Jm), Bd I2 → (I2 97 27 = I 97 27 ∧ ((x.toInt = 0 ∨ (I 97 12).toInt = 0) ∧ (¬ x.toInt = 0 ∨ ¬ (I 97 12).toInt = 0))) → Q x y I2 J2 R) : AM (d + 2) 223 112 [.ref 97] I J R Q := by
  refine am_X12_isWell (fun P hc => ?_)
  refine sg_X12_isWell_0 hc _ _ _ ?_
  have hB1 : Bd (uI I 97 10 (I 97 12)) := Bd.o0 hB0 (show isO 112 97 12 = true from rfl) (by omega) (show bnd 12 10 = none from rfl)
  refine ⟨fun c2 => ?_, fun c2 => ?_⟩
  · skip
    have b3 := Bd.o hB0 (show isO 112 97 12 = true from rfl) (show bnd 12 12 = some _ from rfl)
    have e4 : (((uI I 97 10 (I 97 12)) 97 12) : Int32).toInt = (I 97 12).toInt := Eq.trans (congrArg Int32.toInt (rd_k (by decide))) rfl
    have d5 : ¬ (((I 97 12).toInt) : Int) = (0) := ci_ne e4 rfl c2
    have hB6 : Bd (uI (uI I 97 10 (I 97 12)) 97 11 ((uI I 97 10 (I 97 12)) 97 13)) := Bd.o0 hB1 (show isO 112 97 12 = true from rfl) (by omega) (show bnd 12 11 = none from rfl)
    refine ⟨fun c7 => ?_, fun c7 => ?_⟩
    · skip
      have e8 : (((uI (uI I 97 10 (I 97 12)) 97 11 ((uI I 97 10 (I 97 12)) 97 13)) 97 12) : Int32).toInt = (I 97 12).toInt := Eq.trans (congrArg Int32.toInt (Eq.trans (rd_k (by decide)) (rd_k (by decide)))) rfl
      have d9 : (((I 97 12).toInt) : Int) = (0) := ci_eq e8 rfl c7
      refine ⟨Or.inr rfl, ?_⟩
      exact hQ _ _ _ _ hB6 ⟨(Eq.trans (rd_k (by decide)) (rd_k (by decide))), (by have q0 : (1 : Int32).toInt = 1 := rfl; omega)⟩
    · skip
      have e10 : (((uI (uI I 97 10 (I 97 12)) 97 11 ((uI I 97 10 (I 97 12)) 97 13)) 97 12) : Int32).toInt = (I 97 12).toInt := Eq.trans (congrArg Int32.toInt (Eq.trans (rd_k (by decide)) (rd_k (by decide)))) rfl
      have d11 : ¬ (((I 97 12).toInt) : Int) = (0) := ci_ne e10 rfl c7
      refine w_X12_no ?_
      have hB12 : Bd (uI (uI (uI I 97 10 (I 97 12)) 97 11 ((uI I 97 10 (I 97 12)) 97 13)) 97 0 10) := Bd.o0 hB6 (show isO 112 97 12 = true from rfl) (by omega) (show bnd 12 0 = none from rfl)
      refine ⟨Or.inl rfl, ?_⟩
      intro o13
      refine ⟨fun c14 => ?_, fun c14 => ?_⟩
      · skip
        refine ⟨Or.inl rfl, ?_⟩
        exact hQ _ _ _ _ hB12 ⟨(Eq.trans (Eq.trans (rd_k (by decide)) (rd_k (by decide))) (rd_k (by decide))), (by have q0 : (0 : Int32).toInt = 0 := rfl; omega)⟩
      · exact absurd c14 (by decide)
  · skip
    have b15 := Bd.o hB0 (show isO 112 97 12 = true from rfl) (show bnd 12 12 = some _ from rfl)
    have e16 : (((uI I 97 10 (I 97 12)) 97 12) : Int32).toInt = (I 97 12).toInt := Eq.trans (congrArg Int32.toInt (rd_k (by decide))) rfl
    have d17 : (((I 97 12).toInt) : Int) = (0) := ci_eq e16 rfl c2
    have hB18 : Bd (uI (uI I 97 10 (I 97 12)) 97 11 (-1)) := Bd.o0 hB1 (show isO 112 97 12 = true from rfl) (by omega) (show bnd 12 11 = none from rfl)
    refine ⟨fun c19 => ?_, fun c19 => ?_⟩
    · skip
      have e20 : (((uI (uI I 97 10 (I 97 12)) 97 11 (-1)) 97 12) : Int32).toInt = (I 97 12).toInt := Eq.trans (congrArg Int32.toInt (Eq.trans (rd_k (by decide)) (rd_k (by decide)))) rfl
      have d21 : (((I 97 12).toInt) : Int) = (0) := ci_eq e20 rfl c19
      refine ⟨Or.inr rfl, ?_⟩
      exact hQ _ _ _ _ hB18 ⟨(Eq.trans (rd_k (by decide)) (rd_k (by decide))), (by have q0 : (1 : Int32).toInt = 1 := rfl; omega)⟩
    · skip
      have e22 : (((uI (uI I 97 10 (I 97 12)) 97 11 (-1)) 97 12) : Int32).toInt = (I 97 12).toInt := Eq.trans (congrArg Int32.toInt (Eq.trans (rd_k (by decide)) (rd_k (by decide)))) rfl
      have d23 : ¬ (((I 97 12).toInt) : Int) = (0) := ci_ne e22 rfl c19
      refine w_X12_no ?_
      have hB24 : Bd (uI (uI (uI I 97 10 (I 97 12)) 97 11 (-1)) 97 0 10) := Bd.o0 hB18 (show isO 112 97 12 = true from rfl) (by omega) (show bnd 12 0 = none from rfl)
      refine ⟨Or.inl rfl, ?_⟩
      intro o25
      refine ⟨fun c26 => ?_, fun c26 => ?_⟩
      · skip
        refine ⟨Or.inl rfl, ?_⟩
        exact hQ _ _ _ _ hB24 ⟨(Eq.trans (Eq.trans (rd_k (by decide)) (rd_k (by decide))) (rd_k (by decide))), (by have q0 : (0 : Int32).toInt = 0 := rfl; omega)⟩
      · exact absurd c26 (by decide)
set_option maxHeartbeats 2000000 in
theorem sp_X12_lay {d : Nat} {Q : Qt} {v1 : Int32} {I : Im} {J : Jm} {R : Rm} (hB0 : Bd I) (hR0 : RI R) (ht : (I 97 8).toInt ≤ 896) (hQ : ∀ (x : Int32) (y : Int64) (I2 : Im) (J2 : Jm), Bd I2 → (((I2 97 8).toInt = (I 97 8).toInt + 4)) → Q x y I2 J2 R) : AM (d + 1) 221 112 [.ref 97, .int v1] I J R Q := by
  have i_v1 := i32 v1
  refine am_X12_lay (fun P hc => ?_)
  have L : ∀ n : Nat, (∀ (v2 : Int32) (M : Im) (J : Jm), Bd M → (-1 ≤ v2.toInt ∧ v2.toInt ≤ 3 ∧ (I 97 8).toInt ≤ 896 ∧ (M 97 8).toInt = (I 97 8).toInt + 3 - v2.toInt) → v2.toInt + 5 < (n : Int) → P 2 112 [(0, .ref 97), (1, .int v1), (2, .int v2)] [] M J R) := by
    intro n
    induction n with
    | zero =>
      exact fun v2 M J _ hi hm => absurd hm (by omega)
    | succ n ih =>
      intro v2 M J hB hi hm
      have i_v1 := i32 v1
      have i_v2 := i32 v2
      refine sg_X12_lay_2 hc _ _ _ _ _ ?_
      have b1 := Bd.o hB (show isO 112 97 12 = true from rfl) (show bnd 12 8 = some _ from rfl)
      refine ⟨fun c2 => ?_, fun c2 => ?_⟩
      · skip
        have d3 : ((v2.toInt) : Int) < (0) := ci_lt rfl rfl c2
        have b4 := Bd.o hB0 (show isO 112 97 12 = true from rfl) (show bnd 12 8 = some _ from rfl)
        exact hQ _ _ _ _ hB (by have q2 : ((M 97 8) : Int32).toInt = (M 97 8).toInt := rfl; omega)
      · skip
        have d5 : ((0) : Int) ≤ (v2.toInt) := ci_nlt rfl rfl c2
        refine ⟨vp_of (a := (M 97 8).toInt) rfl (by omega) (by omega), ?_⟩
        have hB6 : Bd (uI M 101 (Int32.toNatClampNeg (M 97 8)) (Int32.toInt8 (Int32.toInt8 (v1 >>> ((8 * v2) &&& 31))).toInt32).toInt32) := Bd.a0 hB (show isA 112 101 2 = true from rfl) (show bna 101 = none from rfl)
        have e8 : (((uI M 101 (Int32.toNatClampNeg (M 97 8)) (Int32.toInt8 (Int32.toInt8 (v1 >>> ((8 * v2) &&& 31))).toInt32).toInt32) 97 8) : Int32).toInt = (M 97 8).toInt := Eq.trans (congrArg Int32.toInt (rd_ne (by omega))) rfl
        have e9 : ((((uI M 101 (Int32.toNatClampNeg (M 97 8)) (Int32.toInt8 (Int32.toInt8 (v1 >>> ((8 * v2) &&& 31))).toInt32).toInt32) 97 8) + 1) : Int32).toInt = ((M 97 8).toInt) + (1) := ti_add e8 rfl (by omega)
        have hB7 : Bd (uI (uI M 101 (Int32.toNatClampNeg (M 97 8)) (Int32.toInt8 (Int32.toInt8 (v1 >>> ((8 * v2) &&& 31))).toInt32).toInt32) 97 8 (((uI M 101 (Int32.toNatClampNeg (M 97 8)) (Int32.toInt8 (Int32.toInt8 (v1 >>> ((8 * v2) &&& 31))).toInt32).toInt32) 97 8) + 1)) := Bd.o1 hB6 (show isO 112 97 12 = true from rfl) (by omega) (show bnd 12 8 = some _ from rfl) (show ((((uI M 101 (Int32.toNatClampNeg (M 97 8)) (Int32.toInt8 (Int32.toInt8 (v1 >>> ((8 * v2) &&& 31))).toInt32).toInt32) 97 8) + 1) : Int32).toInt = ((M 97 8).toInt + 1) from e9) (by omega)
        have e10 : ((v2 + (-1)) : Int32).toInt = (v2.toInt) + ((-1)) := ti_add rfl rfl (by omega)
        have e11 : (((uI (uI M 101 (Int32.toNatClampNeg (M 97 8)) (Int32.toInt8 (Int32.toInt8 (v1 >>> ((8 * v2) &&& 31))).toInt32).toInt32) 97 8 (((uI M 101 (Int32.toNatClampNeg (M 97 8)) (Int32.toInt8 (Int32.toInt8 (v1 >>> ((8 * v2) &&& 31))).toInt32).toInt32) 97 8) + 1)) 97 8) : Int32).toInt = ((M 97 8).toInt + 1) := Eq.trans (congrArg Int32.toInt rd_eq) e9
        exact ih _ _ _ hB7 (by have q0 : ((v2 + (-1)) : Int32).toInt = (v2.toInt + (-1)) := e10; have q1 : (((uI (uI M 101 (Int32.toNatClampNeg (M 97 8)) (Int32.toInt8 (Int32.toInt8 (v1 >>> ((8 * v2) &&& 31))).toInt32).toInt32) 97 8 (((uI M 101 (Int32.toNatClampNeg (M 97 8)) (Int32.toInt8 (Int32.toInt8 (v1 >>> ((8 * v2) &&& 31))).toInt32).toInt32) 97 8) + 1)) 97 8) : Int32).toInt = ((M 97 8).toInt + 1) := e11; omega) (by have q0 : ((v2 + (-1)) : Int32).toInt = (v2.toInt + (-1)) := e10; omega)
  refine sg_X12_lay_0 hc _ _ _ _ ?_
  have b12 := Bd.o hB0 (show isO 112 97 12 = true from rfl) (show bnd 12 8 = some _ from rfl)
  exact (L 1000000) _ _ _ hB0 (by have q0 : (3 : Int32).toInt = 3 := rfl; have q1 : ((I 97 8) : Int32).toInt = (I 97 8).toInt := rfl; omega) (by have q0 : (3 : Int32).toInt = 3 := rfl; omega)
set_option maxHeartbeats 2000000 in
theorem sp_X12_feed {d : Nat} {Q : Qt} {v1 : Int32} {v2 : Int32} {v3 : Int32} {v4 : Int32} {v5 : Int32} {I : Im} {J : Jm} {R : Rm} (hB0 : Bd I) (hR0 : RI R) (hQ : ∀ (x : Int32) (y : Int64) (I2 : Im) (J2 : Jm), Bd I2 → (True) → Q x y I2 J2 R) : AM (d + 2) 220 112 [.ref 97, .int v1, .int v2, .int v3, .int v4, .int v5] I J R Q := by
  have i_v1 := i32 v1
  have i_v2 := i32 v2
  have i_v3 := i32 v3
  have i_v4 := i32 v4
  have i_v5 := i32 v5
  refine am_X12_feed (fun P hc => ?_)
  refine sg_X12_feed_0 hc _ _ _ _ _ _ _ _ ?_
  have hB1 : Bd (uI I 97 1 0) := Bd.o0 hB0 (show isO 112 97 12 = true from rfl) (by omega) (show bnd 12 1 = none from rfl)
  refine ⟨fun c2 => ?_, fun c2 => ?_⟩
  · skip
    have b3 := Bd.o hB0 (show isO 112 97 12 = true from rfl) (show bnd 12 8 = some _ from rfl)
    have e4 : (((uI I 97 1 0) 97 8) : Int32).toInt = (I 97 8).toInt := Eq.trans (congrArg Int32.toInt (rd_k (by decide))) rfl
    have e5 : ((((uI I 97 1 0) 97 8) + 20) : Int32).toInt = ((I 97 8).toInt) + (20) := ti_add e4 rfl (by omega)
    have d6 : ((((I 97 8).toInt + 20)) : Int) ≤ (900) := ci_le e5 rfl c2
    refine sp_X12_lay hB1 hR0 (by have z : (((uI I 97 1 0) 97 8) : Int32).toInt = (I 97 8).toInt := e4; omega) (fun x7 y12 I8 J9 hB10 p11 => ?_)
    have b13 := Bd.o hB10 (show isO 112 97 12 = true from rfl) (show bnd 12 8 = some _ from rfl)
    refine sp_X12_lay hB10 hR0 (by have z : ((I8 97 8) : Int32).toInt = (I8 97 8).toInt := rfl; omega) (fun x14 y19 I15 J16 hB17 p18 => ?_)
    have b20 := Bd.o hB17 (show isO 112 97 12 = true from rfl) (show bnd 12 8 = some _ from rfl)
    refine sp_X12_lay hB17 hR0 (by have z : ((I15 97 8) : Int32).toInt = (I15 97 8).toInt := rfl; omega) (fun x21 y26 I22 J23 hB24 p25 => ?_)
    have b27 := Bd.o hB24 (show isO 112 97 12 = true from rfl) (show bnd 12 8 = some _ from rfl)
    refine sp_X12_lay hB24 hR0 (by have z : ((I22 97 8) : Int32).toInt = (I22 97 8).toInt := rfl; omega) (fun x28 y33 I29 J30 hB31 p32 => ?_)
    have b34 := Bd.o hB31 (show isO 112 97 12 = true from rfl) (show bnd 12 8 = some _ from rfl)
    refine sp_X12_lay hB31 hR0 (by have z : ((I29 97 8) : Int32).toInt = (I29 97 8).toInt := rfl; omega) (fun x35 y40 I36 J37 hB38 p39 => ?_)
    have b41 := Bd.o hB38 (show isO 112 97 12 = true from rfl) (show bnd 12 8 = some _ from rfl)
    exact hQ _ _ _ _ hB38 trivial
  · skip
    have b42 := Bd.o hB0 (show isO 112 97 12 = true from rfl) (show bnd 12 8 = some _ from rfl)
    have e43 : (((uI I 97 1 0) 97 8) : Int32).toInt = (I 97 8).toInt := Eq.trans (congrArg Int32.toInt (rd_k (by decide))) rfl
    have e44 : ((((uI I 97 1 0) 97 8) + 20) : Int32).toInt = ((I 97 8).toInt) + (20) := ti_add e43 rfl (by omega)
    have d45 : ((900) : Int) < (((I 97 8).toInt + 20)) := ci_nle e44 rfl c2
    exact hQ _ _ _ _ hB1 trivial
set_option maxHeartbeats 2000000 in
theorem sp_X12_named {d : Nat} {Q : Qt} {v1 : Int32} {I : Im} {J : Jm} {R : Rm} (hB0 : Bd I) (hR0 : RI R) (hv1 : 0 ≤ v1.toInt ∧ v1.toInt ≤ 4) (hQ : ∀ (x : Int32) (y : Int64) (I2 : Im) (J2 : Jm), Bd I2 → (I2 97 12 = I 97 12 ∧ I2 97 27 = I 97 27 ∧ I2 97 14 = I 97 14 ∧ I2 97 16 = I 97 16 ∧ (-1 ≤ x.toInt ∧ x.toInt ≤ 5)) → Q x y I2 J2 R) : AM (d + 1) 226 112 [.ref 97, .int v1] I J R Q := by
  have i_v1 := i32 v1
  refine am_X12_named (fun P hc => ?_)
  have L : ∀ n : Nat, (∀ (v2 : Int32) (M : Im) (J : Jm), Bd M → (M 97 12 = I 97 12) → (M 97 27 = I 97 27) → (M 97 14 = I 97 14) → (M 97 16 = I 97 16) → (0 ≤ v1.toInt ∧ v1.toInt ≤ 4 ∧ 0 ≤ v2.toInt ∧ v2.toInt ≤ 6) → 10 - v2.toInt < (n : Int) → P 2 112 [(0, .ref 97), (1, .int v1), (2, .int v2)] [] M J R) := by
    intro n
    induction n with
    | zero =>
      exact fun v2 M J _ _ _ _ _ hi hm => absurd hm (by omega)
    | succ n ih =>
      intro v2 M J hB hk_97_12 hk_97_27 hk_97_14 hk_97_16 hi hm
      have i_v1 := i32 v1
      have i_v2 := i32 v2
      refine sg_X12_named_2 hc _ _ _ _ _ ?_
      have e1 : ((324 * v1) : Int32).toInt = (324) * (v1.toInt) := ti_mul rfl rfl (by omega)
      refine ⟨vp_of (a := (324 * v1.toInt)) e1 (by omega) (by omega), ?_⟩
      refine ⟨fun c2 => ?_, fun c2 => ?_⟩
      · skip
        have b3 := Bd.c hB (tn_of (show ((324 * v1) : Int32).toInt = (324 * v1.toInt) from e1) (by omega))
        have d4 : (((M 102 (Int32.toNatClampNeg (324 * v1))).toInt) : Int) ≤ (v2.toInt) := ci_le rfl rfl c2
        exact hQ _ _ _ _ hB ⟨hk_97_12, hk_97_27, hk_97_14, hk_97_16, (by have q0 : ((-1) : Int32).toInt = (-1) := rfl; omega)⟩
      · skip
        have b5 := Bd.c hB (tn_of (show ((324 * v1) : Int32).toInt = (324 * v1.toInt) from e1) (by omega))
        have d6 : ((v2.toInt) : Int) < ((M 102 (Int32.toNatClampNeg (324 * v1))).toInt) := ci_nle rfl rfl c2
        have e7 : ((6 * v1) : Int32).toInt = (6) * (v1.toInt) := ti_mul rfl rfl (by omega)
        have e8 : (((6 * v1) + v2) : Int32).toInt = ((6 * v1.toInt)) + (v2.toInt) := ti_add e7 rfl (by omega)
        refine ⟨vp_of (a := ((6 * v1.toInt) + v2.toInt)) e8 (by omega) (by omega), ?_⟩
        refine ⟨fun c9 => ?_, fun c9 => ?_⟩
        · skip
          rw [lg_cmp_eq] at c9
          have d10 : ¬ ((((J 104 (Int32.toNatClampNeg ((6 * v1) + v2))) : Int64).toInt) : Int) = (((J 97 19) : Int64).toInt) := cl_ne rfl rfl c9
          have e11 : ((v2 + 1) : Int32).toInt = (v2.toInt) + (1) := ti_add rfl rfl (by omega)
          exact ih _ _ _ hB hk_97_12 hk_97_27 hk_97_14 hk_97_16 (by have q0 : ((v2 + 1) : Int32).toInt = (v2.toInt + 1) := e11; omega) (by have q0 : ((v2 + 1) : Int32).toInt = (v2.toInt + 1) := e11; omega)
        · skip
          rw [lg_cmp_eq] at c9
          have d12 : ((((J 104 (Int32.toNatClampNeg ((6 * v1) + v2))) : Int64).toInt) : Int) = (((J 97 19) : Int64).toInt) := cl_eq rfl rfl c9
          exact hQ _ _ _ _ hB ⟨hk_97_12, hk_97_27, hk_97_14, hk_97_16, (by have q0 : (v2 : Int32).toInt = v2.toInt := rfl; omega)⟩
  refine sg_X12_named_0 hc _ _ _ _ ?_
  exact (L 1000000) _ _ _ hB0 rfl rfl rfl rfl (by have q0 : (0 : Int32).toInt = 0 := rfl; omega) (by have q0 : (0 : Int32).toInt = 0 := rfl; omega)
set_option maxHeartbeats 2000000 in
theorem sp_X12_readTold {d : Nat} {Q : Qt} {v1 : Int32} {I : Im} {J : Jm} {R : Rm} (hB0 : Bd I) (hR0 : RI R) (hv1 : 0 ≤ v1.toInt ∧ v1.toInt ≤ 4) (hQ : ∀ (x : Int32) (y : Int64) (I2 : Im) (J2 : Jm), Bd I2 → (I2 97 27 = I 97 27 ∧ ((2 * (901 - (I2 97 16).toInt) + min (I2 97 14).toInt 1) ≤ (2 * (901 - (I 97 16).toInt) + min (I 97 14).toInt 1) ∧ ((I 97 12).toInt = 0 ∨ 1 ≤ (I2 97 12).toInt) ∧ 0 ≤ x.toInt ∧ x.toInt ≤ 5)) → Q x y I2 J2 R) : AM (d + 5) 227 112 [.ref 97, .int v1] I J R Q := by
  have i_v1 := i32 v1
  refine am_X12_readTold (fun P hc => ?_)
  have L : ∀ n : Nat, (∀ (M : Im) (J : Jm), Bd M → (M 97 27 = I 97 27) → (0 ≤ v1.toInt ∧ v1.toInt ≤ 4 ∧ ((I 97 12).toInt = 0 ∨ 1 ≤ (M 97 12).toInt) ∧ (2 * (901 - (M 97 16).toInt) + min (M 97 14).toInt 1) ≤ (2 * (901 - (I 97 16).toInt) + min (I 97 14).toInt 1)) → 1 < (n : Int) → P 18 112 [(0, .ref 97), (1, .int v1)] [] M J R) := by
    intro n
    induction n with
    | zero =>
      exact fun  M J _ _ hi hm => absurd hm (by omega)
    | succ n ih =>
      intro  M J hB hk_97_27 hi hm
      have i_v1 := i32 v1
      refine sg_X12_readTold_18 hc _ _ _ _ ?_
      have b1 := Bd.o hB (show isO 112 97 12 = true from rfl) (show bnd 12 12 = some _ from rfl)
      have b2 := Bd.o hB (show isO 112 97 12 = true from rfl) (show bnd 12 14 = some _ from rfl)
      have b3 := Bd.o hB (show isO 112 97 12 = true from rfl) (show bnd 12 16 = some _ from rfl)
      refine ⟨fun c4 => ?_, fun c4 => ?_⟩
      · skip
        have d5 : (((M 97 12).toInt) : Int) ≤ (0) := ci_le rfl rfl c4
        refine sp_X12_named hB hR0 (by have z : (v1 : Int32).toInt = v1.toInt := rfl; omega) (fun x6 y11 I7 J8 hB9 p10 => ?_)
        have i12 := i32 x6
        refine ⟨fun c13 => ?_, fun c13 => ?_⟩
        · skip
          have d14 : ((0) : Int) ≤ (x6.toInt) := ci_le rfl rfl c13
          refine sp_X12_must hB9 hR0 (fun x15 y20 I16 J17 hB18 p19 => ?_)
          have q21 : (1 : Int32).toInt = 1 := rfl
          have e22 : ((I7 97 12) : Int32).toInt = (M 97 12).toInt := Eq.trans (congrArg Int32.toInt p10.1) rfl
          have e23 : ((I7 97 14) : Int32).toInt = (M 97 14).toInt := Eq.trans (congrArg Int32.toInt p10.2.2.1) rfl
          have e24 : ((I7 97 16) : Int32).toInt = (M 97 16).toInt := Eq.trans (congrArg Int32.toInt p10.2.2.2.1) rfl
          have b25 := Bd.o hB18 (show isO 112 97 12 = true from rfl) (show bnd 12 12 = some _ from rfl)
          have b26 := Bd.o hB18 (show isO 112 97 12 = true from rfl) (show bnd 12 14 = some _ from rfl)
          have b27 := Bd.o hB18 (show isO 112 97 12 = true from rfl) (show bnd 12 16 = some _ from rfl)
          have b28 := Bd.o hB0 (show isO 112 97 12 = true from rfl) (show bnd 12 12 = some _ from rfl)
          have b29 := Bd.o hB0 (show isO 112 97 12 = true from rfl) (show bnd 12 14 = some _ from rfl)
          have b30 := Bd.o hB0 (show isO 112 97 12 = true from rfl) (show bnd 12 16 = some _ from rfl)
          have e31 : ((if (0 : Int32) < x6 then x6 else 0) : Int32).toInt = max (0) (x6.toInt) := ti_max rfl rfl
          exact hQ _ _ _ _ hB18 ⟨(Eq.trans (Eq.trans p19.1 p10.2.1) hk_97_27), (by have q4 : ((I16 97 12) : Int32).toInt = (I16 97 12).toInt := rfl; have q5 : ((I16 97 14) : Int32).toInt = (I16 97 14).toInt := rfl; have q6 : ((I16 97 16) : Int32).toInt = (I16 97 16).toInt := rfl; have q0 : ((if (0 : Int32) < x6 then x6 else 0) : Int32).toInt = (max (0) (x6.toInt)) := e31; omega)⟩
        · skip
          have d32 : ((x6.toInt) : Int) < (0) := ci_nle rfl rfl c13
          refine sp_X12_fail hB9 hR0 (by have z : (3 : Int32).toInt = 3 := rfl; omega) (fun x33 y38 I34 J35 hB36 p37 => ?_)
          have q39 : (3 : Int32).toInt = 3 := rfl
          have b40 := Bd.o hB9 (show isO 112 97 12 = true from rfl) (show bnd 12 15 = some _ from rfl)
          have q41 : ((I7 97 15) : Int32).toInt = (I7 97 15).toInt := rfl
          have b42 := Bd.o hB36 (show isO 112 97 12 = true from rfl) (show bnd 12 12 = some _ from rfl)
          refine sp_X12_must hB36 hR0 (fun x43 y48 I44 J45 hB46 p47 => ?_)
          have q49 : (1 : Int32).toInt = 1 := rfl
          have e50 : ((I34 97 14) : Int32).toInt = (M 97 14).toInt := Eq.trans (congrArg Int32.toInt (Eq.trans p37.2.1 p10.2.2.1)) rfl
          have e51 : ((I34 97 16) : Int32).toInt = (M 97 16).toInt := Eq.trans (congrArg Int32.toInt (Eq.trans p37.2.2.1 p10.2.2.2.1)) rfl
          have b52 := Bd.o hB46 (show isO 112 97 12 = true from rfl) (show bnd 12 12 = some _ from rfl)
          have b53 := Bd.o hB46 (show isO 112 97 12 = true from rfl) (show bnd 12 14 = some _ from rfl)
          have b54 := Bd.o hB46 (show isO 112 97 12 = true from rfl) (show bnd 12 16 = some _ from rfl)
          have b55 := Bd.o hB0 (show isO 112 97 12 = true from rfl) (show bnd 12 12 = some _ from rfl)
          have b56 := Bd.o hB0 (show isO 112 97 12 = true from rfl) (show bnd 12 14 = some _ from rfl)
          have b57 := Bd.o hB0 (show isO 112 97 12 = true from rfl) (show bnd 12 16 = some _ from rfl)
          have e58 : ((if (0 : Int32) < x6 then x6 else 0) : Int32).toInt = max (0) (x6.toInt) := ti_max rfl rfl
          exact hQ _ _ _ _ hB46 ⟨(Eq.trans (Eq.trans (Eq.trans p47.1 p37.1) p10.2.1) hk_97_27), (by have q4 : ((I44 97 12) : Int32).toInt = (I44 97 12).toInt := rfl; have q5 : ((I44 97 14) : Int32).toInt = (I44 97 14).toInt := rfl; have q6 : ((I44 97 16) : Int32).toInt = (I44 97 16).toInt := rfl; have q0 : ((if (0 : Int32) < x6 then x6 else 0) : Int32).toInt = (max (0) (x6.toInt)) := e58; omega)⟩
      · skip
        have d59 : ((0) : Int) < ((M 97 12).toInt) := ci_nle rfl rfl c4
        have b60 := Bd.o hB0 (show isO 112 97 12 = true from rfl) (show bnd 12 12 = some _ from rfl)
        have b61 := Bd.o hB0 (show isO 112 97 12 = true from rfl) (show bnd 12 14 = some _ from rfl)
        have b62 := Bd.o hB0 (show isO 112 97 12 = true from rfl) (show bnd 12 16 = some _ from rfl)
        exact hQ _ _ _ _ hB ⟨hk_97_27, (by have q4 : ((M 97 12) : Int32).toInt = (M 97 12).toInt := rfl; have q5 : ((M 97 14) : Int32).toInt = (M 97 14).toInt := rfl; have q6 : ((M 97 16) : Int32).toInt = (M 97 16).toInt := rfl; have q0 : (0 : Int32).toInt = 0 := rfl; omega)⟩
  refine sg_X12_readTold_0 hc _ _ _ _ ?_
  refine ⟨fun c63 => ?_, fun c63 => ?_⟩
  · skip
    have b64 := Bd.o hB0 (show isO 112 97 12 = true from rfl) (show bnd 12 12 = some _ from rfl)
    have d65 : ¬ (((I 97 12).toInt) : Int) = (0) := ci_ne rfl rfl c63
    have b66 := Bd.o hB0 (show isO 112 97 12 = true from rfl) (show bnd 12 16 = some _ from rfl)
    have b67 := Bd.o hB0 (show isO 112 97 12 = true from rfl) (show bnd 12 14 = some _ from rfl)
    exact (L 1000000) _ _ hB0 rfl (by have q0 : ((I 97 12) : Int32).toInt = (I 97 12).toInt := rfl; have q1 : ((I 97 16) : Int32).toInt = (I 97 16).toInt := rfl; have q2 : ((I 97 14) : Int32).toInt = (I 97 14).toInt := rfl; omega) (by omega)
  · skip
    have b68 := Bd.o hB0 (show isO 112 97 12 = true from rfl) (show bnd 12 12 = some _ from rfl)
    have d69 : (((I 97 12).toInt) : Int) = (0) := ci_eq rfl rfl c63
    refine sp_X12_isName hB0 hR0 (fun x70 y75 I71 J72 hB73 p74 => ?_)
    intro o76
    have i77 := i32 x70
    refine ⟨fun c78 => ?_, fun c78 => ?_⟩
    · skip
      have d79 : ¬ ((x70.toInt) : Int) = (0) := ci_ne rfl rfl c78
      have e80 : ((I71 97 12) : Int32).toInt = (I 97 12).toInt := Eq.trans (congrArg Int32.toInt p74.1) rfl
      have b81 := Bd.o hB0 (show isO 112 97 12 = true from rfl) (show bnd 12 16 = some _ from rfl)
      have e82 : ((I71 97 16) : Int32).toInt = (I 97 16).toInt := Eq.trans (congrArg Int32.toInt p74.2.2.2) rfl
      have b83 := Bd.o hB0 (show isO 112 97 12 = true from rfl) (show bnd 12 14 = some _ from rfl)
      have e84 : ((I71 97 14) : Int32).toInt = (I 97 14).toInt := Eq.trans (congrArg Int32.toInt p74.2.2.1) rfl
      exact (L 1000000) _ _ hB73 p74.2.1 (by have q0 : ((I71 97 12) : Int32).toInt = (I 97 12).toInt := e80; have q1 : ((I71 97 16) : Int32).toInt = (I 97 16).toInt := e82; have q2 : ((I71 97 14) : Int32).toInt = (I 97 14).toInt := e84; omega) (by omega)
    · skip
      have d85 : ((x70.toInt) : Int) = (0) := ci_eq rfl rfl c78
      refine sp_X12_amiss hB73 hR0 (fun x86 y91 I87 J88 hB89 p90 => ?_)
      have b92 := Bd.o hB89 (show isO 112 97 12 = true from rfl) (show bnd 12 12 = some _ from rfl)
      have b93 := Bd.o hB0 (show isO 112 97 12 = true from rfl) (show bnd 12 16 = some _ from rfl)
      have e94 : ((I87 97 16) : Int32).toInt = (I 97 16).toInt := Eq.trans (congrArg Int32.toInt (Eq.trans p90.2.2.1 p74.2.2.2)) rfl
      have b95 := Bd.o hB0 (show isO 112 97 12 = true from rfl) (show bnd 12 14 = some _ from rfl)
      have e96 : ((I87 97 14) : Int32).toInt = (I 97 14).toInt := Eq.trans (congrArg Int32.toInt (Eq.trans p90.2.1 p74.2.2.1)) rfl
      exact (L 1000000) _ _ hB89 (Eq.trans p90.1 p74.2.1) (by have q0 : ((I87 97 12) : Int32).toInt = (I87 97 12).toInt := rfl; have q1 : ((I87 97 16) : Int32).toInt = (I 97 16).toInt := e94; have q2 : ((I87 97 14) : Int32).toInt = (I 97 14).toInt := e96; omega) (by omega)
set_option maxHeartbeats 2000000 in
theorem sp_X12_readSlices {d : Nat} {Q : Qt} {I : Im} {J : Jm} {R : Rm} (hB0 : Bd I) (hR0 : RI R) (hQ : ∀ (x : Int32) (y : Int64) (I2 : Im) (J2 : Jm), Bd I2 → (I2 97 27 = I 97 27 ∧ ((2 * (901 - (I2 97 16).toInt) + min (I2 97 14).toInt 1) ≤ (2 * (901 - (I 97 16).toInt) + min (I 97 14).toInt 1) ∧ ((I 97 12).toInt = 0 ∨ 1 ≤ (I2 97 12).toInt) ∧ 0 ≤ x.toInt)) → Q x y I2 J2 R) : AM (d + 5) 219 112 [.ref 97] I J R Q := by
  refine am_X12_readSlices (fun P hc => ?_)
  have L : ∀ n : Nat, (∀ (v1 : Int32) (M : Im) (J : Jm), Bd M → (M 97 27 = I 97 27) → (0 ≤ v1.toInt ∧ (M 97 16).toInt ≤ 900 ∧ 0 ≤ (M 97 14).toInt ∧ ((I 97 12).toInt = 0 ∨ 1 ≤ (M 97 12).toInt) ∧ (2 * (901 - (M 97 16).toInt) + min (M 97 14).toInt 1) ≤ (2 * (901 - (I 97 16).toInt) + min (I 97 14).toInt 1)) → 10 * (2 * (901 - (M 97 16).toInt) + min (M 97 14).toInt 1) + (5 - 5 * min (M 97 12).toInt 1) < (n : Int) → P 2 112 [(0, .ref 97), (1, .int v1)] [] M J R) ∧ (∀ (v1 : Int32) (M : Im) (J : Jm), Bd M → (M 97 27 = I 97 27) → (0 ≤ v1.toInt ∧ (M 97 16).toInt ≤ 900 ∧ 1 ≤ (M 97 14).toInt ∧ ((I 97 12).toInt = 0 ∨ 1 ≤ (M 97 12).toInt) ∧ (2 * (901 - (M 97 16).toInt) + min (M 97 14).toInt 1) ≤ (2 * (901 - (I 97 16).toInt) + min (I 97 14).toInt 1)) → 10 * (2 * (901 - (M 97 16).toInt) + min (M 97 14).toInt 1) + 3 < (n : Int) → P 53 112 [(0, .ref 97), (1, .int v1)] [] M J R) := by
    intro n
    induction n with
    | zero =>
      exact ⟨fun v1 M J _ _ hi hm => absurd hm (by omega), fun v1 M J _ _ hi hm => absurd hm (by omega)⟩
    | succ n ih =>
      refine ⟨?_, ?_⟩
      · skip
        intro v1 M J hB hk_97_27 hi hm
        have i_v1 := i32 v1
        refine sg_X12_readSlices_2 hc _ _ _ _ ?_
        have b1 := Bd.o hB (show isO 112 97 12 = true from rfl) (show bnd 12 12 = some _ from rfl)
        have b2 := Bd.o hB (show isO 112 97 12 = true from rfl) (show bnd 12 14 = some _ from rfl)
        have b3 := Bd.o hB (show isO 112 97 12 = true from rfl) (show bnd 12 16 = some _ from rfl)
        refine ⟨fun c4 => ?_, fun c4 => ?_⟩
        · skip
          have d5 : ¬ (((M 97 12).toInt) : Int) = (0) := ci_ne rfl rfl c4
          have b6 := Bd.o hB0 (show isO 112 97 12 = true from rfl) (show bnd 12 12 = some _ from rfl)
          have b7 := Bd.o hB0 (show isO 112 97 12 = true from rfl) (show bnd 12 14 = some _ from rfl)
          have b8 := Bd.o hB0 (show isO 112 97 12 = true from rfl) (show bnd 12 16 = some _ from rfl)
          exact hQ _ _ _ _ hB ⟨hk_97_27, (by have q4 : ((M 97 12) : Int32).toInt = (M 97 12).toInt := rfl; have q5 : ((M 97 14) : Int32).toInt = (M 97 14).toInt := rfl; have q6 : ((M 97 16) : Int32).toInt = (M 97 16).toInt := rfl; have q0 : (v1 : Int32).toInt = v1.toInt := rfl; omega)⟩
        · skip
          have d9 : (((M 97 12).toInt) : Int) = (0) := ci_eq rfl rfl c4
          refine ⟨fun c10 => ?_, fun c10 => ?_⟩
          · skip
            have d11 : ¬ (((M 97 14).toInt) : Int) = (2) := ci_ne rfl rfl c10
            have b12 := Bd.o hB0 (show isO 112 97 12 = true from rfl) (show bnd 12 12 = some _ from rfl)
            have b13 := Bd.o hB0 (show isO 112 97 12 = true from rfl) (show bnd 12 14 = some _ from rfl)
            have b14 := Bd.o hB0 (show isO 112 97 12 = true from rfl) (show bnd 12 16 = some _ from rfl)
            exact hQ _ _ _ _ hB ⟨hk_97_27, (by have q4 : ((M 97 12) : Int32).toInt = (M 97 12).toInt := rfl; have q5 : ((M 97 14) : Int32).toInt = (M 97 14).toInt := rfl; have q6 : ((M 97 16) : Int32).toInt = (M 97 16).toInt := rfl; have q0 : (v1 : Int32).toInt = v1.toInt := rfl; omega)⟩
          · skip
            have d15 : (((M 97 14).toInt) : Int) = (2) := ci_eq rfl rfl c10
            refine sp_X12_mayBe hB hR0 (fun x16 y21 I17 J18 hB19 p20 => ?_)
            have q22 : (1 : Int32).toInt = 1 := rfl
            have q23 : (30 : Int32).toInt = 30 := rfl
            have b24 := Bd.o hB19 (show isO 112 97 12 = true from rfl) (show bnd 12 12 = some _ from rfl)
            have e25 : ((I17 97 17) : Int32).toInt = (M 97 17).toInt := Eq.trans (congrArg Int32.toInt p20.2.2.2.1) rfl
            refine ⟨fun c26 => ?_, fun c26 => ?_⟩
            · skip
              have d27 : ¬ (((I17 97 12).toInt) : Int) = (0) := ci_ne rfl rfl c26
              have e28 : ((I17 97 16) : Int32).toInt = (M 97 16).toInt := Eq.trans (congrArg Int32.toInt p20.2.2.1) rfl
              have e29 : ((I17 97 14) : Int32).toInt = (M 97 14).toInt := Eq.trans (congrArg Int32.toInt p20.2.1) rfl
              exact ih.2 _ _ _ hB19 (Eq.trans p20.1 hk_97_27) (by have q0 : (v1 : Int32).toInt = v1.toInt := rfl; have q1 : ((I17 97 16) : Int32).toInt = (M 97 16).toInt := e28; have q2 : ((I17 97 14) : Int32).toInt = (M 97 14).toInt := e29; have q3 : ((I17 97 12) : Int32).toInt = (I17 97 12).toInt := rfl; have q4 : ((I17 97 16) : Int32).toInt = (M 97 16).toInt := e28; have q5 : ((I17 97 14) : Int32).toInt = (M 97 14).toInt := e29; omega) (by have q0 : ((I17 97 16) : Int32).toInt = (M 97 16).toInt := e28; have q1 : ((I17 97 14) : Int32).toInt = (M 97 14).toInt := e29; omega)
            · skip
              have d30 : (((I17 97 12).toInt) : Int) = (0) := ci_eq rfl rfl c26
              refine w_X12_isOf ?_
              refine ⟨fun c31 => ?_, fun c31 => ?_⟩
              · skip
                have d32 : ¬ (((((v1 >>> (((I17 97 17) - 1) &&& 31)) &&& 1) : Int32).toInt) : Int) = (1) := ci_ne rfl rfl c31
                refine ⟨Or.inl rfl, ?_⟩
                intro o33
                refine ⟨fun c34 => ?_, fun c34 => ?_⟩
                · skip
                  have e35 : ((I17 97 16) : Int32).toInt = (M 97 16).toInt := Eq.trans (congrArg Int32.toInt p20.2.2.1) rfl
                  have e36 : ((I17 97 14) : Int32).toInt = (M 97 14).toInt := Eq.trans (congrArg Int32.toInt p20.2.1) rfl
                  exact ih.2 _ _ _ hB19 (Eq.trans p20.1 hk_97_27) (by have q0 : (v1 : Int32).toInt = v1.toInt := rfl; have q1 : ((I17 97 16) : Int32).toInt = (M 97 16).toInt := e35; have q2 : ((I17 97 14) : Int32).toInt = (M 97 14).toInt := e36; have q3 : ((I17 97 12) : Int32).toInt = (I17 97 12).toInt := rfl; have q4 : ((I17 97 16) : Int32).toInt = (M 97 16).toInt := e35; have q5 : ((I17 97 14) : Int32).toInt = (M 97 14).toInt := e36; omega) (by have q0 : ((I17 97 16) : Int32).toInt = (M 97 16).toInt := e35; have q1 : ((I17 97 14) : Int32).toInt = (M 97 14).toInt := e36; omega)
                · exact absurd c34 (by decide)
              · skip
                have d37 : (((((v1 >>> (((I17 97 17) - 1) &&& 31)) &&& 1) : Int32).toInt) : Int) = (1) := ci_eq rfl rfl c31
                refine ⟨Or.inr rfl, ?_⟩
                intro o38
                refine ⟨fun c39 => ?_, fun c39 => ?_⟩
                · exact absurd c39 (by decide)
                · skip
                  refine sp_X12_fail hB19 hR0 (by have z : (5 : Int32).toInt = 5 := rfl; omega) (fun x40 y45 I41 J42 hB43 p44 => ?_)
                  have q46 : (5 : Int32).toInt = 5 := rfl
                  have b47 := Bd.o hB19 (show isO 112 97 12 = true from rfl) (show bnd 12 15 = some _ from rfl)
                  have q48 : ((I17 97 15) : Int32).toInt = (I17 97 15).toInt := rfl
                  have b49 := Bd.o hB43 (show isO 112 97 12 = true from rfl) (show bnd 12 12 = some _ from rfl)
                  have e50 : ((I41 97 16) : Int32).toInt = (M 97 16).toInt := Eq.trans (congrArg Int32.toInt (Eq.trans p44.2.2.1 p20.2.2.1)) rfl
                  have e51 : ((I41 97 14) : Int32).toInt = (M 97 14).toInt := Eq.trans (congrArg Int32.toInt (Eq.trans p44.2.1 p20.2.1)) rfl
                  exact ih.2 _ _ _ hB43 (Eq.trans (Eq.trans p44.1 p20.1) hk_97_27) (by have q0 : (v1 : Int32).toInt = v1.toInt := rfl; have q1 : ((I41 97 16) : Int32).toInt = (M 97 16).toInt := e50; have q2 : ((I41 97 14) : Int32).toInt = (M 97 14).toInt := e51; have q3 : ((I41 97 12) : Int32).toInt = (I41 97 12).toInt := rfl; have q4 : ((I41 97 16) : Int32).toInt = (M 97 16).toInt := e50; have q5 : ((I41 97 14) : Int32).toInt = (M 97 14).toInt := e51; omega) (by have q0 : ((I41 97 16) : Int32).toInt = (M 97 16).toInt := e50; have q1 : ((I41 97 14) : Int32).toInt = (M 97 14).toInt := e51; omega)
      · skip
        intro v1 M J hB hk_97_27 hi hm
        have i_v1 := i32 v1
        refine sg_X12_readSlices_53 hc _ _ _ _ ?_
        have b52 := Bd.o hB (show isO 112 97 12 = true from rfl) (show bnd 12 12 = some _ from rfl)
        have b53 := Bd.o hB (show isO 112 97 12 = true from rfl) (show bnd 12 14 = some _ from rfl)
        have b54 := Bd.o hB (show isO 112 97 12 = true from rfl) (show bnd 12 16 = some _ from rfl)
        refine sp_X12_count hB hR0 (fun x55 y60 I56 J57 hB58 p59 => ?_)
        have q61 : (1 : Int32).toInt = 1 := rfl
        have q62 : (30 : Int32).toInt = 30 := rfl
        have b63 := Bd.o hB58 (show isO 112 97 12 = true from rfl) (show bnd 12 12 = some _ from rfl)
        have b64 := Bd.o hB58 (show isO 112 97 12 = true from rfl) (show bnd 12 14 = some _ from rfl)
        have b65 := Bd.o hB58 (show isO 112 97 12 = true from rfl) (show bnd 12 16 = some _ from rfl)
        have i66 := i32 x55
        refine ⟨fun c67 => ?_, fun c67 => ?_⟩
        · skip
          have d68 : ¬ (((I56 97 12).toInt) : Int) = (0) := ci_ne rfl rfl c67
          have s69 := ori (show (v1 : Int32).toInt = v1.toInt from rfl) (show (0 : Int32).toInt = 0 from rfl) (by omega) (by omega)
          exact ih.1 _ _ _ hB58 (Eq.trans p59.1 hk_97_27) (by have q0 : ((v1 ||| 0) : Int32).toInt = ((v1 ||| 0) : Int32).toInt := rfl; have q1 : ((I56 97 16) : Int32).toInt = (I56 97 16).toInt := rfl; have q2 : ((I56 97 14) : Int32).toInt = (I56 97 14).toInt := rfl; have q3 : ((I56 97 12) : Int32).toInt = (I56 97 12).toInt := rfl; have q4 : ((I56 97 16) : Int32).toInt = (I56 97 16).toInt := rfl; have q5 : ((I56 97 14) : Int32).toInt = (I56 97 14).toInt := rfl; omega) (by have q0 : ((I56 97 16) : Int32).toInt = (I56 97 16).toInt := rfl; have q1 : ((I56 97 14) : Int32).toInt = (I56 97 14).toInt := rfl; have q2 : ((I56 97 12) : Int32).toInt = (I56 97 12).toInt := rfl; omega)
        · skip
          have d70 : (((I56 97 12).toInt) : Int) = (0) := ci_eq rfl rfl c67
          have e71 : ((x55 - 1) : Int32).toInt = (x55.toInt) - (1) := ti_sub rfl rfl (by omega)
          have s72 := shlp (show ((x55 - 1) : Int32).toInt = (x55.toInt - 1) from e71) (by omega)
          have s73 := ori (show (v1 : Int32).toInt = v1.toInt from rfl) (show ((1 <<< ((x55 - 1) &&& 31)) : Int32).toInt = ((1 <<< ((x55 - 1) &&& 31)) : Int32).toInt from rfl) (by omega) (by omega)
          exact ih.1 _ _ _ hB58 (Eq.trans p59.1 hk_97_27) (by have q0 : ((v1 ||| (1 <<< ((x55 - 1) &&& 31))) : Int32).toInt = ((v1 ||| (1 <<< ((x55 - 1) &&& 31))) : Int32).toInt := rfl; have q1 : ((I56 97 16) : Int32).toInt = (I56 97 16).toInt := rfl; have q2 : ((I56 97 14) : Int32).toInt = (I56 97 14).toInt := rfl; have q3 : ((I56 97 12) : Int32).toInt = (I56 97 12).toInt := rfl; have q4 : ((I56 97 16) : Int32).toInt = (I56 97 16).toInt := rfl; have q5 : ((I56 97 14) : Int32).toInt = (I56 97 14).toInt := rfl; omega) (by have q0 : ((I56 97 16) : Int32).toInt = (I56 97 16).toInt := rfl; have q1 : ((I56 97 14) : Int32).toInt = (I56 97 14).toInt := rfl; have q2 : ((I56 97 12) : Int32).toInt = (I56 97 12).toInt := rfl; omega)
  refine sg_X12_readSlices_0 hc _ _ _ ?_
  have b74 := Bd.o hB0 (show isO 112 97 12 = true from rfl) (show bnd 12 16 = some _ from rfl)
  have b75 := Bd.o hB0 (show isO 112 97 12 = true from rfl) (show bnd 12 14 = some _ from rfl)
  have b76 := Bd.o hB0 (show isO 112 97 12 = true from rfl) (show bnd 12 12 = some _ from rfl)
  exact (L 1000000).1 _ _ _ hB0 rfl (by have q0 : (0 : Int32).toInt = 0 := rfl; have q1 : ((I 97 16) : Int32).toInt = (I 97 16).toInt := rfl; have q2 : ((I 97 14) : Int32).toInt = (I 97 14).toInt := rfl; have q3 : ((I 97 12) : Int32).toInt = (I 97 12).toInt := rfl; have q4 : ((I 97 16) : Int32).toInt = (I 97 16).toInt := rfl; have q5 : ((I 97 14) : Int32).toInt = (I 97 14).toInt := rfl; omega) (by have q0 : ((I 97 16) : Int32).toInt = (I 97 16).toInt := rfl; have q1 : ((I 97 14) : Int32).toInt = (I 97 14).toInt := rfl; have q2 : ((I 97 12) : Int32).toInt = (I 97 12).toInt := rfl; omega)
set_option maxHeartbeats 2000000 in
theorem sp_X12_readOdds {d : Nat} {Q : Qt} {I : Im} {J : Jm} {R : Rm} (hB0 : Bd I) (hR0 : RI R) (hQ : ∀ (x : Int32) (y : Int64) (I2 : Im) (J2 : Jm), Bd I2 → (I2 97 27 = I 97 27 ∧ ((2 * (901 - (I2 97 16).toInt) + min (I2 97 14).toInt 1) ≤ (2 * (901 - (I 97 16).toInt) + min (I 97 14).toInt 1) ∧ ((I 97 12).toInt = 0 ∨ 1 ≤ (I2 97 12).toInt))) → Q x y I2 J2 R) : AM (d + 5) 228 112 [.ref 97] I J R Q := by
  refine am_X12_readOdds (fun P hc => ?_)
  have L : ∀ n : Nat, (∀ (M : Im) (J : Jm), Bd M → (M 97 27 = I 97 27) → (((I 97 12).toInt = 0 ∨ 1 ≤ (M 97 12).toInt) ∧ (2 * (901 - (M 97 16).toInt) + min (M 97 14).toInt 1) ≤ (2 * (901 - (I 97 16).toInt) + min (I 97 14).toInt 1)) → 1 < (n : Int) → P 16 112 [(0, .ref 97)] [] M J R) := by
    intro n
    induction n with
    | zero =>
      exact fun  M J _ _ hi hm => absurd hm (by omega)
    | succ n ih =>
      intro  M J hB hk_97_27 hi hm
      refine sg_X12_readOdds_16 hc _ _ _ ?_
      have b1 := Bd.o hB (show isO 112 97 12 = true from rfl) (show bnd 12 12 = some _ from rfl)
      have b2 := Bd.o hB (show isO 112 97 12 = true from rfl) (show bnd 12 14 = some _ from rfl)
      have b3 := Bd.o hB (show isO 112 97 12 = true from rfl) (show bnd 12 16 = some _ from rfl)
      refine ⟨Or.inr rfl, ?_⟩
      have hB4 : Bd (uI M 97 24 1) := Bd.o1 hB (show isO 112 97 12 = true from rfl) (by omega) (show bnd 12 24 = some _ from rfl) rfl (bl_ti (Or.inr rfl))
      refine sp_X12_must hB4 hR0 (fun x5 y10 I6 J7 hB8 p9 => ?_)
      have q11 : (1 : Int32).toInt = 1 := rfl
      have e12 : (((uI M 97 24 1) 97 12) : Int32).toInt = (M 97 12).toInt := Eq.trans (congrArg Int32.toInt (rd_k (by decide))) rfl
      have e13 : (((uI M 97 24 1) 97 14) : Int32).toInt = (M 97 14).toInt := Eq.trans (congrArg Int32.toInt (rd_k (by decide))) rfl
      have e14 : (((uI M 97 24 1) 97 16) : Int32).toInt = (M 97 16).toInt := Eq.trans (congrArg Int32.toInt (rd_k (by decide))) rfl
      have b15 := Bd.o hB8 (show isO 112 97 12 = true from rfl) (show bnd 12 12 = some _ from rfl)
      have b16 := Bd.o hB8 (show isO 112 97 12 = true from rfl) (show bnd 12 14 = some _ from rfl)
      have b17 := Bd.o hB8 (show isO 112 97 12 = true from rfl) (show bnd 12 16 = some _ from rfl)
      refine sp_X12_count hB8 hR0 (fun x18 y23 I19 J20 hB21 p22 => ?_)
      have q24 : (0 : Int32).toInt = 0 := rfl
      have q25 : (16 : Int32).toInt = 16 := rfl
      have b26 := Bd.o hB21 (show isO 112 97 12 = true from rfl) (show bnd 12 12 = some _ from rfl)
      have b27 := Bd.o hB21 (show isO 112 97 12 = true from rfl) (show bnd 12 14 = some _ from rfl)
      have b28 := Bd.o hB21 (show isO 112 97 12 = true from rfl) (show bnd 12 16 = some _ from rfl)
      have i29 := i32 x18
      refine ⟨fun c30 => ?_, fun c30 => ?_⟩
      · skip
        have d31 : ¬ (((I19 97 12).toInt) : Int) = (0) := ci_ne rfl rfl c30
        have b32 := Bd.o hB0 (show isO 112 97 12 = true from rfl) (show bnd 12 12 = some _ from rfl)
        have b33 := Bd.o hB0 (show isO 112 97 12 = true from rfl) (show bnd 12 14 = some _ from rfl)
        have b34 := Bd.o hB0 (show isO 112 97 12 = true from rfl) (show bnd 12 16 = some _ from rfl)
        exact hQ _ _ _ _ hB21 ⟨(Eq.trans (Eq.trans (Eq.trans p22.1 p9.1) (rd_k (by decide))) hk_97_27), (by have q4 : ((I19 97 12) : Int32).toInt = (I19 97 12).toInt := rfl; have q5 : ((I19 97 14) : Int32).toInt = (I19 97 14).toInt := rfl; have q6 : ((I19 97 16) : Int32).toInt = (I19 97 16).toInt := rfl; omega)⟩
      · skip
        have d35 : (((I19 97 12).toInt) : Int) = (0) := ci_eq rfl rfl c30
        refine ⟨vp_of (a := 1297) rfl (by omega) (by omega), ?_⟩
        have hB36 : Bd (uI I19 102 (Int32.toNatClampNeg 1297) x18) := Bd.cfree hB21 (show (1297 : Int32).toInt = 1297 from rfl) (by omega) (by omega) (by omega) (by omega)
        have b37 := Bd.o hB0 (show isO 112 97 12 = true from rfl) (show bnd 12 12 = some _ from rfl)
        have b38 := Bd.o hB0 (show isO 112 97 12 = true from rfl) (show bnd 12 14 = some _ from rfl)
        have b39 := Bd.o hB0 (show isO 112 97 12 = true from rfl) (show bnd 12 16 = some _ from rfl)
        have e40 : (((uI I19 102 (Int32.toNatClampNeg 1297) x18) 97 12) : Int32).toInt = (I19 97 12).toInt := Eq.trans (congrArg Int32.toInt (rd_ne (by omega))) rfl
        have e41 : (((uI I19 102 (Int32.toNatClampNeg 1297) x18) 97 14) : Int32).toInt = (I19 97 14).toInt := Eq.trans (congrArg Int32.toInt (rd_ne (by omega))) rfl
        have e42 : (((uI I19 102 (Int32.toNatClampNeg 1297) x18) 97 16) : Int32).toInt = (I19 97 16).toInt := Eq.trans (congrArg Int32.toInt (rd_ne (by omega))) rfl
        exact hQ _ _ _ _ hB36 ⟨(Eq.trans (Eq.trans (Eq.trans (Eq.trans (rd_ne (by omega)) p22.1) p9.1) (rd_k (by decide))) hk_97_27), (by have q4 : (((uI I19 102 (Int32.toNatClampNeg 1297) x18) 97 12) : Int32).toInt = (I19 97 12).toInt := e40; have q5 : (((uI I19 102 (Int32.toNatClampNeg 1297) x18) 97 14) : Int32).toInt = (I19 97 14).toInt := e41; have q6 : (((uI I19 102 (Int32.toNatClampNeg 1297) x18) 97 16) : Int32).toInt = (I19 97 16).toInt := e42; omega)⟩
  refine sg_X12_readOdds_0 hc _ _ _ ?_
  refine ⟨fun c43 => ?_, fun c43 => ?_⟩
  · skip
    have b44 := Bd.o hB0 (show isO 112 97 12 = true from rfl) (show bnd 12 24 = some _ from rfl)
    have d45 : (((I 97 24).toInt) : Int) = (0) := ci_eq rfl rfl c43
    have b46 := Bd.o hB0 (show isO 112 97 12 = true from rfl) (show bnd 12 12 = some _ from rfl)
    have b47 := Bd.o hB0 (show isO 112 97 12 = true from rfl) (show bnd 12 16 = some _ from rfl)
    have b48 := Bd.o hB0 (show isO 112 97 12 = true from rfl) (show bnd 12 14 = some _ from rfl)
    exact (L 1000000) _ _ hB0 rfl (by have q0 : ((I 97 12) : Int32).toInt = (I 97 12).toInt := rfl; have q1 : ((I 97 16) : Int32).toInt = (I 97 16).toInt := rfl; have q2 : ((I 97 14) : Int32).toInt = (I 97 14).toInt := rfl; omega) (by omega)
  · skip
    have b49 := Bd.o hB0 (show isO 112 97 12 = true from rfl) (show bnd 12 24 = some _ from rfl)
    have d50 : ¬ (((I 97 24).toInt) : Int) = (0) := ci_ne rfl rfl c43
    refine sp_X12_fail hB0 hR0 (by have z : (5 : Int32).toInt = 5 := rfl; omega) (fun x51 y56 I52 J53 hB54 p55 => ?_)
    have q57 : (5 : Int32).toInt = 5 := rfl
    have b58 := Bd.o hB0 (show isO 112 97 12 = true from rfl) (show bnd 12 15 = some _ from rfl)
    have q59 : ((I 97 15) : Int32).toInt = (I 97 15).toInt := rfl
    have b60 := Bd.o hB54 (show isO 112 97 12 = true from rfl) (show bnd 12 12 = some _ from rfl)
    have b61 := Bd.o hB0 (show isO 112 97 12 = true from rfl) (show bnd 12 16 = some _ from rfl)
    have e62 : ((I52 97 16) : Int32).toInt = (I 97 16).toInt := Eq.trans (congrArg Int32.toInt p55.2.2.1) rfl
    have b63 := Bd.o hB0 (show isO 112 97 12 = true from rfl) (show bnd 12 14 = some _ from rfl)
    have e64 : ((I52 97 14) : Int32).toInt = (I 97 14).toInt := Eq.trans (congrArg Int32.toInt p55.2.1) rfl
    exact (L 1000000) _ _ hB54 p55.1 (by have q0 : ((I52 97 12) : Int32).toInt = (I52 97 12).toInt := rfl; have q1 : ((I52 97 16) : Int32).toInt = (I 97 16).toInt := e62; have q2 : ((I52 97 14) : Int32).toInt = (I 97 14).toInt := e64; omega) (by omega)
set_option maxHeartbeats 2000000 in
theorem sp_X12_readKnown {d : Nat} {Q : Qt} {I : Im} {J : Jm} {R : Rm} (hB0 : Bd I) (hR0 : RI R) (hQ : ∀ (x : Int32) (y : Int64) (I2 : Im) (J2 : Jm), Bd I2 → (I2 97 27 = I 97 27 ∧ ((2 * (901 - (I2 97 16).toInt) + min (I2 97 14).toInt 1) ≤ (2 * (901 - (I 97 16).toInt) + min (I 97 14).toInt 1) ∧ ((I 97 12).toInt = 0 ∨ 1 ≤ (I2 97 12).toInt))) → Q x y I2 J2 R) : AM (d + 6) 229 112 [.ref 97] I J R Q := by
  refine am_X12_readKnown (fun P hc => ?_)
  have L : ∀ n : Nat, (∀ (M : Im) (J : Jm), Bd M → (M 97 27 = I 97 27) → (((I 97 12).toInt = 0 ∨ 1 ≤ (M 97 12).toInt) ∧ (2 * (901 - (M 97 16).toInt) + min (M 97 14).toInt 1) ≤ (2 * (901 - (I 97 16).toInt) + min (I 97 14).toInt 1)) → 1 < (n : Int) → P 16 112 [(0, .ref 97)] [] M J R) := by
    intro n
    induction n with
    | zero =>
      exact fun  M J _ _ hi hm => absurd hm (by omega)
    | succ n ih =>
      intro  M J hB hk_97_27 hi hm
      refine sg_X12_readKnown_16 hc _ _ _ ?_
      have b1 := Bd.o hB (show isO 112 97 12 = true from rfl) (show bnd 12 12 = some _ from rfl)
      have b2 := Bd.o hB (show isO 112 97 12 = true from rfl) (show bnd 12 14 = some _ from rfl)
      have b3 := Bd.o hB (show isO 112 97 12 = true from rfl) (show bnd 12 16 = some _ from rfl)
      refine ⟨Or.inr rfl, ?_⟩
      have hB4 : Bd (uI M 97 25 1) := Bd.o1 hB (show isO 112 97 12 = true from rfl) (by omega) (show bnd 12 25 = some _ from rfl) rfl (bl_ti (Or.inr rfl))
      refine sp_X12_must hB4 hR0 (fun x5 y10 I6 J7 hB8 p9 => ?_)
      have q11 : (1 : Int32).toInt = 1 := rfl
      have e12 : (((uI M 97 25 1) 97 12) : Int32).toInt = (M 97 12).toInt := Eq.trans (congrArg Int32.toInt (rd_k (by decide))) rfl
      have e13 : (((uI M 97 25 1) 97 14) : Int32).toInt = (M 97 14).toInt := Eq.trans (congrArg Int32.toInt (rd_k (by decide))) rfl
      have e14 : (((uI M 97 25 1) 97 16) : Int32).toInt = (M 97 16).toInt := Eq.trans (congrArg Int32.toInt (rd_k (by decide))) rfl
      have b15 := Bd.o hB8 (show isO 112 97 12 = true from rfl) (show bnd 12 12 = some _ from rfl)
      have b16 := Bd.o hB8 (show isO 112 97 12 = true from rfl) (show bnd 12 14 = some _ from rfl)
      have b17 := Bd.o hB8 (show isO 112 97 12 = true from rfl) (show bnd 12 16 = some _ from rfl)
      refine sp_X12_readSlices hB8 hR0 (fun x18 y23 I19 J20 hB21 p22 => ?_)
      have b24 := Bd.o hB21 (show isO 112 97 12 = true from rfl) (show bnd 12 12 = some _ from rfl)
      have b25 := Bd.o hB21 (show isO 112 97 12 = true from rfl) (show bnd 12 14 = some _ from rfl)
      have b26 := Bd.o hB21 (show isO 112 97 12 = true from rfl) (show bnd 12 16 = some _ from rfl)
      have i27 := i32 x18
      refine ⟨fun c28 => ?_, fun c28 => ?_⟩
      · skip
        have d29 : ¬ (((I19 97 12).toInt) : Int) = (0) := ci_ne rfl rfl c28
        have b30 := Bd.o hB0 (show isO 112 97 12 = true from rfl) (show bnd 12 12 = some _ from rfl)
        have b31 := Bd.o hB0 (show isO 112 97 12 = true from rfl) (show bnd 12 14 = some _ from rfl)
        have b32 := Bd.o hB0 (show isO 112 97 12 = true from rfl) (show bnd 12 16 = some _ from rfl)
        exact hQ _ _ _ _ hB21 ⟨(Eq.trans (Eq.trans (Eq.trans p22.1 p9.1) (rd_k (by decide))) hk_97_27), (by have q4 : ((I19 97 12) : Int32).toInt = (I19 97 12).toInt := rfl; have q5 : ((I19 97 14) : Int32).toInt = (I19 97 14).toInt := rfl; have q6 : ((I19 97 16) : Int32).toInt = (I19 97 16).toInt := rfl; omega)⟩
      · skip
        have d33 : (((I19 97 12).toInt) : Int) = (0) := ci_eq rfl rfl c28
        refine ⟨vp_of (a := 1299) rfl (by omega) (by omega), ?_⟩
        have hB34 : Bd (uI I19 102 (Int32.toNatClampNeg 1299) x18) := Bd.cknown hB21 (show (1299 : Int32).toInt = 1299 from rfl) (show (x18 : Int32).toInt = x18.toInt from rfl) (by omega) (by omega) (by omega) 
        have b35 := Bd.o hB0 (show isO 112 97 12 = true from rfl) (show bnd 12 12 = some _ from rfl)
        have b36 := Bd.o hB0 (show isO 112 97 12 = true from rfl) (show bnd 12 14 = some _ from rfl)
        have b37 := Bd.o hB0 (show isO 112 97 12 = true from rfl) (show bnd 12 16 = some _ from rfl)
        have e38 : (((uI I19 102 (Int32.toNatClampNeg 1299) x18) 97 12) : Int32).toInt = (I19 97 12).toInt := Eq.trans (congrArg Int32.toInt (rd_ne (by omega))) rfl
        have e39 : (((uI I19 102 (Int32.toNatClampNeg 1299) x18) 97 14) : Int32).toInt = (I19 97 14).toInt := Eq.trans (congrArg Int32.toInt (rd_ne (by omega))) rfl
        have e40 : (((uI I19 102 (Int32.toNatClampNeg 1299) x18) 97 16) : Int32).toInt = (I19 97 16).toInt := Eq.trans (congrArg Int32.toInt (rd_ne (by omega))) rfl
        exact hQ _ _ _ _ hB34 ⟨(Eq.trans (Eq.trans (Eq.trans (Eq.trans (rd_ne (by omega)) p22.1) p9.1) (rd_k (by decide))) hk_97_27), (by have q4 : (((uI I19 102 (Int32.toNatClampNeg 1299) x18) 97 12) : Int32).toInt = (I19 97 12).toInt := e38; have q5 : (((uI I19 102 (Int32.toNatClampNeg 1299) x18) 97 14) : Int32).toInt = (I19 97 14).toInt := e39; have q6 : (((uI I19 102 (Int32.toNatClampNeg 1299) x18) 97 16) : Int32).toInt = (I19 97 16).toInt := e40; omega)⟩
  refine sg_X12_readKnown_0 hc _ _ _ ?_
  refine ⟨fun c41 => ?_, fun c41 => ?_⟩
  · skip
    have b42 := Bd.o hB0 (show isO 112 97 12 = true from rfl) (show bnd 12 25 = some _ from rfl)
    have d43 : (((I 97 25).toInt) : Int) = (0) := ci_eq rfl rfl c41
    have b44 := Bd.o hB0 (show isO 112 97 12 = true from rfl) (show bnd 12 12 = some _ from rfl)
    have b45 := Bd.o hB0 (show isO 112 97 12 = true from rfl) (show bnd 12 16 = some _ from rfl)
    have b46 := Bd.o hB0 (show isO 112 97 12 = true from rfl) (show bnd 12 14 = some _ from rfl)
    exact (L 1000000) _ _ hB0 rfl (by have q0 : ((I 97 12) : Int32).toInt = (I 97 12).toInt := rfl; have q1 : ((I 97 16) : Int32).toInt = (I 97 16).toInt := rfl; have q2 : ((I 97 14) : Int32).toInt = (I 97 14).toInt := rfl; omega) (by omega)
  · skip
    have b47 := Bd.o hB0 (show isO 112 97 12 = true from rfl) (show bnd 12 25 = some _ from rfl)
    have d48 : ¬ (((I 97 25).toInt) : Int) = (0) := ci_ne rfl rfl c41
    refine sp_X12_fail hB0 hR0 (by have z : (5 : Int32).toInt = 5 := rfl; omega) (fun x49 y54 I50 J51 hB52 p53 => ?_)
    have q55 : (5 : Int32).toInt = 5 := rfl
    have b56 := Bd.o hB0 (show isO 112 97 12 = true from rfl) (show bnd 12 15 = some _ from rfl)
    have q57 : ((I 97 15) : Int32).toInt = (I 97 15).toInt := rfl
    have b58 := Bd.o hB52 (show isO 112 97 12 = true from rfl) (show bnd 12 12 = some _ from rfl)
    have b59 := Bd.o hB0 (show isO 112 97 12 = true from rfl) (show bnd 12 16 = some _ from rfl)
    have e60 : ((I50 97 16) : Int32).toInt = (I 97 16).toInt := Eq.trans (congrArg Int32.toInt p53.2.2.1) rfl
    have b61 := Bd.o hB0 (show isO 112 97 12 = true from rfl) (show bnd 12 14 = some _ from rfl)
    have e62 : ((I50 97 14) : Int32).toInt = (I 97 14).toInt := Eq.trans (congrArg Int32.toInt p53.2.1) rfl
    exact (L 1000000) _ _ hB52 p53.1 (by have q0 : ((I50 97 12) : Int32).toInt = (I50 97 12).toInt := rfl; have q1 : ((I50 97 16) : Int32).toInt = (I 97 16).toInt := e60; have q2 : ((I50 97 14) : Int32).toInt = (I 97 14).toInt := e62; omega) (by omega)
set_option maxHeartbeats 2000000 in
theorem sp_X12_readStore {d : Nat} {Q : Qt} {I : Im} {J : Jm} {R : Rm} (hB0 : Bd I) (hR0 : RI R) (hQ : ∀ (x : Int32) (y : Int64) (I2 : Im) (J2 : Jm), Bd I2 → (I2 97 27 = I 97 27 ∧ ((2 * (901 - (I2 97 16).toInt) + min (I2 97 14).toInt 1) ≤ (2 * (901 - (I 97 16).toInt) + min (I 97 14).toInt 1) ∧ ((I 97 12).toInt = 0 ∨ 1 ≤ (I2 97 12).toInt))) → Q x y I2 J2 R) : AM (d + 5) 230 112 [.ref 97] I J R Q := by
  refine am_X12_readStore (fun P hc => ?_)
  have L : ∀ n : Nat, (∀ (M : Im) (J : Jm), Bd M → (M 97 27 = I 97 27) → (((I 97 12).toInt = 0 ∨ 1 ≤ (M 97 12).toInt) ∧ (2 * (901 - (M 97 16).toInt) + min (M 97 14).toInt 1) ≤ (2 * (901 - (I 97 16).toInt) + min (I 97 14).toInt 1)) → 1 < (n : Int) → P 44 112 [(0, .ref 97)] [] M J R) := by
    intro n
    induction n with
    | zero =>
      exact fun  M J _ _ hi hm => absurd hm (by omega)
    | succ n ih =>
      intro  M J hB hk_97_27 hi hm
      refine sg_X12_readStore_44 hc _ _ _ ?_
      have b1 := Bd.o hB (show isO 112 97 12 = true from rfl) (show bnd 12 12 = some _ from rfl)
      have b2 := Bd.o hB (show isO 112 97 12 = true from rfl) (show bnd 12 14 = some _ from rfl)
      have b3 := Bd.o hB (show isO 112 97 12 = true from rfl) (show bnd 12 16 = some _ from rfl)
      refine sp_X12_count hB hR0 (fun x4 y9 I5 J6 hB7 p8 => ?_)
      have q10 : (1 : Int32).toInt = 1 := rfl
      have q11 : (30 : Int32).toInt = 30 := rfl
      have b12 := Bd.o hB7 (show isO 112 97 12 = true from rfl) (show bnd 12 12 = some _ from rfl)
      have b13 := Bd.o hB7 (show isO 112 97 12 = true from rfl) (show bnd 12 14 = some _ from rfl)
      have b14 := Bd.o hB7 (show isO 112 97 12 = true from rfl) (show bnd 12 16 = some _ from rfl)
      have i15 := i32 x4
      refine sp_X12_isTimes hB7 hR0 (fun x16 y21 I17 J18 hB19 p20 => ?_)
      intro o22
      have i23 := i32 x16
      refine sp_X12_perhaps hB19 hR0 (fun x24 y29 I25 J26 hB27 p28 => ?_)
      intro o30
      have e31 : ((I17 97 12) : Int32).toInt = (I5 97 12).toInt := Eq.trans (congrArg Int32.toInt p20.1) rfl
      have e32 : ((I17 97 14) : Int32).toInt = (I5 97 14).toInt := Eq.trans (congrArg Int32.toInt p20.2.2.1) rfl
      have e33 : ((I17 97 16) : Int32).toInt = (I5 97 16).toInt := Eq.trans (congrArg Int32.toInt p20.2.2.2.1) rfl
      have b34 := Bd.o hB27 (show isO 112 97 12 = true from rfl) (show bnd 12 12 = some _ from rfl)
      have b35 := Bd.o hB27 (show isO 112 97 12 = true from rfl) (show bnd 12 14 = some _ from rfl)
      have b36 := Bd.o hB27 (show isO 112 97 12 = true from rfl) (show bnd 12 16 = some _ from rfl)
      have i37 := i32 x24
      refine ⟨fun c38 => ?_, fun c38 => ?_⟩
      · skip
        have d39 : ((x24.toInt) : Int) = (0) := ci_eq rfl rfl c38
        refine ⟨fun c40 => ?_, fun c40 => ?_⟩
        · skip
          have d41 : (((I25 97 12).toInt) : Int) ≤ (0) := ci_le rfl rfl c40
          have hB42 : Bd (uI I25 97 26 ((I25 97 26) ||| (1 <<< ((x4 - 1) &&& 31)))) := Bd.o0 hB27 (show isO 112 97 12 = true from rfl) (by omega) (show bnd 12 26 = none from rfl)
          have e43 : ((1300 + x4) : Int32).toInt = (1300) + (x4.toInt) := ti_add rfl rfl (by omega)
          have e44 : (((1300 + x4) - 1) : Int32).toInt = ((1300 + x4.toInt)) - (1) := ti_sub e43 rfl (by omega)
          refine ⟨vp_of (a := ((1300 + x4.toInt) - 1)) e44 (by omega) (by omega), ?_⟩
          have hB45 : Bd (uI (uI I25 97 26 ((I25 97 26) ||| (1 <<< ((x4 - 1) &&& 31)))) 102 (Int32.toNatClampNeg ((1300 + x4) - 1)) 1) := Bd.cfree hB42 (show (((1300 + x4) - 1) : Int32).toInt = ((1300 + x4.toInt) - 1) from e44) (by omega) (by omega) (by omega) (by omega)
          have b46 := Bd.o hB0 (show isO 112 97 12 = true from rfl) (show bnd 12 12 = some _ from rfl)
          have b47 := Bd.o hB0 (show isO 112 97 12 = true from rfl) (show bnd 12 14 = some _ from rfl)
          have b48 := Bd.o hB0 (show isO 112 97 12 = true from rfl) (show bnd 12 16 = some _ from rfl)
          have e49 : (((uI (uI I25 97 26 ((I25 97 26) ||| (1 <<< ((x4 - 1) &&& 31)))) 102 (Int32.toNatClampNeg ((1300 + x4) - 1)) 1) 97 12) : Int32).toInt = (I25 97 12).toInt := Eq.trans (congrArg Int32.toInt (Eq.trans (rd_ne (by omega)) (rd_k (by decide)))) rfl
          have e50 : (((uI (uI I25 97 26 ((I25 97 26) ||| (1 <<< ((x4 - 1) &&& 31)))) 102 (Int32.toNatClampNeg ((1300 + x4) - 1)) 1) 97 14) : Int32).toInt = (I25 97 14).toInt := Eq.trans (congrArg Int32.toInt (Eq.trans (rd_ne (by omega)) (rd_k (by decide)))) rfl
          have e51 : (((uI (uI I25 97 26 ((I25 97 26) ||| (1 <<< ((x4 - 1) &&& 31)))) 102 (Int32.toNatClampNeg ((1300 + x4) - 1)) 1) 97 16) : Int32).toInt = (I25 97 16).toInt := Eq.trans (congrArg Int32.toInt (Eq.trans (rd_ne (by omega)) (rd_k (by decide)))) rfl
          exact hQ _ _ _ _ hB45 ⟨(Eq.trans (Eq.trans (Eq.trans (Eq.trans (Eq.trans (rd_ne (by omega)) (rd_k (by decide))) p28.1) p20.2.1) p8.1) hk_97_27), (by have q4 : (((uI (uI I25 97 26 ((I25 97 26) ||| (1 <<< ((x4 - 1) &&& 31)))) 102 (Int32.toNatClampNeg ((1300 + x4) - 1)) 1) 97 12) : Int32).toInt = (I25 97 12).toInt := e49; have q5 : (((uI (uI I25 97 26 ((I25 97 26) ||| (1 <<< ((x4 - 1) &&& 31)))) 102 (Int32.toNatClampNeg ((1300 + x4) - 1)) 1) 97 14) : Int32).toInt = (I25 97 14).toInt := e50; have q6 : (((uI (uI I25 97 26 ((I25 97 26) ||| (1 <<< ((x4 - 1) &&& 31)))) 102 (Int32.toNatClampNeg ((1300 + x4) - 1)) 1) 97 16) : Int32).toInt = (I25 97 16).toInt := e51; omega)⟩
        · skip
          have d52 : ((0) : Int) < ((I25 97 12).toInt) := ci_nle rfl rfl c40
          have b53 := Bd.o hB0 (show isO 112 97 12 = true from rfl) (show bnd 12 12 = some _ from rfl)
          have b54 := Bd.o hB0 (show isO 112 97 12 = true from rfl) (show bnd 12 14 = some _ from rfl)
          have b55 := Bd.o hB0 (show isO 112 97 12 = true from rfl) (show bnd 12 16 = some _ from rfl)
          exact hQ _ _ _ _ hB27 ⟨(Eq.trans (Eq.trans (Eq.trans p28.1 p20.2.1) p8.1) hk_97_27), (by have q4 : ((I25 97 12) : Int32).toInt = (I25 97 12).toInt := rfl; have q5 : ((I25 97 14) : Int32).toInt = (I25 97 14).toInt := rfl; have q6 : ((I25 97 16) : Int32).toInt = (I25 97 16).toInt := rfl; omega)⟩
      · skip
        have d56 : ¬ ((x24.toInt) : Int) = (0) := ci_ne rfl rfl c38
        refine sp_X12_count hB27 hR0 (fun x57 y62 I58 J59 hB60 p61 => ?_)
        have q63 : (0 : Int32).toInt = 0 := rfl
        have q64 : (99 : Int32).toInt = 99 := rfl
        have b65 := Bd.o hB60 (show isO 112 97 12 = true from rfl) (show bnd 12 12 = some _ from rfl)
        have b66 := Bd.o hB60 (show isO 112 97 12 = true from rfl) (show bnd 12 14 = some _ from rfl)
        have b67 := Bd.o hB60 (show isO 112 97 12 = true from rfl) (show bnd 12 16 = some _ from rfl)
        have i68 := i32 x57
        refine ⟨fun c69 => ?_, fun c69 => ?_⟩
        · skip
          have d70 : (((I58 97 12).toInt) : Int) ≤ (0) := ci_le rfl rfl c69
          have hB71 : Bd (uI I58 97 26 ((I58 97 26) ||| (1 <<< ((x4 - 1) &&& 31)))) := Bd.o0 hB60 (show isO 112 97 12 = true from rfl) (by omega) (show bnd 12 26 = none from rfl)
          have e72 : ((1300 + x4) : Int32).toInt = (1300) + (x4.toInt) := ti_add rfl rfl (by omega)
          have e73 : (((1300 + x4) - 1) : Int32).toInt = ((1300 + x4.toInt)) - (1) := ti_sub e72 rfl (by omega)
          refine ⟨vp_of (a := ((1300 + x4.toInt) - 1)) e73 (by omega) (by omega), ?_⟩
          have hB74 : Bd (uI (uI I58 97 26 ((I58 97 26) ||| (1 <<< ((x4 - 1) &&& 31)))) 102 (Int32.toNatClampNeg ((1300 + x4) - 1)) x57) := Bd.cfree hB71 (show (((1300 + x4) - 1) : Int32).toInt = ((1300 + x4.toInt) - 1) from e73) (by omega) (by omega) (by omega) (by omega)
          have b75 := Bd.o hB0 (show isO 112 97 12 = true from rfl) (show bnd 12 12 = some _ from rfl)
          have b76 := Bd.o hB0 (show isO 112 97 12 = true from rfl) (show bnd 12 14 = some _ from rfl)
          have b77 := Bd.o hB0 (show isO 112 97 12 = true from rfl) (show bnd 12 16 = some _ from rfl)
          have e78 : (((uI (uI I58 97 26 ((I58 97 26) ||| (1 <<< ((x4 - 1) &&& 31)))) 102 (Int32.toNatClampNeg ((1300 + x4) - 1)) x57) 97 12) : Int32).toInt = (I58 97 12).toInt := Eq.trans (congrArg Int32.toInt (Eq.trans (rd_ne (by omega)) (rd_k (by decide)))) rfl
          have e79 : (((uI (uI I58 97 26 ((I58 97 26) ||| (1 <<< ((x4 - 1) &&& 31)))) 102 (Int32.toNatClampNeg ((1300 + x4) - 1)) x57) 97 14) : Int32).toInt = (I58 97 14).toInt := Eq.trans (congrArg Int32.toInt (Eq.trans (rd_ne (by omega)) (rd_k (by decide)))) rfl
          have e80 : (((uI (uI I58 97 26 ((I58 97 26) ||| (1 <<< ((x4 - 1) &&& 31)))) 102 (Int32.toNatClampNeg ((1300 + x4) - 1)) x57) 97 16) : Int32).toInt = (I58 97 16).toInt := Eq.trans (congrArg Int32.toInt (Eq.trans (rd_ne (by omega)) (rd_k (by decide)))) rfl
          exact hQ _ _ _ _ hB74 ⟨(Eq.trans (Eq.trans (Eq.trans (Eq.trans (Eq.trans (Eq.trans (rd_ne (by omega)) (rd_k (by decide))) p61.1) p28.1) p20.2.1) p8.1) hk_97_27), (by have q4 : (((uI (uI I58 97 26 ((I58 97 26) ||| (1 <<< ((x4 - 1) &&& 31)))) 102 (Int32.toNatClampNeg ((1300 + x4) - 1)) x57) 97 12) : Int32).toInt = (I58 97 12).toInt := e78; have q5 : (((uI (uI I58 97 26 ((I58 97 26) ||| (1 <<< ((x4 - 1) &&& 31)))) 102 (Int32.toNatClampNeg ((1300 + x4) - 1)) x57) 97 14) : Int32).toInt = (I58 97 14).toInt := e79; have q6 : (((uI (uI I58 97 26 ((I58 97 26) ||| (1 <<< ((x4 - 1) &&& 31)))) 102 (Int32.toNatClampNeg ((1300 + x4) - 1)) x57) 97 16) : Int32).toInt = (I58 97 16).toInt := e80; omega)⟩
        · skip
          have d81 : ((0) : Int) < ((I58 97 12).toInt) := ci_nle rfl rfl c69
          have b82 := Bd.o hB0 (show isO 112 97 12 = true from rfl) (show bnd 12 12 = some _ from rfl)
          have b83 := Bd.o hB0 (show isO 112 97 12 = true from rfl) (show bnd 12 14 = some _ from rfl)
          have b84 := Bd.o hB0 (show isO 112 97 12 = true from rfl) (show bnd 12 16 = some _ from rfl)
          exact hQ _ _ _ _ hB60 ⟨(Eq.trans (Eq.trans (Eq.trans (Eq.trans p61.1 p28.1) p20.2.1) p8.1) hk_97_27), (by have q4 : ((I58 97 12) : Int32).toInt = (I58 97 12).toInt := rfl; have q5 : ((I58 97 14) : Int32).toInt = (I58 97 14).toInt := rfl; have q6 : ((I58 97 16) : Int32).toInt = (I58 97 16).toInt := rfl; omega)⟩
  refine sg_X12_readStore_0 hc _ _ _ ?_
  refine sp_X12_must hB0 hR0 (fun x85 y90 I86 J87 hB88 p89 => ?_)
  have q91 : (1 : Int32).toInt = 1 := rfl
  have b92 := Bd.o hB0 (show isO 112 97 12 = true from rfl) (show bnd 12 12 = some _ from rfl)
  have b93 := Bd.o hB0 (show isO 112 97 12 = true from rfl) (show bnd 12 14 = some _ from rfl)
  have b94 := Bd.o hB0 (show isO 112 97 12 = true from rfl) (show bnd 12 16 = some _ from rfl)
  have b95 := Bd.o hB88 (show isO 112 97 12 = true from rfl) (show bnd 12 12 = some _ from rfl)
  have b96 := Bd.o hB88 (show isO 112 97 12 = true from rfl) (show bnd 12 14 = some _ from rfl)
  have b97 := Bd.o hB88 (show isO 112 97 12 = true from rfl) (show bnd 12 16 = some _ from rfl)
  refine sp_X12_mayBe hB88 hR0 (fun x98 y103 I99 J100 hB101 p102 => ?_)
  have q104 : (1 : Int32).toInt = 1 := rfl
  have q105 : (30 : Int32).toInt = 30 := rfl
  have b106 := Bd.o hB101 (show isO 112 97 12 = true from rfl) (show bnd 12 12 = some _ from rfl)
  have e107 : ((I99 97 17) : Int32).toInt = (I86 97 17).toInt := Eq.trans (congrArg Int32.toInt p102.2.2.2.1) rfl
  refine ⟨fun c108 => ?_, fun c108 => ?_⟩
  · skip
    have d109 : ¬ (((I99 97 12).toInt) : Int) = (0) := ci_ne rfl rfl c108
    have e110 : ((I99 97 16) : Int32).toInt = (I86 97 16).toInt := Eq.trans (congrArg Int32.toInt p102.2.2.1) rfl
    have e111 : ((I99 97 14) : Int32).toInt = (I86 97 14).toInt := Eq.trans (congrArg Int32.toInt p102.2.1) rfl
    exact (L 1000000) _ _ hB101 (Eq.trans p102.1 p89.1) (by have q0 : ((I99 97 12) : Int32).toInt = (I99 97 12).toInt := rfl; have q1 : ((I99 97 16) : Int32).toInt = (I86 97 16).toInt := e110; have q2 : ((I99 97 14) : Int32).toInt = (I86 97 14).toInt := e111; omega) (by omega)
  · skip
    have d112 : (((I99 97 12).toInt) : Int) = (0) := ci_eq rfl rfl c108
    refine w_X12_isOf ?_
    refine ⟨fun c113 => ?_, fun c113 => ?_⟩
    · skip
      have d114 : ¬ ((((((I99 97 26) >>> (((I99 97 17) - 1) &&& 31)) &&& 1) : Int32).toInt) : Int) = (1) := ci_ne rfl rfl c113
      refine ⟨Or.inl rfl, ?_⟩
      intro o115
      refine ⟨fun c116 => ?_, fun c116 => ?_⟩
      · skip
        have e117 : ((I99 97 16) : Int32).toInt = (I86 97 16).toInt := Eq.trans (congrArg Int32.toInt p102.2.2.1) rfl
        have e118 : ((I99 97 14) : Int32).toInt = (I86 97 14).toInt := Eq.trans (congrArg Int32.toInt p102.2.1) rfl
        exact (L 1000000) _ _ hB101 (Eq.trans p102.1 p89.1) (by have q0 : ((I99 97 12) : Int32).toInt = (I99 97 12).toInt := rfl; have q1 : ((I99 97 16) : Int32).toInt = (I86 97 16).toInt := e117; have q2 : ((I99 97 14) : Int32).toInt = (I86 97 14).toInt := e118; omega) (by omega)
      · exact absurd c116 (by decide)
    · skip
      have d119 : ((((((I99 97 26) >>> (((I99 97 17) - 1) &&& 31)) &&& 1) : Int32).toInt) : Int) = (1) := ci_eq rfl rfl c113
      refine ⟨Or.inr rfl, ?_⟩
      intro o120
      refine ⟨fun c121 => ?_, fun c121 => ?_⟩
      · exact absurd c121 (by decide)
      · skip
        refine sp_X12_fail hB101 hR0 (by have z : (5 : Int32).toInt = 5 := rfl; omega) (fun x122 y127 I123 J124 hB125 p126 => ?_)
        have q128 : (5 : Int32).toInt = 5 := rfl
        have b129 := Bd.o hB101 (show isO 112 97 12 = true from rfl) (show bnd 12 15 = some _ from rfl)
        have q130 : ((I99 97 15) : Int32).toInt = (I99 97 15).toInt := rfl
        have b131 := Bd.o hB125 (show isO 112 97 12 = true from rfl) (show bnd 12 12 = some _ from rfl)
        have e132 : ((I123 97 16) : Int32).toInt = (I86 97 16).toInt := Eq.trans (congrArg Int32.toInt (Eq.trans p126.2.2.1 p102.2.2.1)) rfl
        have e133 : ((I123 97 14) : Int32).toInt = (I86 97 14).toInt := Eq.trans (congrArg Int32.toInt (Eq.trans p126.2.1 p102.2.1)) rfl
        exact (L 1000000) _ _ hB125 (Eq.trans (Eq.trans p126.1 p102.1) p89.1) (by have q0 : ((I123 97 12) : Int32).toInt = (I123 97 12).toInt := rfl; have q1 : ((I123 97 16) : Int32).toInt = (I86 97 16).toInt := e132; have q2 : ((I123 97 14) : Int32).toInt = (I86 97 14).toInt := e133; omega) (by omega)
set_option maxHeartbeats 2000000 in
theorem sp_X12_sumOf {d : Nat} {Q : Qt} {v0 : Int32} {I : Im} {J : Jm} {R : Rm} (hB0 : Bd I) (hR0 : RI R) (hQ : ∀ (x : Int32) (y : Int64) (I2 : Im) (J2 : Jm), Bd I2 → (True) → Q x y I2 J2 R) : AM (d + 2) 243 112 [.int v0] I J R Q := by
  have i_v0 := i32 v0
  refine am_X12_sumOf (fun P hc => ?_)
  have L : ∀ n : Nat, (∀ (v1 : Int64) (v3 : Int32) (M : Im) (J : Jm), Bd M → (1 ≤ v3.toInt ∧ v3.toInt ≤ 31) → 40 - v3.toInt < (n : Int) → P 4 112 [(0, .int v0), (1, .long v1), (3, .int v3)] [] M J R) := by
    intro n
    induction n with
    | zero =>
      exact fun v1 v3 M J _ hi hm => absurd hm (by omega)
    | succ n ih =>
      intro v1 v3 M J hB hi hm
      have i_v0 := i32 v0
      have i_v1 := i64 v1
      have i_v3 := i32 v3
      refine sg_X12_sumOf_4 hc _ _ _ _ _ _ ?_
      refine ⟨fun c1 => ?_, fun c1 => ?_⟩
      · skip
        have d2 : ((30) : Int) < (v3.toInt) := ci_lt rfl rfl c1
        exact hQ _ _ _ _ hB trivial
      · skip
        have d3 : ((v3.toInt) : Int) ≤ (30) := ci_nlt rfl rfl c1
        refine w_X12_isOf ?_
        refine ⟨fun c4 => ?_, fun c4 => ?_⟩
        · skip
          have d5 : ¬ (((((v0 >>> ((v3 - 1) &&& 31)) &&& 1) : Int32).toInt) : Int) = (1) := ci_ne rfl rfl c4
          refine ⟨Or.inl rfl, ?_⟩
          intro o6
          refine ⟨fun c7 => ?_, fun c7 => ?_⟩
          · skip
            have e8 : ((v3 + 1) : Int32).toInt = (v3.toInt) + (1) := ti_add rfl rfl (by omega)
            exact ih _ _ _ _ hB (by have q0 : ((v3 + 1) : Int32).toInt = (v3.toInt + 1) := e8; omega) (by have q0 : ((v3 + 1) : Int32).toInt = (v3.toInt + 1) := e8; omega)
          · exact absurd c7 (by decide)
        · skip
          have d9 : (((((v0 >>> ((v3 - 1) &&& 31)) &&& 1) : Int32).toInt) : Int) = (1) := ci_eq rfl rfl c4
          refine ⟨Or.inr rfl, ?_⟩
          intro o10
          refine ⟨fun c11 => ?_, fun c11 => ?_⟩
          · exact absurd c11 (by decide)
          · skip
            refine w_X12_partsOf ?_
            refine ⟨(fun z => by have z2 : (v3.toInt : Int) = 0 := cl_eq (tl_i2l rfl) rfl z; omega), ?_⟩
            have e12 : ((v3 + 1) : Int32).toInt = (v3.toInt) + (1) := ti_add rfl rfl (by omega)
            exact ih _ _ _ _ hB (by have q0 : ((v3 + 1) : Int32).toInt = (v3.toInt + 1) := e12; omega) (by have q0 : ((v3 + 1) : Int32).toInt = (v3.toInt + 1) := e12; omega)
  refine sg_X12_sumOf_0 hc _ _ _ _ ?_
  exact (L 1000000) _ _ _ _ hB0 (by have q0 : (1 : Int32).toInt = 1 := rfl; omega) (by have q0 : (1 : Int32).toInt = 1 := rfl; omega)
set_option maxHeartbeats 2000000 in
theorem sp_X12_held {d : Nat} {Q : Qt} {I : Im} {J : Jm} {R : Rm} (hB0 : Bd I) (hR0 : RI R) (hQ : ∀ (x : Int32) (y : Int64) (I2 : Im) (J2 : Jm), Bd I2 → (True) → Q x y I2 J2 R) : AM (d + 1) 245 112 [.ref 97] I J R Q := by
  refine am_X12_held (fun P hc => ?_)
  have L : ∀ n : Nat, (∀ (v1 : Int32) (v2 : Int32) (M : Im) (J : Jm), Bd M → (0 ≤ v2.toInt ∧ v2.toInt ≤ 30) → 40 - v2.toInt < (n : Int) → P 4 112 [(0, .ref 97), (1, .int v1), (2, .int v2)] [] M J R) := by
    intro n
    induction n with
    | zero =>
      exact fun v1 v2 M J _ hi hm => absurd hm (by omega)
    | succ n ih =>
      intro v1 v2 M J hB hi hm
      have i_v1 := i32 v1
      have i_v2 := i32 v2
      refine sg_X12_held_4 hc _ _ _ _ _ ?_
      refine ⟨fun c1 => ?_, fun c1 => ?_⟩
      · skip
        have d2 : ((30) : Int) ≤ (v2.toInt) := ci_le rfl rfl c1
        exact hQ _ _ _ _ hB trivial
      · skip
        have d3 : ((v2.toInt) : Int) < (30) := ci_nle rfl rfl c1
        have e4 : ((4 + v2) : Int32).toInt = (4) + (v2.toInt) := ti_add rfl rfl (by omega)
        refine ⟨vp_of (a := (4 + v2.toInt)) e4 (by omega) (by omega), ?_⟩
        have e5 : ((v2 + 1) : Int32).toInt = (v2.toInt) + (1) := ti_add rfl rfl (by omega)
        exact ih _ _ _ _ hB (by have q0 : ((v2 + 1) : Int32).toInt = (v2.toInt + 1) := e5; omega) (by have q0 : ((v2 + 1) : Int32).toInt = (v2.toInt + 1) := e5; omega)
  refine sg_X12_held_0 hc _ _ _ ?_
  exact (L 1000000) _ _ _ _ hB0 (by have q0 : (0 : Int32).toInt = 0 := rfl; omega) (by have q0 : (0 : Int32).toInt = 0 := rfl; omega)
set_option maxHeartbeats 2000000 in
theorem sp_X12_heldSet {d : Nat} {Q : Qt} {I : Im} {J : Jm} {R : Rm} (hB0 : Bd I) (hR0 : RI R) (hQ : ∀ (x : Int32) (y : Int64) (I2 : Im) (J2 : Jm), Bd I2 → (True) → Q x y I2 J2 R) : AM (d + 1) 246 112 [.ref 97] I J R Q := by
  refine am_X12_heldSet (fun P hc => ?_)
  have L : ∀ n : Nat, (∀ (v1 : Int32) (v2 : Int32) (M : Im) (J : Jm), Bd M → (0 ≤ v2.toInt ∧ v2.toInt ≤ 30) → 40 - v2.toInt < (n : Int) → P 4 112 [(0, .ref 97), (1, .int v1), (2, .int v2)] [] M J R) := by
    intro n
    induction n with
    | zero =>
      exact fun v1 v2 M J _ hi hm => absurd hm (by omega)
    | succ n ih =>
      intro v1 v2 M J hB hi hm
      have i_v1 := i32 v1
      have i_v2 := i32 v2
      refine sg_X12_heldSet_4 hc _ _ _ _ _ ?_
      refine ⟨fun c1 => ?_, fun c1 => ?_⟩
      · skip
        have d2 : ((30) : Int) ≤ (v2.toInt) := ci_le rfl rfl c1
        exact hQ _ _ _ _ hB trivial
      · skip
        have d3 : ((v2.toInt) : Int) < (30) := ci_nle rfl rfl c1
        have e4 : ((4 + v2) : Int32).toInt = (4) + (v2.toInt) := ti_add rfl rfl (by omega)
        refine ⟨vp_of (a := (4 + v2.toInt)) e4 (by omega) (by omega), ?_⟩
        refine ⟨fun c5 => ?_, fun c5 => ?_⟩
        · skip
          have b6 := Bd.c hB (tn_of (show ((4 + v2) : Int32).toInt = (4 + v2.toInt) from e4) (by omega))
          have d7 : (((M 102 (Int32.toNatClampNeg (4 + v2))).toInt) : Int) ≤ (0) := ci_le rfl rfl c5
          have e8 : ((v2 + 1) : Int32).toInt = (v2.toInt) + (1) := ti_add rfl rfl (by omega)
          exact ih _ _ _ _ hB (by have q0 : ((v2 + 1) : Int32).toInt = (v2.toInt + 1) := e8; omega) (by have q0 : ((v2 + 1) : Int32).toInt = (v2.toInt + 1) := e8; omega)
        · skip
          have b9 := Bd.c hB (tn_of (show ((4 + v2) : Int32).toInt = (4 + v2.toInt) from e4) (by omega))
          have d10 : ((0) : Int) < ((M 102 (Int32.toNatClampNeg (4 + v2))).toInt) := ci_nle rfl rfl c5
          have e11 : ((v2 + 1) : Int32).toInt = (v2.toInt) + (1) := ti_add rfl rfl (by omega)
          exact ih _ _ _ _ hB (by have q0 : ((v2 + 1) : Int32).toInt = (v2.toInt + 1) := e11; omega) (by have q0 : ((v2 + 1) : Int32).toInt = (v2.toInt + 1) := e11; omega)
  refine sg_X12_heldSet_0 hc _ _ _ ?_
  exact (L 1000000) _ _ _ _ hB0 (by have q0 : (0 : Int32).toInt = 0 := rfl; omega) (by have q0 : (0 : Int32).toInt = 0 := rfl; omega)
set_option maxHeartbeats 2000000 in
theorem sp_X12_store {d : Nat} {Q : Qt} {v1 : Int32} {I : Im} {J : Jm} {R : Rm} (hB0 : Bd I) (hR0 : RI R) (hQ : ∀ (x : Int32) (y : Int64) (I2 : Im) (J2 : Jm), Bd I2 → (True) → Q x y I2 J2 R) : AM (d + 3) 249 112 [.ref 97, .int v1] I J R Q := by
  have i_v1 := i32 v1
  refine am_X12_store (fun P hc => ?_)
  refine sg_X12_store_0 hc _ _ _ _ ?_
  have hB1 : Bd (uI I 97 1 0) := Bd.o0 hB0 (show isO 112 97 12 = true from rfl) (by omega) (show bnd 12 1 = none from rfl)
  have hB2 : Bd (uI (uI I 97 1 0) 97 0 0) := Bd.o0 hB1 (show isO 112 97 12 = true from rfl) (by omega) (show bnd 12 0 = none from rfl)
  refine w_X12_isSlice ?_
  refine w_X12_isIn ?_
  refine ⟨fun c3 => ?_, fun c3 => ?_⟩
  · skip
    rw [lg_cmp_lt] at c3
    have d4 : ((v1.toInt) : Int) < (1) := cl_lt (tl_i2l rfl) rfl c3
    refine ⟨Or.inl rfl, ?_⟩
    intro o5
    refine ⟨Or.inl rfl, ?_⟩
    intro o6
    refine ⟨fun c7 => ?_, fun c7 => ?_⟩
    · skip
      refine w_X12_refuse ?_
      have hB8 : Bd (uI (uI (uI I 97 1 0) 97 0 0) 97 0 2) := Bd.o0 hB2 (show isO 112 97 12 = true from rfl) (by omega) (show bnd 12 0 = none from rfl)
      exact hQ _ _ _ _ hB8 trivial
    · exact absurd c7 (by decide)
  · skip
    rw [lg_cmp_lt] at c3
    have d9 : ((1) : Int) ≤ (v1.toInt) := cl_nlt (tl_i2l rfl) rfl c3
    refine ⟨fun c10 => ?_, fun c10 => ?_⟩
    · skip
      rw [lg_cmp_gt] at c10
      have d11 : ((30) : Int) < (v1.toInt) := cl_lt rfl (tl_i2l rfl) c10
      refine ⟨Or.inl rfl, ?_⟩
      intro o12
      refine ⟨Or.inl rfl, ?_⟩
      intro o13
      refine ⟨fun c14 => ?_, fun c14 => ?_⟩
      · skip
        refine w_X12_refuse ?_
        have hB15 : Bd (uI (uI (uI I 97 1 0) 97 0 0) 97 0 2) := Bd.o0 hB2 (show isO 112 97 12 = true from rfl) (by omega) (show bnd 12 0 = none from rfl)
        exact hQ _ _ _ _ hB15 trivial
      · exact absurd c14 (by decide)
    · skip
      rw [lg_cmp_gt] at c10
      have d16 : ((v1.toInt) : Int) ≤ (30) := cl_nlt rfl (tl_i2l rfl) c10
      refine ⟨Or.inr rfl, ?_⟩
      intro o17
      refine ⟨Or.inr rfl, ?_⟩
      intro o18
      refine ⟨fun c19 => ?_, fun c19 => ?_⟩
      · exact absurd c19 (by decide)
      · skip
        have e20 : ((4 + v1) : Int32).toInt = (4) + (v1.toInt) := ti_add rfl rfl (by omega)
        have e21 : (((4 + v1) - 1) : Int32).toInt = ((4 + v1.toInt)) - (1) := ti_sub e20 rfl (by omega)
        refine ⟨vp_of (a := ((4 + v1.toInt) - 1)) e21 (by omega) (by omega), ?_⟩
        exact hQ _ _ _ _ hB2 trivial
set_option maxHeartbeats 2000000 in
theorem sp_X12_rule {d : Nat} {Q : Qt} {v1 : Int32} {I : Im} {J : Jm} {R : Rm} (hB0 : Bd I) (hR0 : RI R) (hQ : ∀ (x : Int32) (y : Int64) (I2 : Im) (J2 : Jm), Bd I2 → (True) → Q x y I2 J2 R) : AM (d + 2) 270 112 [.ref 97, .int v1] I J R Q := by
  have i_v1 := i32 v1
  refine am_X12_rule (fun P hc => ?_)
  refine sg_X12_rule_0 hc _ _ _ _ ?_
  have hB1 : Bd (uI I 97 1 0) := Bd.o0 hB0 (show isO 112 97 12 = true from rfl) (by omega) (show bnd 12 1 = none from rfl)
  have hB2 : Bd (uI (uI I 97 1 0) 97 0 0) := Bd.o0 hB1 (show isO 112 97 12 = true from rfl) (by omega) (show bnd 12 0 = none from rfl)
  refine w_X12_isIn ?_
  refine ⟨fun c3 => ?_, fun c3 => ?_⟩
  · skip
    rw [lg_cmp_lt] at c3
    have d4 : ((v1.toInt) : Int) < (0) := cl_lt (tl_i2l rfl) rfl c3
    refine ⟨Or.inl rfl, ?_⟩
    intro o5
    refine ⟨fun c6 => ?_, fun c6 => ?_⟩
    · exact absurd c6 (by decide)
    · skip
      refine w_X12_no ?_
      have hB7 : Bd (uI (uI (uI I 97 1 0) 97 0 0) 97 0 5) := Bd.o0 hB2 (show isO 112 97 12 = true from rfl) (by omega) (show bnd 12 0 = none from rfl)
      refine ⟨Or.inl rfl, ?_⟩
      intro o8
      refine ⟨Or.inl rfl, ?_⟩
      exact hQ _ _ _ _ hB7 trivial
  · skip
    rw [lg_cmp_lt] at c3
    have d9 : ((0) : Int) ≤ (v1.toInt) := cl_nlt (tl_i2l rfl) rfl c3
    refine ⟨fun c10 => ?_, fun c10 => ?_⟩
    · skip
      rw [lg_cmp_gt] at c10
      have d11 : ((16) : Int) < (v1.toInt) := cl_lt rfl (tl_i2l rfl) c10
      refine ⟨Or.inl rfl, ?_⟩
      intro o12
      refine ⟨fun c13 => ?_, fun c13 => ?_⟩
      · exact absurd c13 (by decide)
      · skip
        refine w_X12_no ?_
        have hB14 : Bd (uI (uI (uI I 97 1 0) 97 0 0) 97 0 5) := Bd.o0 hB2 (show isO 112 97 12 = true from rfl) (by omega) (show bnd 12 0 = none from rfl)
        refine ⟨Or.inl rfl, ?_⟩
        intro o15
        refine ⟨Or.inl rfl, ?_⟩
        exact hQ _ _ _ _ hB14 trivial
    · skip
      rw [lg_cmp_gt] at c10
      have d16 : ((v1.toInt) : Int) ≤ (16) := cl_nlt rfl (tl_i2l rfl) c10
      refine ⟨Or.inr rfl, ?_⟩
      intro o17
      refine ⟨fun c18 => ?_, fun c18 => ?_⟩
      · skip
        refine ⟨vp_of (a := 1) rfl (by omega) (by omega), ?_⟩
        have hB19 : Bd (uI (uI (uI I 97 1 0) 97 0 0) 102 (Int32.toNatClampNeg 1) v1) := Bd.cfree hB2 (show (1 : Int32).toInt = 1 from rfl) (by omega) (by omega) (by omega) (by omega)
        refine ⟨Or.inr rfl, ?_⟩
        exact hQ _ _ _ _ hB19 trivial
      · exact absurd c18 (by decide)
set_option maxHeartbeats 2000000 in
theorem sp_X12_status {d : Nat} {Q : Qt} {I : Im} {J : Jm} {R : Rm} (hB0 : Bd I) (hR0 : RI R) (hQ : ∀ (x : Int32) (y : Int64) (I2 : Im) (J2 : Jm), Bd I2 → (True) → Q x y I2 J2 R) : AM (d + 1) 173 112 [.ref 97] I J R Q := by
  refine am_X12_status (fun P hc => ?_)
  refine sg_X12_status_0 hc _ _ _ ?_
  have hB1 : Bd (uI I 97 1 0) := Bd.o0 hB0 (show isO 112 97 12 = true from rfl) (by omega) (show bnd 12 1 = none from rfl)
  exact hQ _ _ _ _ hB1 trivial
set_option maxHeartbeats 2000000 in
theorem sp_X12_top {d : Nat} {Q : Qt} {I : Im} {J : Jm} {R : Rm} (hB0 : Bd I) (hR0 : RI R) (hQ : ∀ (x : Int32) (y : Int64) (I2 : Im) (J2 : Jm), Bd I2 → (True) → Q x y I2 J2 R) : AM (d + 1) 174 112 [.ref 97] I J R Q := by
  refine am_X12_top (fun P hc => ?_)
  refine sg_X12_top_0 hc _ _ _ ?_
  have hB1 : Bd (uI I 97 1 0) := Bd.o0 hB0 (show isO 112 97 12 = true from rfl) (by omega) (show bnd 12 1 = none from rfl)
  exact hQ _ _ _ _ hB1 trivial
set_option maxHeartbeats 2000000 in
theorem sp_X12_bottom {d : Nat} {Q : Qt} {I : Im} {J : Jm} {R : Rm} (hB0 : Bd I) (hR0 : RI R) (hQ : ∀ (x : Int32) (y : Int64) (I2 : Im) (J2 : Jm), Bd I2 → (True) → Q x y I2 J2 R) : AM (d + 1) 175 112 [.ref 97] I J R Q := by
  refine am_X12_bottom (fun P hc => ?_)
  refine sg_X12_bottom_0 hc _ _ _ ?_
  have hB1 : Bd (uI I 97 1 0) := Bd.o0 hB0 (show isO 112 97 12 = true from rfl) (by omega) (show bnd 12 1 = none from rfl)
  exact hQ _ _ _ _ hB1 trivial
set_option maxHeartbeats 2000000 in
theorem sp_X12_copyStore {d : Nat} {Q : Qt} {v1 : Int32} {v2 : Int32} {I : Im} {J : Jm} {R : Rm} (hB0 : Bd I) (hR0 : RI R) (hQ : ∀ (x : Int32) (y : Int64) (I2 : Im) (J2 : Jm), Bd I2 → (True) → Q x y I2 J2 R) : AM (d + 4) 254 112 [.ref 97, .int v1, .int v2] I J R Q := by
  have i_v1 := i32 v1
  have i_v2 := i32 v2
  refine am_X12_copyStore (fun P hc => ?_)
  have L : ∀ n : Nat, (∀ (v3 : Int32) (M : Im) (J : Jm), Bd M → (0 ≤ v1.toInt ∧ v1.toInt ≤ 3 ∧ 0 ≤ v2.toInt ∧ v2.toInt ≤ 30 ∧ 0 ≤ v3.toInt ∧ v3.toInt ≤ v2.toInt) → 40 - v3.toInt < (n : Int) → P 75 112 [(0, .ref 97), (1, .int v1), (2, .int v2), (3, .int v3)] [] M J R) := by
    intro n
    induction n with
    | zero =>
      exact fun v3 M J _ hi hm => absurd hm (by omega)
    | succ n ih =>
      intro v3 M J hB hi hm
      have i_v1 := i32 v1
      have i_v2 := i32 v2
      have i_v3 := i32 v3
      refine sg_X12_copyStore_75 hc _ _ _ _ _ _ ?_
      refine ⟨fun c1 => ?_, fun c1 => ?_⟩
      · skip
        have d2 : ((v2.toInt) : Int) ≤ (v3.toInt) := ci_le rfl rfl c1
        exact hQ _ _ _ _ hB trivial
      · skip
        have d3 : ((v3.toInt) : Int) < (v2.toInt) := ci_nle rfl rfl c1
        have e4 : ((4 + v3) : Int32).toInt = (4) + (v3.toInt) := ti_add rfl rfl (by omega)
        refine ⟨vp_of (a := (4 + v3.toInt)) e4 (by omega) (by omega), ?_⟩
        refine sp_X12_write hB hR0 (fun x5 y10 I6 J7 hB8 p9 => ?_)
        intro o11
        have i12 := i32 x5
        have e13 : ((v3 + 1) : Int32).toInt = (v3.toInt) + (1) := ti_add rfl rfl (by omega)
        exact ih _ _ _ hB8 (by have q0 : ((v3 + 1) : Int32).toInt = (v3.toInt + 1) := e13; omega) (by have q0 : ((v3 + 1) : Int32).toInt = (v3.toInt + 1) := e13; omega)
  refine sg_X12_copyStore_0 hc _ _ _ _ _ ?_
  have hB14 : Bd (uI I 97 1 0) := Bd.o0 hB0 (show isO 112 97 12 = true from rfl) (by omega) (show bnd 12 1 = none from rfl)
  have hB15 : Bd (uI (uI I 97 1 0) 97 0 0) := Bd.o0 hB14 (show isO 112 97 12 = true from rfl) (by omega) (show bnd 12 0 = none from rfl)
  refine w_X12_isTray ?_
  refine w_X12_isIn ?_
  refine ⟨fun c16 => ?_, fun c16 => ?_⟩
  · skip
    rw [lg_cmp_lt] at c16
    have d17 : ((v1.toInt) : Int) < (0) := cl_lt (tl_i2l rfl) rfl c16
    refine ⟨Or.inl rfl, ?_⟩
    intro o18
    refine ⟨Or.inl rfl, ?_⟩
    intro o19
    refine ⟨fun c20 => ?_, fun c20 => ?_⟩
    · exact absurd c20 (by decide)
    · skip
      refine w_X12_refuse ?_
      have hB21 : Bd (uI (uI (uI I 97 1 0) 97 0 0) 97 0 1) := Bd.o0 hB15 (show isO 112 97 12 = true from rfl) (by omega) (show bnd 12 0 = none from rfl)
      exact hQ _ _ _ _ hB21 trivial
  · skip
    rw [lg_cmp_lt] at c16
    have d22 : ((0) : Int) ≤ (v1.toInt) := cl_nlt (tl_i2l rfl) rfl c16
    refine ⟨fun c23 => ?_, fun c23 => ?_⟩
    · skip
      rw [lg_cmp_gt] at c23
      have d24 : ((3) : Int) < (v1.toInt) := cl_lt rfl (tl_i2l rfl) c23
      refine ⟨Or.inl rfl, ?_⟩
      intro o25
      refine ⟨Or.inl rfl, ?_⟩
      intro o26
      refine ⟨fun c27 => ?_, fun c27 => ?_⟩
      · exact absurd c27 (by decide)
      · skip
        refine w_X12_refuse ?_
        have hB28 : Bd (uI (uI (uI I 97 1 0) 97 0 0) 97 0 1) := Bd.o0 hB15 (show isO 112 97 12 = true from rfl) (by omega) (show bnd 12 0 = none from rfl)
        exact hQ _ _ _ _ hB28 trivial
    · skip
      rw [lg_cmp_gt] at c23
      have d29 : ((v1.toInt) : Int) ≤ (3) := cl_nlt rfl (tl_i2l rfl) c23
      refine ⟨Or.inr rfl, ?_⟩
      intro o30
      refine ⟨Or.inr rfl, ?_⟩
      intro o31
      refine ⟨fun c32 => ?_, fun c32 => ?_⟩
      · skip
        refine ⟨vp_of (a := v1.toInt) rfl (by omega) (by omega), ?_⟩
        refine ⟨fun c33 => ?_, fun c33 => ?_⟩
        · skip
          have b34 := Bd.a hB0 (Int32.toNatClampNeg v1) (show bna 99 = some _ from rfl)
          have e35 : (((uI (uI I 97 1 0) 97 0 0) 99 (Int32.toNatClampNeg v1)) : Int32).toInt = (I 99 (Int32.toNatClampNeg v1)).toInt := Eq.trans (congrArg Int32.toInt (Eq.trans (rd_ne (by omega)) (rd_ne (by omega)))) rfl
          have d36 : ((0) : Int) ≤ ((I 99 (Int32.toNatClampNeg v1)).toInt) := ci_le rfl e35 c33
          refine ⟨vp_of (a := v1.toInt) rfl (by omega) (by omega), ?_⟩
          refine ⟨fun c37 => ?_, fun c37 => ?_⟩
          · skip
            have d38 : ((v2.toInt) : Int) ≤ ((I 99 (Int32.toNatClampNeg v1)).toInt) := ci_le rfl e35 c37
            refine w_X12_isIn ?_
            refine ⟨fun c39 => ?_, fun c39 => ?_⟩
            · skip
              rw [lg_cmp_lt] at c39
              have d40 : ((v2.toInt) : Int) < (0) := cl_lt (tl_i2l rfl) rfl c39
              refine ⟨Or.inl rfl, ?_⟩
              intro o41
              refine ⟨fun c42 => ?_, fun c42 => ?_⟩
              · exact absurd c42 (by decide)
              · skip
                refine w_X12_refuse ?_
                have hB43 : Bd (uI (uI (uI I 97 1 0) 97 0 0) 97 0 5) := Bd.o0 hB15 (show isO 112 97 12 = true from rfl) (by omega) (show bnd 12 0 = none from rfl)
                exact hQ _ _ _ _ hB43 trivial
            · skip
              rw [lg_cmp_lt] at c39
              have d44 : ((0) : Int) ≤ (v2.toInt) := cl_nlt (tl_i2l rfl) rfl c39
              refine ⟨fun c45 => ?_, fun c45 => ?_⟩
              · skip
                rw [lg_cmp_gt] at c45
                have d46 : ((30) : Int) < (v2.toInt) := cl_lt rfl (tl_i2l rfl) c45
                refine ⟨Or.inl rfl, ?_⟩
                intro o47
                refine ⟨fun c48 => ?_, fun c48 => ?_⟩
                · exact absurd c48 (by decide)
                · skip
                  refine w_X12_refuse ?_
                  have hB49 : Bd (uI (uI (uI I 97 1 0) 97 0 0) 97 0 5) := Bd.o0 hB15 (show isO 112 97 12 = true from rfl) (by omega) (show bnd 12 0 = none from rfl)
                  exact hQ _ _ _ _ hB49 trivial
              · skip
                rw [lg_cmp_gt] at c45
                have d50 : ((v2.toInt) : Int) ≤ (30) := cl_nlt rfl (tl_i2l rfl) c45
                refine ⟨Or.inr rfl, ?_⟩
                intro o51
                refine ⟨fun c52 => ?_, fun c52 => ?_⟩
                · skip
                  exact (L 1000000) _ _ _ hB15 (by have q0 : (0 : Int32).toInt = 0 := rfl; omega) (by have q0 : (0 : Int32).toInt = 0 := rfl; omega)
                · exact absurd c52 (by decide)
          · skip
            have d53 : (((I 99 (Int32.toNatClampNeg v1)).toInt) : Int) < (v2.toInt) := ci_nle rfl e35 c37
            refine w_X12_refuse ?_
            have hB54 : Bd (uI (uI (uI I 97 1 0) 97 0 0) 97 0 4) := Bd.o0 hB15 (show isO 112 97 12 = true from rfl) (by omega) (show bnd 12 0 = none from rfl)
            exact hQ _ _ _ _ hB54 trivial
        · skip
          have b55 := Bd.a hB0 (Int32.toNatClampNeg v1) (show bna 99 = some _ from rfl)
          have e56 : (((uI (uI I 97 1 0) 97 0 0) 99 (Int32.toNatClampNeg v1)) : Int32).toInt = (I 99 (Int32.toNatClampNeg v1)).toInt := Eq.trans (congrArg Int32.toInt (Eq.trans (rd_ne (by omega)) (rd_ne (by omega)))) rfl
          have d57 : (((I 99 (Int32.toNatClampNeg v1)).toInt) : Int) < (0) := ci_nle rfl e56 c33
          refine w_X12_refuse ?_
          have hB58 : Bd (uI (uI (uI I 97 1 0) 97 0 0) 97 0 3) := Bd.o0 hB15 (show isO 112 97 12 = true from rfl) (by omega) (show bnd 12 0 = none from rfl)
          exact hQ _ _ _ _ hB58 trivial
      · exact absurd c32 (by decide)
set_option maxHeartbeats 2000000 in
theorem sp_X12_fault {d : Nat} {Q : Qt} {v1 : Int32} {I : Im} {J : Jm} {R : Rm} (hB0 : Bd I) (hR0 : RI R) (hQ : ∀ (x : Int32) (y : Int64) (I2 : Im) (J2 : Jm), Bd I2 → (True) → Q x y I2 J2 R) : AM (d + 1) 224 112 [.ref 97, .int v1] I J R Q := by
  have i_v1 := i32 v1
  refine am_X12_fault (fun P hc => ?_)
  refine sg_X12_fault_0 hc _ _ _ _ ?_
  have hB1 : Bd (uI I 97 1 0) := Bd.o0 hB0 (show isO 112 97 12 = true from rfl) (by omega) (show bnd 12 1 = none from rfl)
  refine ⟨fun c2 => ?_, fun c2 => ?_⟩
  · skip
    have d3 : ¬ ((v1.toInt) : Int) = (0) := ci_ne rfl rfl c2
    refine ⟨fun c4 => ?_, fun c4 => ?_⟩
    · skip
      have d5 : ¬ ((v1.toInt) : Int) = (1) := ci_ne rfl rfl c4
      exact hQ _ _ _ _ hB1 trivial
    · skip
      have d6 : ((v1.toInt) : Int) = (1) := ci_eq rfl rfl c4
      exact hQ _ _ _ _ hB1 trivial
  · skip
    have d7 : ((v1.toInt) : Int) = (0) := ci_eq rfl rfl c2
    exact hQ _ _ _ _ hB1 trivial
set_option maxHeartbeats 2000000 in
theorem sp_X12_learn {d : Nat} {Q : Qt} {v1 : Int32} {v2 : Int32} {I : Im} {J : Jm} {R : Rm} (hB0 : Bd I) (hR0 : RI R) (hQ : ∀ (x : Int32) (y : Int64) (I2 : Im) (J2 : Jm), Bd I2 → (True) → Q x y I2 J2 R) : AM (d + 3) 269 112 [.ref 97, .int v1, .int v2] I J R Q := by
  have i_v1 := i32 v1
  have i_v2 := i32 v2
  refine am_X12_learn (fun P hc => ?_)
  refine sg_X12_learn_0 hc _ _ _ _ _ ?_
  have hB1 : Bd (uI I 97 1 0) := Bd.o0 hB0 (show isO 112 97 12 = true from rfl) (by omega) (show bnd 12 1 = none from rfl)
  have hB2 : Bd (uI (uI I 97 1 0) 97 0 0) := Bd.o0 hB1 (show isO 112 97 12 = true from rfl) (by omega) (show bnd 12 0 = none from rfl)
  refine w_X12_isSlice ?_
  refine w_X12_isIn ?_
  refine ⟨fun c3 => ?_, fun c3 => ?_⟩
  · skip
    rw [lg_cmp_lt] at c3
    have d4 : ((v1.toInt) : Int) < (1) := cl_lt (tl_i2l rfl) rfl c3
    refine ⟨Or.inl rfl, ?_⟩
    intro o5
    refine ⟨Or.inl rfl, ?_⟩
    intro o6
    refine ⟨fun c7 => ?_, fun c7 => ?_⟩
    · exact absurd c7 (by decide)
    · skip
      refine w_X12_no ?_
      have hB8 : Bd (uI (uI (uI I 97 1 0) 97 0 0) 97 0 2) := Bd.o0 hB2 (show isO 112 97 12 = true from rfl) (by omega) (show bnd 12 0 = none from rfl)
      refine ⟨Or.inl rfl, ?_⟩
      intro o9
      refine ⟨Or.inl rfl, ?_⟩
      exact hQ _ _ _ _ hB8 trivial
  · skip
    rw [lg_cmp_lt] at c3
    have d10 : ((1) : Int) ≤ (v1.toInt) := cl_nlt (tl_i2l rfl) rfl c3
    refine ⟨fun c11 => ?_, fun c11 => ?_⟩
    · skip
      rw [lg_cmp_gt] at c11
      have d12 : ((30) : Int) < (v1.toInt) := cl_lt rfl (tl_i2l rfl) c11
      refine ⟨Or.inl rfl, ?_⟩
      intro o13
      refine ⟨Or.inl rfl, ?_⟩
      intro o14
      refine ⟨fun c15 => ?_, fun c15 => ?_⟩
      · exact absurd c15 (by decide)
      · skip
        refine w_X12_no ?_
        have hB16 : Bd (uI (uI (uI I 97 1 0) 97 0 0) 97 0 2) := Bd.o0 hB2 (show isO 112 97 12 = true from rfl) (by omega) (show bnd 12 0 = none from rfl)
        refine ⟨Or.inl rfl, ?_⟩
        intro o17
        refine ⟨Or.inl rfl, ?_⟩
        exact hQ _ _ _ _ hB16 trivial
    · skip
      rw [lg_cmp_gt] at c11
      have d18 : ((v1.toInt) : Int) ≤ (30) := cl_nlt rfl (tl_i2l rfl) c11
      refine ⟨Or.inr rfl, ?_⟩
      intro o19
      refine ⟨Or.inr rfl, ?_⟩
      intro o20
      refine ⟨fun c21 => ?_, fun c21 => ?_⟩
      · skip
        refine ⟨vp_of (a := 3) rfl (by omega) (by omega), ?_⟩
        refine w_X12_isOf ?_
        refine ⟨fun c22 => ?_, fun c22 => ?_⟩
        · skip
          have d23 : ¬ (((((((uI (uI I 97 1 0) 97 0 0) 102 (Int32.toNatClampNeg 3)) >>> ((v1 - 1) &&& 31)) &&& 1) : Int32).toInt) : Int) = (1) := ci_ne rfl rfl c22
          refine ⟨Or.inl rfl, ?_⟩
          intro o24
          refine ⟨fun c25 => ?_, fun c25 => ?_⟩
          · skip
            have d26 : ¬ ((0) : Int) = (v2.toInt) := ci_ne rfl rfl c25
            refine ⟨vp_of (a := 3) rfl (by omega) (by omega), ?_⟩
            refine ⟨vp_of (a := 3) rfl (by omega) (by omega), ?_⟩
            have b28 := Bd.c hB0 (tn_of (show (3 : Int32).toInt = 3 from rfl) (by omega))
            have e29 : (((uI (uI I 97 1 0) 97 0 0) 102 (Int32.toNatClampNeg 3)) : Int32).toInt = (I 102 (Int32.toNatClampNeg 3)).toInt := Eq.trans (congrArg Int32.toInt (Eq.trans (rd_ne (by omega)) (rd_ne (by omega)))) rfl
            have e30 : ((v1 - 1) : Int32).toInt = (v1.toInt) - (1) := ti_sub rfl rfl (by omega)
            have s31 := shlp (show ((v1 - 1) : Int32).toInt = (v1.toInt - 1) from e30) (by omega)
            have s32 := xori (show (((uI (uI I 97 1 0) 97 0 0) 102 (Int32.toNatClampNeg 3)) : Int32).toInt = (I 102 (Int32.toNatClampNeg 3)).toInt from e29) (show ((1 <<< ((v1 - 1) &&& 31)) : Int32).toInt = ((1 <<< ((v1 - 1) &&& 31)) : Int32).toInt from rfl) (by omega) (by omega)
            have hB27 : Bd (uI (uI (uI I 97 1 0) 97 0 0) 102 (Int32.toNatClampNeg 3) (((uI (uI I 97 1 0) 97 0 0) 102 (Int32.toNatClampNeg 3)) ^^^ (1 <<< ((v1 - 1) &&& 31)))) := Bd.cknown hB2 (show (3 : Int32).toInt = 3 from rfl) (show ((((uI (uI I 97 1 0) 97 0 0) 102 (Int32.toNatClampNeg 3)) ^^^ (1 <<< ((v1 - 1) &&& 31))) : Int32).toInt = ((((uI (uI I 97 1 0) 97 0 0) 102 (Int32.toNatClampNeg 3)) ^^^ (1 <<< ((v1 - 1) &&& 31))) : Int32).toInt from rfl) (by omega) (by omega) (by omega) 
            refine ⟨Or.inr rfl, ?_⟩
            exact hQ _ _ _ _ hB27 trivial
          · skip
            have d33 : ((0) : Int) = (v2.toInt) := ci_eq rfl rfl c25
            refine w_X12_no ?_
            have hB34 : Bd (uI (uI (uI I 97 1 0) 97 0 0) 97 0 9) := Bd.o0 hB2 (show isO 112 97 12 = true from rfl) (by omega) (show bnd 12 0 = none from rfl)
            refine ⟨Or.inl rfl, ?_⟩
            intro o35
            refine ⟨Or.inl rfl, ?_⟩
            exact hQ _ _ _ _ hB34 trivial
        · skip
          have d36 : (((((((uI (uI I 97 1 0) 97 0 0) 102 (Int32.toNatClampNeg 3)) >>> ((v1 - 1) &&& 31)) &&& 1) : Int32).toInt) : Int) = (1) := ci_eq rfl rfl c22
          refine ⟨Or.inr rfl, ?_⟩
          intro o37
          refine ⟨fun c38 => ?_, fun c38 => ?_⟩
          · skip
            have d39 : ¬ ((1) : Int) = (v2.toInt) := ci_ne rfl rfl c38
            refine ⟨vp_of (a := 3) rfl (by omega) (by omega), ?_⟩
            refine ⟨vp_of (a := 3) rfl (by omega) (by omega), ?_⟩
            have b41 := Bd.c hB0 (tn_of (show (3 : Int32).toInt = 3 from rfl) (by omega))
            have e42 : (((uI (uI I 97 1 0) 97 0 0) 102 (Int32.toNatClampNeg 3)) : Int32).toInt = (I 102 (Int32.toNatClampNeg 3)).toInt := Eq.trans (congrArg Int32.toInt (Eq.trans (rd_ne (by omega)) (rd_ne (by omega)))) rfl
            have e43 : ((v1 - 1) : Int32).toInt = (v1.toInt) - (1) := ti_sub rfl rfl (by omega)
            have s44 := shlp (show ((v1 - 1) : Int32).toInt = (v1.toInt - 1) from e43) (by omega)
            have s45 := xori (show (((uI (uI I 97 1 0) 97 0 0) 102 (Int32.toNatClampNeg 3)) : Int32).toInt = (I 102 (Int32.toNatClampNeg 3)).toInt from e42) (show ((1 <<< ((v1 - 1) &&& 31)) : Int32).toInt = ((1 <<< ((v1 - 1) &&& 31)) : Int32).toInt from rfl) (by omega) (by omega)
            have hB40 : Bd (uI (uI (uI I 97 1 0) 97 0 0) 102 (Int32.toNatClampNeg 3) (((uI (uI I 97 1 0) 97 0 0) 102 (Int32.toNatClampNeg 3)) ^^^ (1 <<< ((v1 - 1) &&& 31)))) := Bd.cknown hB2 (show (3 : Int32).toInt = 3 from rfl) (show ((((uI (uI I 97 1 0) 97 0 0) 102 (Int32.toNatClampNeg 3)) ^^^ (1 <<< ((v1 - 1) &&& 31))) : Int32).toInt = ((((uI (uI I 97 1 0) 97 0 0) 102 (Int32.toNatClampNeg 3)) ^^^ (1 <<< ((v1 - 1) &&& 31))) : Int32).toInt from rfl) (by omega) (by omega) (by omega) 
            refine ⟨Or.inr rfl, ?_⟩
            exact hQ _ _ _ _ hB40 trivial
          · skip
            have d46 : ((1) : Int) = (v2.toInt) := ci_eq rfl rfl c38
            refine w_X12_no ?_
            have hB47 : Bd (uI (uI (uI I 97 1 0) 97 0 0) 97 0 9) := Bd.o0 hB2 (show isO 112 97 12 = true from rfl) (by omega) (show bnd 12 0 = none from rfl)
            refine ⟨Or.inl rfl, ?_⟩
            intro o48
            refine ⟨Or.inl rfl, ?_⟩
            exact hQ _ _ _ _ hB47 trivial
      · exact absurd c21 (by decide)
set_option maxHeartbeats 2000000 in
theorem sp_X12_owe {d : Nat} {Q : Qt} {v1 : Int32} {v2 : Int32} {v3 : Int32} {I : Im} {J : Jm} {R : Rm} (hB0 : Bd I) (hR0 : RI R) (hQ : ∀ (x : Int32) (y : Int64) (I2 : Im) (J2 : Jm), Bd I2 → (True) → Q x y I2 J2 R) : AM (d + 3) 267 112 [.ref 97, .int v1, .int v2, .int v3] I J R Q := by
  have i_v1 := i32 v1
  have i_v2 := i32 v2
  have i_v3 := i32 v3
  refine am_X12_owe (fun P hc => ?_)
  refine sg_X12_owe_0 hc _ _ _ _ _ _ ?_
  have hB1 : Bd (uI I 97 1 0) := Bd.o0 hB0 (show isO 112 97 12 = true from rfl) (by omega) (show bnd 12 1 = none from rfl)
  have hB2 : Bd (uI (uI I 97 1 0) 97 0 0) := Bd.o0 hB1 (show isO 112 97 12 = true from rfl) (by omega) (show bnd 12 0 = none from rfl)
  refine w_X12_isManAt ?_
  refine ⟨vp_of (a := 0) rfl (by omega) (by omega), ?_⟩
  refine w_X12_isIn ?_
  refine ⟨fun c3 => ?_, fun c3 => ?_⟩
  · skip
    rw [lg_cmp_lt] at c3
    have d4 : ((v1.toInt) : Int) < (0) := cl_lt (tl_i2l rfl) rfl c3
    refine ⟨Or.inl rfl, ?_⟩
    intro o5
    refine ⟨Or.inl rfl, ?_⟩
    intro o6
    refine ⟨fun c7 => ?_, fun c7 => ?_⟩
    · exact absurd c7 (by decide)
    · skip
      refine w_X12_no ?_
      have hB8 : Bd (uI (uI (uI I 97 1 0) 97 0 0) 97 0 2) := Bd.o0 hB2 (show isO 112 97 12 = true from rfl) (by omega) (show bnd 12 0 = none from rfl)
      refine ⟨Or.inl rfl, ?_⟩
      intro o9
      refine ⟨Or.inl rfl, ?_⟩
      exact hQ _ _ _ _ hB8 trivial
  · skip
    rw [lg_cmp_lt] at c3
    have d10 : ((0) : Int) ≤ (v1.toInt) := cl_nlt (tl_i2l rfl) rfl c3
    refine ⟨fun c11 => ?_, fun c11 => ?_⟩
    · skip
      rw [lg_cmp_gt] at c11
      have b12 := Bd.c hB0 (tn_of (show (0 : Int32).toInt = 0 from rfl) (by omega))
      have e13 : (((uI (uI I 97 1 0) 97 0 0) 102 (Int32.toNatClampNeg 0)) : Int32).toInt = (I 102 (Int32.toNatClampNeg 0)).toInt := Eq.trans (congrArg Int32.toInt (Eq.trans (rd_ne (by omega)) (rd_ne (by omega)))) rfl
      have e14 : ((((uI (uI I 97 1 0) 97 0 0) 102 (Int32.toNatClampNeg 0)) - 1) : Int32).toInt = ((I 102 (Int32.toNatClampNeg 0)).toInt) - (1) := ti_sub e13 rfl (by omega)
      have i15 := i32 ((((uI (uI I 97 1 0) 97 0 0) 102 (Int32.toNatClampNeg 0)) - 1))
      have d16 : ((((I 102 (Int32.toNatClampNeg 0)).toInt - 1)) : Int) < (v1.toInt) := cl_lt (tl_i2l e14) (tl_i2l rfl) c11
      refine ⟨Or.inl rfl, ?_⟩
      intro o17
      refine ⟨Or.inl rfl, ?_⟩
      intro o18
      refine ⟨fun c19 => ?_, fun c19 => ?_⟩
      · exact absurd c19 (by decide)
      · skip
        refine w_X12_no ?_
        have hB20 : Bd (uI (uI (uI I 97 1 0) 97 0 0) 97 0 2) := Bd.o0 hB2 (show isO 112 97 12 = true from rfl) (by omega) (show bnd 12 0 = none from rfl)
        refine ⟨Or.inl rfl, ?_⟩
        intro o21
        refine ⟨Or.inl rfl, ?_⟩
        exact hQ _ _ _ _ hB20 trivial
    · skip
      rw [lg_cmp_gt] at c11
      have b22 := Bd.c hB0 (tn_of (show (0 : Int32).toInt = 0 from rfl) (by omega))
      have e23 : (((uI (uI I 97 1 0) 97 0 0) 102 (Int32.toNatClampNeg 0)) : Int32).toInt = (I 102 (Int32.toNatClampNeg 0)).toInt := Eq.trans (congrArg Int32.toInt (Eq.trans (rd_ne (by omega)) (rd_ne (by omega)))) rfl
      have e24 : ((((uI (uI I 97 1 0) 97 0 0) 102 (Int32.toNatClampNeg 0)) - 1) : Int32).toInt = ((I 102 (Int32.toNatClampNeg 0)).toInt) - (1) := ti_sub e23 rfl (by omega)
      have i25 := i32 ((((uI (uI I 97 1 0) 97 0 0) 102 (Int32.toNatClampNeg 0)) - 1))
      have d26 : ((v1.toInt) : Int) ≤ (((I 102 (Int32.toNatClampNeg 0)).toInt - 1)) := cl_nlt (tl_i2l e24) (tl_i2l rfl) c11
      refine ⟨Or.inr rfl, ?_⟩
      intro o27
      refine ⟨Or.inr rfl, ?_⟩
      intro o28
      refine ⟨fun c29 => ?_, fun c29 => ?_⟩
      · skip
        refine w_X12_isShare ?_
        refine w_X12_isIn ?_
        refine ⟨fun c30 => ?_, fun c30 => ?_⟩
        · skip
          rw [lg_cmp_lt] at c30
          have d31 : ((v2.toInt) : Int) < (1) := cl_lt (tl_i2l rfl) rfl c30
          refine ⟨Or.inl rfl, ?_⟩
          intro o32
          refine ⟨fun c33 => ?_, fun c33 => ?_⟩
          · skip
            refine ⟨Or.inl rfl, ?_⟩
            intro o34
            refine ⟨fun c35 => ?_, fun c35 => ?_⟩
            · exact absurd c35 (by decide)
            · skip
              refine w_X12_no ?_
              have hB36 : Bd (uI (uI (uI I 97 1 0) 97 0 0) 97 0 5) := Bd.o0 hB2 (show isO 112 97 12 = true from rfl) (by omega) (show bnd 12 0 = none from rfl)
              refine ⟨Or.inl rfl, ?_⟩
              intro o37
              refine ⟨Or.inl rfl, ?_⟩
              exact hQ _ _ _ _ hB36 trivial
          · exact absurd c33 (by decide)
        · skip
          rw [lg_cmp_lt] at c30
          have d38 : ((1) : Int) ≤ (v2.toInt) := cl_nlt (tl_i2l rfl) rfl c30
          refine ⟨fun c39 => ?_, fun c39 => ?_⟩
          · skip
            rw [lg_cmp_gt] at c39
            have d40 : ((99) : Int) < (v2.toInt) := cl_lt rfl (tl_i2l rfl) c39
            refine ⟨Or.inl rfl, ?_⟩
            intro o41
            refine ⟨fun c42 => ?_, fun c42 => ?_⟩
            · skip
              refine ⟨Or.inl rfl, ?_⟩
              intro o43
              refine ⟨fun c44 => ?_, fun c44 => ?_⟩
              · exact absurd c44 (by decide)
              · skip
                refine w_X12_no ?_
                have hB45 : Bd (uI (uI (uI I 97 1 0) 97 0 0) 97 0 5) := Bd.o0 hB2 (show isO 112 97 12 = true from rfl) (by omega) (show bnd 12 0 = none from rfl)
                refine ⟨Or.inl rfl, ?_⟩
                intro o46
                refine ⟨Or.inl rfl, ?_⟩
                exact hQ _ _ _ _ hB45 trivial
            · exact absurd c42 (by decide)
          · skip
            rw [lg_cmp_gt] at c39
            have d47 : ((v2.toInt) : Int) ≤ (99) := cl_nlt rfl (tl_i2l rfl) c39
            refine ⟨Or.inr rfl, ?_⟩
            intro o48
            refine ⟨fun c49 => ?_, fun c49 => ?_⟩
            · exact absurd c49 (by decide)
            · skip
              refine w_X12_isIn ?_
              refine ⟨fun c50 => ?_, fun c50 => ?_⟩
              · skip
                rw [lg_cmp_lt] at c50
                have d51 : ((v3.toInt) : Int) < (1) := cl_lt (tl_i2l rfl) rfl c50
                refine ⟨Or.inl rfl, ?_⟩
                intro o52
                refine ⟨fun c53 => ?_, fun c53 => ?_⟩
                · skip
                  refine ⟨Or.inl rfl, ?_⟩
                  intro o54
                  refine ⟨fun c55 => ?_, fun c55 => ?_⟩
                  · exact absurd c55 (by decide)
                  · skip
                    refine w_X12_no ?_
                    have hB56 : Bd (uI (uI (uI I 97 1 0) 97 0 0) 97 0 5) := Bd.o0 hB2 (show isO 112 97 12 = true from rfl) (by omega) (show bnd 12 0 = none from rfl)
                    refine ⟨Or.inl rfl, ?_⟩
                    intro o57
                    refine ⟨Or.inl rfl, ?_⟩
                    exact hQ _ _ _ _ hB56 trivial
                · exact absurd c53 (by decide)
              · skip
                rw [lg_cmp_lt] at c50
                have d58 : ((1) : Int) ≤ (v3.toInt) := cl_nlt (tl_i2l rfl) rfl c50
                refine ⟨fun c59 => ?_, fun c59 => ?_⟩
                · skip
                  rw [lg_cmp_gt] at c59
                  have d60 : ((30) : Int) < (v3.toInt) := cl_lt rfl (tl_i2l rfl) c59
                  refine ⟨Or.inl rfl, ?_⟩
                  intro o61
                  refine ⟨fun c62 => ?_, fun c62 => ?_⟩
                  · skip
                    refine ⟨Or.inl rfl, ?_⟩
                    intro o63
                    refine ⟨fun c64 => ?_, fun c64 => ?_⟩
                    · exact absurd c64 (by decide)
                    · skip
                      refine w_X12_no ?_
                      have hB65 : Bd (uI (uI (uI I 97 1 0) 97 0 0) 97 0 5) := Bd.o0 hB2 (show isO 112 97 12 = true from rfl) (by omega) (show bnd 12 0 = none from rfl)
                      refine ⟨Or.inl rfl, ?_⟩
                      intro o66
                      refine ⟨Or.inl rfl, ?_⟩
                      exact hQ _ _ _ _ hB65 trivial
                  · exact absurd c62 (by decide)
                · skip
                  rw [lg_cmp_gt] at c59
                  have d67 : ((v3.toInt) : Int) ≤ (30) := cl_nlt rfl (tl_i2l rfl) c59
                  refine ⟨Or.inr rfl, ?_⟩
                  intro o68
                  refine ⟨fun c69 => ?_, fun c69 => ?_⟩
                  · exact absurd c69 (by decide)
                  · skip
                    refine ⟨Or.inr rfl, ?_⟩
                    intro o70
                    refine ⟨fun c71 => ?_, fun c71 => ?_⟩
                    · skip
                      have e72 : ((34 + v1) : Int32).toInt = (34) + (v1.toInt) := ti_add rfl rfl (by omega)
                      refine ⟨vp_of (a := (34 + v1.toInt)) e72 (by omega) (by omega), ?_⟩
                      have hB73 : Bd (uI (uI (uI I 97 1 0) 97 0 0) 102 (Int32.toNatClampNeg (34 + v1)) v2) := Bd.cfree hB2 (show ((34 + v1) : Int32).toInt = (34 + v1.toInt) from e72) (by omega) (by omega) (by omega) (by omega)
                      have e74 : ((40 + v1) : Int32).toInt = (40) + (v1.toInt) := ti_add rfl rfl (by omega)
                      refine ⟨vp_of (a := (40 + v1.toInt)) e74 (by omega) (by omega), ?_⟩
                      have hB75 : Bd (uI (uI (uI (uI I 97 1 0) 97 0 0) 102 (Int32.toNatClampNeg (34 + v1)) v2) 102 (Int32.toNatClampNeg (40 + v1)) v3) := Bd.csecond hB73 (show ((40 + v1) : Int32).toInt = (40 + v1.toInt) from e74) (show (v3 : Int32).toInt = v3.toInt from rfl) (by omega) (by omega) (by omega) 
                      refine ⟨Or.inr rfl, ?_⟩
                      exact hQ _ _ _ _ hB75 trivial
                    · exact absurd c71 (by decide)
      · exact absurd c29 (by decide)
set_option maxHeartbeats 2000000 in
theorem sp_X12_rows_r (m : Nat) : ∀ {d : Nat} {Q : Qt} {v1 : Int32} {v2 : Int32} {v3 : Int32} {v4 : Int32} {v5 : Int64} {v7 : Int32} {I : Im} {J : Jm} {R : Rm} (hB0 : Bd I) (hR0 : RI R) (hv1 : 0 ≤ v1.toInt ∧ v1.toInt ≤ v2.toInt ∧ v2.toInt ≤ 5) (hv3 : 1 ≤ v3.toInt ∧ v3.toInt ≤ 31 ∧ v4.toInt ≤ 31) (hm0 : 6 - v1.toInt ≤ (m : Int)) (hQ : ∀ (x : Int32) (y : Int64) (I2 : Im) (J2 : Jm), Bd I2 → (True) → Q x y I2 J2 R), AM (d + m + 3) 271 112 [.ref 97, .int v1, .int v2, .int v3, .int v4, .long v5, .int v7] I J R Q := by
  induction m with
  | zero => intro d Q v1 v2 v3 v4 v5 v7 I J R hB0 hR0 hv1 hv3 hm0 hQ; exact absurd hm0 (by omega)
  | succ m ihm =>
  intro d Q v1 v2 v3 v4 v5 v7 I J R hB0 hR0 hv1 hv3 hm0 hQ
  have i_v1 := i32 v1
  have i_v2 := i32 v2
  have i_v3 := i32 v3
  have i_v4 := i32 v4
  have i_v5 := i64 v5
  have i_v7 := i32 v7
  refine am_X12_rows (fun P hc => ?_)
  have L : ∀ n : Nat, (∀ (v8 : Int32) (M : Im) (J : Jm), Bd M → (0 ≤ v2.toInt ∧ v2.toInt ≤ 5 ∧ 0 ≤ v8.toInt ∧ v8.toInt ≤ 5) → 500 - v8.toInt < (n : Int) → P 23 112 [(0, .ref 97), (2, .int v2), (8, .int v8)] [] M J R) ∧ (∀ (M : Im) (J : Jm), Bd M → (0 ≤ v2.toInt ∧ v2.toInt ≤ 5) → 400 < (n : Int) → P 49 112 [(0, .ref 97), (2, .int v2)] [] M J R) ∧ (∀ (v8 : Int32) (M : Im) (J : Jm), Bd M → (0 ≤ v2.toInt ∧ v2.toInt ≤ 5 ∧ 0 ≤ v8.toInt ∧ v8.toInt ≤ 5) → 100 - v8.toInt < (n : Int) → P 62 112 [(0, .ref 97), (2, .int v2), (8, .int v8)] [] M J R) ∧ (∀ (v8 : Int32) (M : Im) (J : Jm), Bd M → (0 ≤ v1.toInt ∧ v1.toInt < v2.toInt ∧ v2.toInt ≤ 5 ∧ v4.toInt ≤ 31 ∧ 1 ≤ v8.toInt ∧ v8.toInt ≤ 31) → 50 - v8.toInt < (n : Int) → P 94 112 [(0, .ref 97), (1, .int v1), (2, .int v2), (4, .int v4), (5, .long v5), (7, .int v7), (8, .int v8)] [] M J R) := by
    intro n
    induction n with
    | zero =>
      exact ⟨fun v8 M J _ hi hm => absurd hm (by omega), fun  M J _ hi hm => absurd hm (by omega), fun v8 M J _ hi hm => absurd hm (by omega), fun v8 M J _ hi hm => absurd hm (by omega)⟩
    | succ n ih =>
      refine ⟨?_, ?_, ?_, ?_⟩
      · skip
        intro v8 M J hB hi hm
        have i_v2 := i32 v2
        have i_v8 := i32 v8
        refine sg_X12_rows_23 hc _ _ _ _ _ ?_
        refine ⟨fun c1 => ?_, fun c1 => ?_⟩
        · skip
          have d2 : ((v2.toInt) : Int) ≤ (v8.toInt) := ci_le rfl rfl c1
          exact ih.2.1 _ _ hB (by omega) (by omega)
        · skip
          have d3 : ((v8.toInt) : Int) < (v2.toInt) := ci_nle rfl rfl c1
          refine ⟨vp_of (a := v8.toInt) rfl (by omega) (by omega), ?_⟩
          refine ⟨vp_of (a := v8.toInt) rfl (by omega) (by omega), ?_⟩
          have hB4 : Bd (uI M 106 (Int32.toNatClampNeg v8) (M 105 (Int32.toNatClampNeg v8))) := Bd.a0 hB (show isA 112 106 0 = true from rfl) (show bna 106 = none from rfl)
          have e5 : ((v8 + 1) : Int32).toInt = (v8.toInt) + (1) := ti_add rfl rfl (by omega)
          exact ih.1 _ _ _ hB4 (by have q0 : ((v8 + 1) : Int32).toInt = (v8.toInt + 1) := e5; omega) (by have q0 : ((v8 + 1) : Int32).toInt = (v8.toInt + 1) := e5; omega)
      · skip
        intro  M J hB hi hm
        have i_v2 := i32 v2
        refine sg_X12_rows_49 hc _ _ _ _ ?_
        have hB6 : Bd (uI M 97 31 ((M 97 31) + 1)) := Bd.o0 hB (show isO 112 97 12 = true from rfl) (by omega) (show bnd 12 31 = none from rfl)
        exact ih.2.2.1 _ _ _ hB6 (by have q0 : (0 : Int32).toInt = 0 := rfl; omega) (by have q0 : (0 : Int32).toInt = 0 := rfl; omega)
      · skip
        intro v8 M J hB hi hm
        have i_v2 := i32 v2
        have i_v8 := i32 v8
        refine sg_X12_rows_62 hc _ _ _ _ _ ?_
        refine ⟨fun c7 => ?_, fun c7 => ?_⟩
        · skip
          have d8 : ((v2.toInt) : Int) ≤ (v8.toInt) := ci_le rfl rfl c7
          exact hQ _ _ _ _ hB trivial
        · skip
          have d9 : ((v8.toInt) : Int) < (v2.toInt) := ci_nle rfl rfl c7
          refine ⟨vp_of (a := v8.toInt) rfl (by omega) (by omega), ?_⟩
          have b10 := Bd.a hB (Int32.toNatClampNeg v8) (show bna 105 = some _ from rfl)
          refine ⟨vp_of (a := (M 105 (Int32.toNatClampNeg v8)).toInt) rfl (by omega) (by omega), ?_⟩
          refine ⟨vp_of (a := (M 105 (Int32.toNatClampNeg v8)).toInt) rfl (by omega) (by omega), ?_⟩
          have hB11 : Bd (uI M 107 (Int32.toNatClampNeg (M 105 (Int32.toNatClampNeg v8))) ((M 107 (Int32.toNatClampNeg (M 105 (Int32.toNatClampNeg v8)))) + 1)) := Bd.a0 hB (show isA 112 107 0 = true from rfl) (show bna 107 = none from rfl)
          have e12 : ((v8 + 1) : Int32).toInt = (v8.toInt) + (1) := ti_add rfl rfl (by omega)
          exact ih.2.2.1 _ _ _ hB11 (by have q0 : ((v8 + 1) : Int32).toInt = (v8.toInt + 1) := e12; omega) (by have q0 : ((v8 + 1) : Int32).toInt = (v8.toInt + 1) := e12; omega)
      · skip
        intro v8 M J hB hi hm
        have i_v1 := i32 v1
        have i_v2 := i32 v2
        have i_v4 := i32 v4
        have i_v5 := i64 v5
        have i_v7 := i32 v7
        have i_v8 := i32 v8
        refine sg_X12_rows_94 hc _ _ _ _ _ _ _ _ _ ?_
        refine ⟨fun c13 => ?_, fun c13 => ?_⟩
        · skip
          have d14 : ((v4.toInt) : Int) ≤ (v8.toInt) := ci_le rfl rfl c13
          exact hQ _ _ _ _ hB trivial
        · skip
          have d15 : ((v8.toInt) : Int) < (v4.toInt) := ci_nle rfl rfl c13
          refine w_X12_partsOf ?_
          refine ⟨(fun z => by have z2 : (v8.toInt : Int) = 0 := cl_eq (tl_i2l rfl) rfl z; omega), ?_⟩
          refine ⟨fun c16 => ?_, fun c16 => ?_⟩
          · skip
            rw [lg_cmp_lt] at c16
            have d17 : (((((2329089562800 / (Int32.toInt64 v8)) * (Int32.toInt64 (v2 - v1))) : Int64).toInt) : Int) < ((v5 : Int64).toInt) := cl_lt rfl rfl c16
            exact hQ _ _ _ _ hB trivial
          · skip
            rw [lg_cmp_lt] at c16
            have d18 : (((v5 : Int64).toInt) : Int) ≤ ((((2329089562800 / (Int32.toInt64 v8)) * (Int32.toInt64 (v2 - v1))) : Int64).toInt) := cl_nlt rfl rfl c16
            refine w_X12_isOf ?_
            refine ⟨fun c19 => ?_, fun c19 => ?_⟩
            · skip
              have d20 : ¬ (((((v7 >>> ((v8 - 1) &&& 31)) &&& 1) : Int32).toInt) : Int) = (1) := ci_ne rfl rfl c19
              refine ⟨Or.inl rfl, ?_⟩
              intro o21
              refine ⟨fun c22 => ?_, fun c22 => ?_⟩
              · skip
                have e23 : ((v8 + 1) : Int32).toInt = (v8.toInt) + (1) := ti_add rfl rfl (by omega)
                exact ih.2.2.2 _ _ _ hB (by have q0 : ((v8 + 1) : Int32).toInt = (v8.toInt + 1) := e23; omega) (by have q0 : ((v8 + 1) : Int32).toInt = (v8.toInt + 1) := e23; omega)
              · exact absurd c22 (by decide)
            · skip
              have d24 : (((((v7 >>> ((v8 - 1) &&& 31)) &&& 1) : Int32).toInt) : Int) = (1) := ci_eq rfl rfl c19
              refine ⟨Or.inr rfl, ?_⟩
              intro o25
              refine ⟨fun c26 => ?_, fun c26 => ?_⟩
              · exact absurd c26 (by decide)
              · skip
                refine w_X12_partsOf ?_
                refine ⟨(fun z => by have z2 : (v8.toInt : Int) = 0 := cl_eq (tl_i2l rfl) rfl z; omega), ?_⟩
                refine ⟨fun c27 => ?_, fun c27 => ?_⟩
                · skip
                  rw [lg_cmp_le] at c27
                  have d28 : ((((2329089562800 / (Int32.toInt64 v8)) : Int64).toInt) : Int) ≤ ((v5 : Int64).toInt) := cl_le rfl rfl c27
                  refine ⟨vp_of (a := v1.toInt) rfl (by omega) (by omega), ?_⟩
                  have hB29 : Bd (uI M 105 (Int32.toNatClampNeg v1) v8) := Bd.a1 hB (show isA 112 105 0 = true from rfl) (show bna 105 = some _ from rfl) (show (v8 : Int32).toInt = v8.toInt from rfl) (by omega)
                  refine w_X12_partsOf ?_
                  refine ⟨(fun z => by have z2 : (v8.toInt : Int) = 0 := cl_eq (tl_i2l rfl) rfl z; omega), ?_⟩
                  have e30 : ((v1 + 1) : Int32).toInt = (v1.toInt) + (1) := ti_add rfl rfl (by omega)
                  have e31 : ((v8 + 1) : Int32).toInt = (v8.toInt) + (1) := ti_add rfl rfl (by omega)
                  refine ihm (d := d) hB29 hR0 (by have z1 : ((v1 + 1) : Int32).toInt = (v1.toInt + 1) := e30; have z2 : (v2 : Int32).toInt = v2.toInt := rfl; omega) (by have z3 : ((v8 + 1) : Int32).toInt = (v8.toInt + 1) := e31; have z4 : (v4 : Int32).toInt = v4.toInt := rfl; omega) (by have z : ((v1 + 1) : Int32).toInt = (v1.toInt + 1) := e30; omega) (fun x32 y37 I33 J34 hB35 p36 => ?_)
                  exact ih.2.2.2 _ _ _ hB35 (by have q0 : ((v8 + 1) : Int32).toInt = (v8.toInt + 1) := e31; omega) (by have q0 : ((v8 + 1) : Int32).toInt = (v8.toInt + 1) := e31; omega)
                · skip
                  rw [lg_cmp_le] at c27
                  have d38 : (((v5 : Int64).toInt) : Int) < (((2329089562800 / (Int32.toInt64 v8)) : Int64).toInt) := cl_nle rfl rfl c27
                  have e39 : ((v8 + 1) : Int32).toInt = (v8.toInt) + (1) := ti_add rfl rfl (by omega)
                  exact ih.2.2.2 _ _ _ hB (by have q0 : ((v8 + 1) : Int32).toInt = (v8.toInt + 1) := e39; omega) (by have q0 : ((v8 + 1) : Int32).toInt = (v8.toInt + 1) := e39; omega)
  refine sg_X12_rows_0 hc _ _ _ _ _ _ _ _ _ ?_
  refine ⟨fun c40 => ?_, fun c40 => ?_⟩
  · skip
    have d41 : ¬ ((v1.toInt) : Int) = (v2.toInt) := ci_ne rfl rfl c40
    exact (L 1000000).2.2.2 _ _ _ hB0 (by have q0 : (v3 : Int32).toInt = v3.toInt := rfl; omega) (by have q0 : (v3 : Int32).toInt = v3.toInt := rfl; omega)
  · skip
    have d42 : ((v1.toInt) : Int) = (v2.toInt) := ci_eq rfl rfl c40
    refine ⟨fun c43 => ?_, fun c43 => ?_⟩
    · skip
      rw [lg_cmp_eq] at c43
      have d44 : (((v5 : Int64).toInt) : Int) = (0) := cl_eq rfl rfl c43
      refine ⟨fun c45 => ?_, fun c45 => ?_⟩
      · skip
        have d46 : ¬ (((I 97 31).toInt) : Int) = (0) := ci_ne rfl rfl c45
        exact (L 1000000).2.1 _ _ hB0 (by omega) (by omega)
      · skip
        have d47 : (((I 97 31).toInt) : Int) = (0) := ci_eq rfl rfl c45
        exact (L 1000000).1 _ _ _ hB0 (by have q0 : (0 : Int32).toInt = 0 := rfl; omega) (by have q0 : (0 : Int32).toInt = 0 := rfl; omega)
    · skip
      rw [lg_cmp_eq] at c43
      have d48 : ¬ (((v5 : Int64).toInt) : Int) = (0) := cl_ne rfl rfl c43
      exact hQ _ _ _ _ hB0 trivial
theorem sp_X12_rows {d : Nat} {Q : Qt} {v1 : Int32} {v2 : Int32} {v3 : Int32} {v4 : Int32} {v5 : Int64} {v7 : Int32} {I : Im} {J : Jm} {R : Rm} (hB0 : Bd I) (hR0 : RI R) (hv1 : 0 ≤ v1.toInt ∧ v1.toInt ≤ v2.toInt ∧ v2.toInt ≤ 5) (hv3 : 1 ≤ v3.toInt ∧ v3.toInt ≤ 31 ∧ v4.toInt ≤ 31) (hQ : ∀ (x : Int32) (y : Int64) (I2 : Im) (J2 : Jm), Bd I2 → (True) → Q x y I2 J2 R) : AM (d + 9) 271 112 [.ref 97, .int v1, .int v2, .int v3, .int v4, .long v5, .int v7] I J R Q := sp_X12_rows_r 6 (d := d) hB0 hR0 hv1 hv3 (by omega) hQ
set_option maxHeartbeats 2000000 in
theorem sp_X12_laysRows {d : Nat} {Q : Qt} {v1 : Int32} {v2 : Int32} {v3 : Int64} {v5 : Int32} {I : Im} {J : Jm} {R : Rm} (hB0 : Bd I) (hR0 : RI R) (hv1 : 0 ≤ v1.toInt ∧ v1.toInt ≤ 5) (hv2 : v2.toInt ≤ 31) (hQ : ∀ (x : Int32) (y : Int64) (I2 : Im) (J2 : Jm), Bd I2 → (True) → Q x y I2 J2 R) : AM (d + 10) 272 112 [.ref 97, .int v1, .int v2, .long v3, .int v5] I J R Q := by
  have i_v1 := i32 v1
  have i_v2 := i32 v2
  have i_v3 := i64 v3
  have i_v5 := i32 v5
  refine am_X12_laysRows (fun P hc => ?_)
  have L : ∀ n : Nat, (∀ (v6 : Int32) (M : Im) (J : Jm), Bd M → (0 ≤ v6.toInt ∧ v6.toInt ≤ 31) → 40 - v6.toInt < (n : Int) → P 8 112 [(0, .ref 97), (1, .int v1), (2, .int v2), (3, .long v3), (5, .int v5), (6, .int v6)] [] M J R) := by
    intro n
    induction n with
    | zero =>
      exact fun v6 M J _ hi hm => absurd hm (by omega)
    | succ n ih =>
      intro v6 M J hB hi hm
      have i_v1 := i32 v1
      have i_v2 := i32 v2
      have i_v3 := i64 v3
      have i_v5 := i32 v5
      have i_v6 := i32 v6
      refine sg_X12_laysRows_8 hc _ _ _ _ _ _ _ _ ?_
      refine ⟨fun c1 => ?_, fun c1 => ?_⟩
      · skip
        have d2 : ((30) : Int) < (v6.toInt) := ci_lt rfl rfl c1
        refine sp_X12_rows hB hR0 (by have z1 : (0 : Int32).toInt = 0 := rfl; have z2 : (v1 : Int32).toInt = v1.toInt := rfl; omega) (by have z3 : (1 : Int32).toInt = 1 := rfl; have z4 : (v2 : Int32).toInt = v2.toInt := rfl; omega) (fun x3 y8 I4 J5 hB6 p7 => ?_)
        refine ⟨fun c9 => ?_, fun c9 => ?_⟩
        · skip
          have d10 : (((I4 97 31).toInt) : Int) ≤ (0) := ci_le rfl rfl c9
          refine ⟨Or.inl rfl, ?_⟩
          exact hQ _ _ _ _ hB6 trivial
        · skip
          have d11 : ((0) : Int) < ((I4 97 31).toInt) := ci_nle rfl rfl c9
          refine ⟨Or.inr rfl, ?_⟩
          exact hQ _ _ _ _ hB6 trivial
      · skip
        have d12 : ((v6.toInt) : Int) ≤ (30) := ci_nlt rfl rfl c1
        refine ⟨vp_of (a := v6.toInt) rfl (by omega) (by omega), ?_⟩
        have hB13 : Bd (uI M 107 (Int32.toNatClampNeg v6) 0) := Bd.a0 hB (show isA 112 107 0 = true from rfl) (show bna 107 = none from rfl)
        have e14 : ((v6 + 1) : Int32).toInt = (v6.toInt) + (1) := ti_add rfl rfl (by omega)
        exact ih _ _ _ hB13 (by have q0 : ((v6 + 1) : Int32).toInt = (v6.toInt + 1) := e14; omega) (by have q0 : ((v6 + 1) : Int32).toInt = (v6.toInt + 1) := e14; omega)
  refine sg_X12_laysRows_0 hc _ _ _ _ _ _ _ ?_
  have hB15 : Bd (uI I 97 31 0) := Bd.o0 hB0 (show isO 112 97 12 = true from rfl) (by omega) (show bnd 12 31 = none from rfl)
  exact (L 1000000) _ _ _ hB15 (by have q0 : (0 : Int32).toInt = 0 := rfl; omega) (by have q0 : (0 : Int32).toInt = 0 := rfl; omega)
set_option maxHeartbeats 2000000 in
theorem sp_X12_fewestOf {d : Nat} {Q : Qt} {v1 : Int64} {v3 : Int32} {v4 : Int32} {I : Im} {J : Jm} {R : Rm} (hB0 : Bd I) (hR0 : RI R) (hv4 : 0 ≤ v4.toInt ∧ v4.toInt ≤ 1) (hQ : ∀ (x : Int32) (y : Int64) (I2 : Im) (J2 : Jm), Bd I2 → ((-1 ≤ x.toInt ∧ x.toInt ≤ 5)) → Q x y I2 J2 R) : AM (d + 11) 273 112 [.ref 97, .long v1, .int v3, .int v4] I J R Q := by
  have i_v1 := i64 v1
  have i_v3 := i32 v3
  have i_v4 := i32 v4
  refine am_X12_fewestOf (fun P hc => ?_)
  have L : ∀ n : Nat, (∀ (v5 : Int32) (M : Im) (J : Jm), Bd M → (0 ≤ v5.toInt ∧ v5.toInt ≤ 6) → 10 - v5.toInt < (n : Int) → P 4 112 [(0, .ref 97), (1, .long v1), (3, .int v3), (5, .int v5)] [] M J R) := by
    intro n
    induction n with
    | zero =>
      exact fun v5 M J _ hi hm => absurd hm (by omega)
    | succ n ih =>
      intro v5 M J hB hi hm
      have i_v1 := i64 v1
      have i_v3 := i32 v3
      have i_v5 := i32 v5
      refine sg_X12_fewestOf_4 hc _ _ _ _ _ _ ?_
      refine ⟨fun c1 => ?_, fun c1 => ?_⟩
      · skip
        have d2 : ((5) : Int) < (v5.toInt) := ci_lt rfl rfl c1
        exact hQ _ _ _ _ hB (by have q0 : ((-1) : Int32).toInt = (-1) := rfl; omega)
      · skip
        have d3 : ((v5.toInt) : Int) ≤ (5) := ci_nlt rfl rfl c1
        refine sp_X12_laysRows hB hR0 (by have z1 : (v5 : Int32).toInt = v5.toInt := rfl; omega) (by have z2 : (31 : Int32).toInt = 31 := rfl; omega) (fun x4 y9 I5 J6 hB7 p8 => ?_)
        intro o10
        have i11 := i32 x4
        refine ⟨fun c12 => ?_, fun c12 => ?_⟩
        · skip
          have d13 : ((x4.toInt) : Int) = (0) := ci_eq rfl rfl c12
          have e14 : ((v5 + 1) : Int32).toInt = (v5.toInt) + (1) := ti_add rfl rfl (by omega)
          exact ih _ _ _ hB7 (by have q0 : ((v5 + 1) : Int32).toInt = (v5.toInt + 1) := e14; omega) (by have q0 : ((v5 + 1) : Int32).toInt = (v5.toInt + 1) := e14; omega)
        · skip
          have d15 : ¬ ((x4.toInt) : Int) = (0) := ci_ne rfl rfl c12
          exact hQ _ _ _ _ hB7 (by have q0 : (v5 : Int32).toInt = v5.toInt := rfl; omega)
  refine sg_X12_fewestOf_0 hc _ _ _ _ _ _ ?_
  exact (L 1000000) _ _ _ hB0 (by have q0 : (v4 : Int32).toInt = v4.toInt := rfl; omega) (by have q0 : (v4 : Int32).toInt = v4.toInt := rfl; omega)
set_option maxHeartbeats 2000000 in
theorem sp_X12_ways {d : Nat} {Q : Qt} {v1 : Int32} {v2 : Int32} {v3 : Int32} {I : Im} {J : Jm} {R : Rm} (hB0 : Bd I) (hR0 : RI R) (hQ : ∀ (x : Int32) (y : Int64) (I2 : Im) (J2 : Jm), Bd I2 → (True) → Q x y I2 J2 R) : AM (d + 11) 277 112 [.ref 97, .int v1, .int v2, .int v3] I J R Q := by
  have i_v1 := i32 v1
  have i_v2 := i32 v2
  have i_v3 := i32 v3
  refine am_X12_ways (fun P hc => ?_)
  refine sg_X12_ways_0 hc _ _ _ _ _ _ ?_
  have hB1 : Bd (uI I 97 1 0) := Bd.o0 hB0 (show isO 112 97 12 = true from rfl) (by omega) (show bnd 12 1 = none from rfl)
  have hB2 : Bd (uI (uI I 97 1 0) 97 0 0) := Bd.o0 hB1 (show isO 112 97 12 = true from rfl) (by omega) (show bnd 12 0 = none from rfl)
  refine w_X12_isShare ?_
  refine w_X12_isIn ?_
  refine ⟨fun c3 => ?_, fun c3 => ?_⟩
  · skip
    rw [lg_cmp_lt] at c3
    have d4 : ((v1.toInt) : Int) < (1) := cl_lt (tl_i2l rfl) rfl c3
    refine ⟨Or.inl rfl, ?_⟩
    intro o5
    refine ⟨fun c6 => ?_, fun c6 => ?_⟩
    · skip
      refine ⟨Or.inl rfl, ?_⟩
      intro o7
      refine ⟨fun c8 => ?_, fun c8 => ?_⟩
      · skip
        refine w_X12_refuse ?_
        have hB9 : Bd (uI (uI (uI I 97 1 0) 97 0 0) 97 0 5) := Bd.o0 hB2 (show isO 112 97 12 = true from rfl) (by omega) (show bnd 12 0 = none from rfl)
        exact hQ _ _ _ _ hB9 trivial
      · exact absurd c8 (by decide)
    · exact absurd c6 (by decide)
  · skip
    rw [lg_cmp_lt] at c3
    have d10 : ((1) : Int) ≤ (v1.toInt) := cl_nlt (tl_i2l rfl) rfl c3
    refine ⟨fun c11 => ?_, fun c11 => ?_⟩
    · skip
      rw [lg_cmp_gt] at c11
      have d12 : ((99) : Int) < (v1.toInt) := cl_lt rfl (tl_i2l rfl) c11
      refine ⟨Or.inl rfl, ?_⟩
      intro o13
      refine ⟨fun c14 => ?_, fun c14 => ?_⟩
      · skip
        refine ⟨Or.inl rfl, ?_⟩
        intro o15
        refine ⟨fun c16 => ?_, fun c16 => ?_⟩
        · skip
          refine w_X12_refuse ?_
          have hB17 : Bd (uI (uI (uI I 97 1 0) 97 0 0) 97 0 5) := Bd.o0 hB2 (show isO 112 97 12 = true from rfl) (by omega) (show bnd 12 0 = none from rfl)
          exact hQ _ _ _ _ hB17 trivial
        · exact absurd c16 (by decide)
      · exact absurd c14 (by decide)
    · skip
      rw [lg_cmp_gt] at c11
      have d18 : ((v1.toInt) : Int) ≤ (99) := cl_nlt rfl (tl_i2l rfl) c11
      refine ⟨Or.inr rfl, ?_⟩
      intro o19
      refine ⟨fun c20 => ?_, fun c20 => ?_⟩
      · exact absurd c20 (by decide)
      · skip
        refine w_X12_isIn ?_
        refine ⟨fun c21 => ?_, fun c21 => ?_⟩
        · skip
          rw [lg_cmp_lt] at c21
          have d22 : ((v2.toInt) : Int) < (1) := cl_lt (tl_i2l rfl) rfl c21
          refine ⟨Or.inl rfl, ?_⟩
          intro o23
          refine ⟨fun c24 => ?_, fun c24 => ?_⟩
          · skip
            refine ⟨Or.inl rfl, ?_⟩
            intro o25
            refine ⟨fun c26 => ?_, fun c26 => ?_⟩
            · skip
              refine w_X12_refuse ?_
              have hB27 : Bd (uI (uI (uI I 97 1 0) 97 0 0) 97 0 5) := Bd.o0 hB2 (show isO 112 97 12 = true from rfl) (by omega) (show bnd 12 0 = none from rfl)
              exact hQ _ _ _ _ hB27 trivial
            · exact absurd c26 (by decide)
          · exact absurd c24 (by decide)
        · skip
          rw [lg_cmp_lt] at c21
          have d28 : ((1) : Int) ≤ (v2.toInt) := cl_nlt (tl_i2l rfl) rfl c21
          refine ⟨fun c29 => ?_, fun c29 => ?_⟩
          · skip
            rw [lg_cmp_gt] at c29
            have d30 : ((30) : Int) < (v2.toInt) := cl_lt rfl (tl_i2l rfl) c29
            refine ⟨Or.inl rfl, ?_⟩
            intro o31
            refine ⟨fun c32 => ?_, fun c32 => ?_⟩
            · skip
              refine ⟨Or.inl rfl, ?_⟩
              intro o33
              refine ⟨fun c34 => ?_, fun c34 => ?_⟩
              · skip
                refine w_X12_refuse ?_
                have hB35 : Bd (uI (uI (uI I 97 1 0) 97 0 0) 97 0 5) := Bd.o0 hB2 (show isO 112 97 12 = true from rfl) (by omega) (show bnd 12 0 = none from rfl)
                exact hQ _ _ _ _ hB35 trivial
              · exact absurd c34 (by decide)
            · exact absurd c32 (by decide)
          · skip
            rw [lg_cmp_gt] at c29
            have d36 : ((v2.toInt) : Int) ≤ (30) := cl_nlt rfl (tl_i2l rfl) c29
            refine ⟨Or.inr rfl, ?_⟩
            intro o37
            refine ⟨fun c38 => ?_, fun c38 => ?_⟩
            · exact absurd c38 (by decide)
            · skip
              refine ⟨Or.inr rfl, ?_⟩
              intro o39
              refine ⟨fun c40 => ?_, fun c40 => ?_⟩
              · exact absurd c40 (by decide)
              · skip
                refine w_X12_isIn ?_
                refine ⟨fun c41 => ?_, fun c41 => ?_⟩
                · skip
                  rw [lg_cmp_lt] at c41
                  have d42 : ((v3.toInt) : Int) < (1) := cl_lt (tl_i2l rfl) rfl c41
                  refine ⟨Or.inl rfl, ?_⟩
                  intro o43
                  refine ⟨fun c44 => ?_, fun c44 => ?_⟩
                  · exact absurd c44 (by decide)
                  · skip
                    refine w_X12_refuse ?_
                    have hB45 : Bd (uI (uI (uI I 97 1 0) 97 0 0) 97 0 5) := Bd.o0 hB2 (show isO 112 97 12 = true from rfl) (by omega) (show bnd 12 0 = none from rfl)
                    exact hQ _ _ _ _ hB45 trivial
                · skip
                  rw [lg_cmp_lt] at c41
                  have d46 : ((1) : Int) ≤ (v3.toInt) := cl_nlt (tl_i2l rfl) rfl c41
                  refine ⟨fun c47 => ?_, fun c47 => ?_⟩
                  · skip
                    rw [lg_cmp_gt] at c47
                    have d48 : ((5) : Int) < (v3.toInt) := cl_lt rfl (tl_i2l rfl) c47
                    refine ⟨Or.inl rfl, ?_⟩
                    intro o49
                    refine ⟨fun c50 => ?_, fun c50 => ?_⟩
                    · exact absurd c50 (by decide)
                    · skip
                      refine w_X12_refuse ?_
                      have hB51 : Bd (uI (uI (uI I 97 1 0) 97 0 0) 97 0 5) := Bd.o0 hB2 (show isO 112 97 12 = true from rfl) (by omega) (show bnd 12 0 = none from rfl)
                      exact hQ _ _ _ _ hB51 trivial
                  · skip
                    rw [lg_cmp_gt] at c47
                    have d52 : ((v3.toInt) : Int) ≤ (5) := cl_nlt rfl (tl_i2l rfl) c47
                    refine ⟨Or.inr rfl, ?_⟩
                    intro o53
                    refine ⟨fun c54 => ?_, fun c54 => ?_⟩
                    · skip
                      refine w_X12_shareOf ?_
                      refine ⟨(fun z => by have z2 : (v2.toInt : Int) = 0 := cl_eq (tl_i2l rfl) rfl z; omega), ?_⟩
                      refine ⟨vp_of (a := 3) rfl (by omega) (by omega), ?_⟩
                      refine sp_X12_laysRows hB2 hR0 (by have z1 : (v3 : Int32).toInt = v3.toInt := rfl; omega) (by have z2 : (31 : Int32).toInt = 31 := rfl; omega) (fun x55 y60 I56 J57 hB58 p59 => ?_)
                      intro o61
                      have i62 := i32 x55
                      exact hQ _ _ _ _ hB58 trivial
                    · exact absurd c54 (by decide)
set_option maxHeartbeats 2000000 in
theorem sp_X12_fewest {d : Nat} {Q : Qt} {v1 : Int32} {v2 : Int32} {I : Im} {J : Jm} {R : Rm} (hB0 : Bd I) (hR0 : RI R) (hQ : ∀ (x : Int32) (y : Int64) (I2 : Im) (J2 : Jm), Bd I2 → (True) → Q x y I2 J2 R) : AM (d + 12) 275 112 [.ref 97, .int v1, .int v2] I J R Q := by
  have i_v1 := i32 v1
  have i_v2 := i32 v2
  refine am_X12_fewest (fun P hc => ?_)
  refine sg_X12_fewest_0 hc _ _ _ _ _ ?_
  have hB1 : Bd (uI I 97 1 0) := Bd.o0 hB0 (show isO 112 97 12 = true from rfl) (by omega) (show bnd 12 1 = none from rfl)
  have hB2 : Bd (uI (uI I 97 1 0) 97 0 0) := Bd.o0 hB1 (show isO 112 97 12 = true from rfl) (by omega) (show bnd 12 0 = none from rfl)
  refine w_X12_isShare ?_
  refine w_X12_isIn ?_
  refine ⟨fun c3 => ?_, fun c3 => ?_⟩
  · skip
    rw [lg_cmp_lt] at c3
    have d4 : ((v1.toInt) : Int) < (1) := cl_lt (tl_i2l rfl) rfl c3
    refine ⟨Or.inl rfl, ?_⟩
    intro o5
    refine ⟨fun c6 => ?_, fun c6 => ?_⟩
    · skip
      refine ⟨Or.inl rfl, ?_⟩
      intro o7
      refine ⟨fun c8 => ?_, fun c8 => ?_⟩
      · skip
        refine w_X12_refuse ?_
        have hB9 : Bd (uI (uI (uI I 97 1 0) 97 0 0) 97 0 5) := Bd.o0 hB2 (show isO 112 97 12 = true from rfl) (by omega) (show bnd 12 0 = none from rfl)
        exact hQ _ _ _ _ hB9 trivial
      · exact absurd c8 (by decide)
    · exact absurd c6 (by decide)
  · skip
    rw [lg_cmp_lt] at c3
    have d10 : ((1) : Int) ≤ (v1.toInt) := cl_nlt (tl_i2l rfl) rfl c3
    refine ⟨fun c11 => ?_, fun c11 => ?_⟩
    · skip
      rw [lg_cmp_gt] at c11
      have d12 : ((99) : Int) < (v1.toInt) := cl_lt rfl (tl_i2l rfl) c11
      refine ⟨Or.inl rfl, ?_⟩
      intro o13
      refine ⟨fun c14 => ?_, fun c14 => ?_⟩
      · skip
        refine ⟨Or.inl rfl, ?_⟩
        intro o15
        refine ⟨fun c16 => ?_, fun c16 => ?_⟩
        · skip
          refine w_X12_refuse ?_
          have hB17 : Bd (uI (uI (uI I 97 1 0) 97 0 0) 97 0 5) := Bd.o0 hB2 (show isO 112 97 12 = true from rfl) (by omega) (show bnd 12 0 = none from rfl)
          exact hQ _ _ _ _ hB17 trivial
        · exact absurd c16 (by decide)
      · exact absurd c14 (by decide)
    · skip
      rw [lg_cmp_gt] at c11
      have d18 : ((v1.toInt) : Int) ≤ (99) := cl_nlt rfl (tl_i2l rfl) c11
      refine ⟨Or.inr rfl, ?_⟩
      intro o19
      refine ⟨fun c20 => ?_, fun c20 => ?_⟩
      · exact absurd c20 (by decide)
      · skip
        refine w_X12_isIn ?_
        refine ⟨fun c21 => ?_, fun c21 => ?_⟩
        · skip
          rw [lg_cmp_lt] at c21
          have d22 : ((v2.toInt) : Int) < (1) := cl_lt (tl_i2l rfl) rfl c21
          refine ⟨Or.inl rfl, ?_⟩
          intro o23
          refine ⟨fun c24 => ?_, fun c24 => ?_⟩
          · skip
            refine ⟨Or.inl rfl, ?_⟩
            intro o25
            refine ⟨fun c26 => ?_, fun c26 => ?_⟩
            · skip
              refine w_X12_refuse ?_
              have hB27 : Bd (uI (uI (uI I 97 1 0) 97 0 0) 97 0 5) := Bd.o0 hB2 (show isO 112 97 12 = true from rfl) (by omega) (show bnd 12 0 = none from rfl)
              exact hQ _ _ _ _ hB27 trivial
            · exact absurd c26 (by decide)
          · exact absurd c24 (by decide)
        · skip
          rw [lg_cmp_lt] at c21
          have d28 : ((1) : Int) ≤ (v2.toInt) := cl_nlt (tl_i2l rfl) rfl c21
          refine ⟨fun c29 => ?_, fun c29 => ?_⟩
          · skip
            rw [lg_cmp_gt] at c29
            have d30 : ((30) : Int) < (v2.toInt) := cl_lt rfl (tl_i2l rfl) c29
            refine ⟨Or.inl rfl, ?_⟩
            intro o31
            refine ⟨fun c32 => ?_, fun c32 => ?_⟩
            · skip
              refine ⟨Or.inl rfl, ?_⟩
              intro o33
              refine ⟨fun c34 => ?_, fun c34 => ?_⟩
              · skip
                refine w_X12_refuse ?_
                have hB35 : Bd (uI (uI (uI I 97 1 0) 97 0 0) 97 0 5) := Bd.o0 hB2 (show isO 112 97 12 = true from rfl) (by omega) (show bnd 12 0 = none from rfl)
                exact hQ _ _ _ _ hB35 trivial
              · exact absurd c34 (by decide)
            · exact absurd c32 (by decide)
          · skip
            rw [lg_cmp_gt] at c29
            have d36 : ((v2.toInt) : Int) ≤ (30) := cl_nlt rfl (tl_i2l rfl) c29
            refine ⟨Or.inr rfl, ?_⟩
            intro o37
            refine ⟨fun c38 => ?_, fun c38 => ?_⟩
            · exact absurd c38 (by decide)
            · skip
              refine ⟨Or.inr rfl, ?_⟩
              intro o39
              refine ⟨fun c40 => ?_, fun c40 => ?_⟩
              · exact absurd c40 (by decide)
              · skip
                refine w_X12_shareOf ?_
                refine ⟨(fun z => by have z2 : (v2.toInt : Int) = 0 := cl_eq (tl_i2l rfl) rfl z; omega), ?_⟩
                refine ⟨vp_of (a := 3) rfl (by omega) (by omega), ?_⟩
                refine sp_X12_fewestOf hB2 hR0 (by have z3 : (1 : Int32).toInt = 1 := rfl; omega) (fun x41 y46 I42 J43 hB44 p45 => ?_)
                have q47 : (1 : Int32).toInt = 1 := rfl
                have i48 := i32 x41
                refine w_X12_answer ?_
                refine ⟨fun c49 => ?_, fun c49 => ?_⟩
                · skip
                  have d50 : ((0) : Int) ≤ (x41.toInt) := ci_le rfl rfl c49
                  exact hQ _ _ _ _ hB44 trivial
                · skip
                  have d51 : ((x41.toInt) : Int) < (0) := ci_nle rfl rfl c49
                  refine w_X12_refuse ?_
                  have hB52 : Bd (uI I42 97 0 8) := Bd.o0 hB44 (show isO 112 97 12 = true from rfl) (by omega) (show bnd 12 0 = none from rfl)
                  exact hQ _ _ _ _ hB52 trivial
set_option maxHeartbeats 2000000 in
theorem sp_X12_fewestAt {d : Nat} {Q : Qt} {v1 : Int32} {v2 : Int32} {v3 : Int32} {I : Im} {J : Jm} {R : Rm} (hB0 : Bd I) (hR0 : RI R) (hQ : ∀ (x : Int32) (y : Int64) (I2 : Im) (J2 : Jm), Bd I2 → (True) → Q x y I2 J2 R) : AM (d + 12) 276 112 [.ref 97, .int v1, .int v2, .int v3] I J R Q := by
  have i_v1 := i32 v1
  have i_v2 := i32 v2
  have i_v3 := i32 v3
  refine am_X12_fewestAt (fun P hc => ?_)
  refine sg_X12_fewestAt_0 hc _ _ _ _ _ _ ?_
  have hB1 : Bd (uI I 97 1 0) := Bd.o0 hB0 (show isO 112 97 12 = true from rfl) (by omega) (show bnd 12 1 = none from rfl)
  have hB2 : Bd (uI (uI I 97 1 0) 97 0 0) := Bd.o0 hB1 (show isO 112 97 12 = true from rfl) (by omega) (show bnd 12 0 = none from rfl)
  refine w_X12_isShare ?_
  refine w_X12_isIn ?_
  refine ⟨fun c3 => ?_, fun c3 => ?_⟩
  · skip
    rw [lg_cmp_lt] at c3
    have d4 : ((v1.toInt) : Int) < (1) := cl_lt (tl_i2l rfl) rfl c3
    refine ⟨Or.inl rfl, ?_⟩
    intro o5
    refine ⟨fun c6 => ?_, fun c6 => ?_⟩
    · skip
      refine ⟨Or.inl rfl, ?_⟩
      intro o7
      refine ⟨fun c8 => ?_, fun c8 => ?_⟩
      · exact absurd c8 (by decide)
      · skip
        refine w_X12_refuse ?_
        have hB9 : Bd (uI (uI (uI I 97 1 0) 97 0 0) 97 0 5) := Bd.o0 hB2 (show isO 112 97 12 = true from rfl) (by omega) (show bnd 12 0 = none from rfl)
        exact hQ _ _ _ _ hB9 trivial
    · exact absurd c6 (by decide)
  · skip
    rw [lg_cmp_lt] at c3
    have d10 : ((1) : Int) ≤ (v1.toInt) := cl_nlt (tl_i2l rfl) rfl c3
    refine ⟨fun c11 => ?_, fun c11 => ?_⟩
    · skip
      rw [lg_cmp_gt] at c11
      have d12 : ((99) : Int) < (v1.toInt) := cl_lt rfl (tl_i2l rfl) c11
      refine ⟨Or.inl rfl, ?_⟩
      intro o13
      refine ⟨fun c14 => ?_, fun c14 => ?_⟩
      · skip
        refine ⟨Or.inl rfl, ?_⟩
        intro o15
        refine ⟨fun c16 => ?_, fun c16 => ?_⟩
        · exact absurd c16 (by decide)
        · skip
          refine w_X12_refuse ?_
          have hB17 : Bd (uI (uI (uI I 97 1 0) 97 0 0) 97 0 5) := Bd.o0 hB2 (show isO 112 97 12 = true from rfl) (by omega) (show bnd 12 0 = none from rfl)
          exact hQ _ _ _ _ hB17 trivial
      · exact absurd c14 (by decide)
    · skip
      rw [lg_cmp_gt] at c11
      have d18 : ((v1.toInt) : Int) ≤ (99) := cl_nlt rfl (tl_i2l rfl) c11
      refine ⟨Or.inr rfl, ?_⟩
      intro o19
      refine ⟨fun c20 => ?_, fun c20 => ?_⟩
      · exact absurd c20 (by decide)
      · skip
        refine w_X12_isIn ?_
        refine ⟨fun c21 => ?_, fun c21 => ?_⟩
        · skip
          rw [lg_cmp_lt] at c21
          have d22 : ((v2.toInt) : Int) < (1) := cl_lt (tl_i2l rfl) rfl c21
          refine ⟨Or.inl rfl, ?_⟩
          intro o23
          refine ⟨fun c24 => ?_, fun c24 => ?_⟩
          · skip
            refine ⟨Or.inl rfl, ?_⟩
            intro o25
            refine ⟨fun c26 => ?_, fun c26 => ?_⟩
            · exact absurd c26 (by decide)
            · skip
              refine w_X12_refuse ?_
              have hB27 : Bd (uI (uI (uI I 97 1 0) 97 0 0) 97 0 5) := Bd.o0 hB2 (show isO 112 97 12 = true from rfl) (by omega) (show bnd 12 0 = none from rfl)
              exact hQ _ _ _ _ hB27 trivial
          · exact absurd c24 (by decide)
        · skip
          rw [lg_cmp_lt] at c21
          have d28 : ((1) : Int) ≤ (v2.toInt) := cl_nlt (tl_i2l rfl) rfl c21
          refine ⟨fun c29 => ?_, fun c29 => ?_⟩
          · skip
            rw [lg_cmp_gt] at c29
            have d30 : ((30) : Int) < (v2.toInt) := cl_lt rfl (tl_i2l rfl) c29
            refine ⟨Or.inl rfl, ?_⟩
            intro o31
            refine ⟨fun c32 => ?_, fun c32 => ?_⟩
            · skip
              refine ⟨Or.inl rfl, ?_⟩
              intro o33
              refine ⟨fun c34 => ?_, fun c34 => ?_⟩
              · exact absurd c34 (by decide)
              · skip
                refine w_X12_refuse ?_
                have hB35 : Bd (uI (uI (uI I 97 1 0) 97 0 0) 97 0 5) := Bd.o0 hB2 (show isO 112 97 12 = true from rfl) (by omega) (show bnd 12 0 = none from rfl)
                exact hQ _ _ _ _ hB35 trivial
            · exact absurd c32 (by decide)
          · skip
            rw [lg_cmp_gt] at c29
            have d36 : ((v2.toInt) : Int) ≤ (30) := cl_nlt rfl (tl_i2l rfl) c29
            refine ⟨Or.inr rfl, ?_⟩
            intro o37
            refine ⟨fun c38 => ?_, fun c38 => ?_⟩
            · exact absurd c38 (by decide)
            · skip
              refine ⟨Or.inr rfl, ?_⟩
              intro o39
              refine ⟨fun c40 => ?_, fun c40 => ?_⟩
              · skip
                refine w_X12_shareOf ?_
                refine ⟨(fun z => by have z2 : (v2.toInt : Int) = 0 := cl_eq (tl_i2l rfl) rfl z; omega), ?_⟩
                refine ⟨vp_of (a := 3) rfl (by omega) (by omega), ?_⟩
                refine sp_X12_fewestOf hB2 hR0 (by have z3 : (1 : Int32).toInt = 1 := rfl; omega) (fun x41 y46 I42 J43 hB44 p45 => ?_)
                have q47 : (1 : Int32).toInt = 1 := rfl
                have i48 := i32 x41
                refine w_X12_isIn ?_
                refine ⟨fun c49 => ?_, fun c49 => ?_⟩
                · skip
                  rw [lg_cmp_lt] at c49
                  have d50 : ((v3.toInt) : Int) < (0) := cl_lt (tl_i2l rfl) rfl c49
                  refine ⟨Or.inl rfl, ?_⟩
                  intro o51
                  refine ⟨fun c52 => ?_, fun c52 => ?_⟩
                  · skip
                    refine w_X12_refuse ?_
                    have hB53 : Bd (uI I42 97 0 8) := Bd.o0 hB44 (show isO 112 97 12 = true from rfl) (by omega) (show bnd 12 0 = none from rfl)
                    exact hQ _ _ _ _ hB53 trivial
                  · exact absurd c52 (by decide)
                · skip
                  rw [lg_cmp_lt] at c49
                  have d54 : ((0) : Int) ≤ (v3.toInt) := cl_nlt (tl_i2l rfl) rfl c49
                  refine ⟨fun c55 => ?_, fun c55 => ?_⟩
                  · skip
                    rw [lg_cmp_gt] at c55
                    have e56 : ((x41 - 1) : Int32).toInt = (x41.toInt) - (1) := ti_sub rfl rfl (by omega)
                    have i57 := i32 ((x41 - 1))
                    have d58 : (((x41.toInt - 1)) : Int) < (v3.toInt) := cl_lt (tl_i2l e56) (tl_i2l rfl) c55
                    refine ⟨Or.inl rfl, ?_⟩
                    intro o59
                    refine ⟨fun c60 => ?_, fun c60 => ?_⟩
                    · skip
                      refine w_X12_refuse ?_
                      have hB61 : Bd (uI I42 97 0 8) := Bd.o0 hB44 (show isO 112 97 12 = true from rfl) (by omega) (show bnd 12 0 = none from rfl)
                      exact hQ _ _ _ _ hB61 trivial
                    · exact absurd c60 (by decide)
                  · skip
                    rw [lg_cmp_gt] at c55
                    have e62 : ((x41 - 1) : Int32).toInt = (x41.toInt) - (1) := ti_sub rfl rfl (by omega)
                    have i63 := i32 ((x41 - 1))
                    have d64 : ((v3.toInt) : Int) ≤ ((x41.toInt - 1)) := cl_nlt (tl_i2l e62) (tl_i2l rfl) c55
                    refine ⟨Or.inr rfl, ?_⟩
                    intro o65
                    refine ⟨fun c66 => ?_, fun c66 => ?_⟩
                    · exact absurd c66 (by decide)
                    · skip
                      refine ⟨vp_of (a := v3.toInt) rfl (by omega) (by omega), ?_⟩
                      exact hQ _ _ _ _ hB44 trivial
              · exact absurd c40 (by decide)
set_option maxHeartbeats 2000000 in
theorem sp_X12_ask {d : Nat} {Q : Qt} {v1 : Int32} {v2 : Int32} {v3 : Int32} {I : Im} {J : Jm} {R : Rm} (hB0 : Bd I) (hR0 : RI R) (hQ : ∀ (x : Int32) (y : Int64) (I2 : Im) (J2 : Jm), Bd I2 → (True) → Q x y I2 J2 R) : AM (d + 11) 279 112 [.ref 97, .int v1, .int v2, .int v3] I J R Q := by
  have i_v1 := i32 v1
  have i_v2 := i32 v2
  have i_v3 := i32 v3
  refine am_X12_ask (fun P hc => ?_)
  have L : ∀ n : Nat, (∀ (v4 : Int32) (v5 : Int32) (v6 : Int32) (M : Im) (J : Jm), Bd M → (1 ≤ v6.toInt ∧ v6.toInt ≤ 31) → 40 - v6.toInt < (n : Int) → P 79 112 [(0, .ref 97), (4, .int v4), (5, .int v5), (6, .int v6)] [] M J R) := by
    intro n
    induction n with
    | zero =>
      exact fun v4 v5 v6 M J _ hi hm => absurd hm (by omega)
    | succ n ih =>
      intro v4 v5 v6 M J hB hi hm
      have i_v4 := i32 v4
      have i_v5 := i32 v5
      have i_v6 := i32 v6
      refine sg_X12_ask_79 hc _ _ _ _ _ _ ?_
      refine ⟨fun c1 => ?_, fun c1 => ?_⟩
      · skip
        have d2 : ((30) : Int) < (v6.toInt) := ci_lt rfl rfl c1
        exact hQ _ _ _ _ hB trivial
      · skip
        have d3 : ((v6.toInt) : Int) ≤ (30) := ci_nlt rfl rfl c1
        refine ⟨vp_of (a := v6.toInt) rfl (by omega) (by omega), ?_⟩
        refine ⟨vp_of (a := v6.toInt) rfl (by omega) (by omega), ?_⟩
        refine ⟨vp_of (a := 3) rfl (by omega) (by omega), ?_⟩
        refine w_X12_isOf ?_
        refine ⟨fun c4 => ?_, fun c4 => ?_⟩
        · skip
          have d5 : ¬ ((((((M 102 (Int32.toNatClampNeg 3)) >>> ((v6 - 1) &&& 31)) &&& 1) : Int32).toInt) : Int) = (1) := ci_ne rfl rfl c4
          refine ⟨Or.inl rfl, ?_⟩
          intro o6
          refine ⟨fun c7 => ?_, fun c7 => ?_⟩
          · skip
            have e8 : ((v6 + 1) : Int32).toInt = (v6.toInt) + (1) := ti_add rfl rfl (by omega)
            exact ih _ _ _ _ _ hB (by have q0 : ((v6 + 1) : Int32).toInt = (v6.toInt + 1) := e8; omega) (by have q0 : ((v6 + 1) : Int32).toInt = (v6.toInt + 1) := e8; omega)
          · exact absurd c7 (by decide)
        · skip
          have d9 : ((((((M 102 (Int32.toNatClampNeg 3)) >>> ((v6 - 1) &&& 31)) &&& 1) : Int32).toInt) : Int) = (1) := ci_eq rfl rfl c4
          refine ⟨Or.inr rfl, ?_⟩
          intro o10
          refine ⟨fun c11 => ?_, fun c11 => ?_⟩
          · exact absurd c11 (by decide)
          · skip
            refine ⟨fun c12 => ?_, fun c12 => ?_⟩
            · skip
              have d13 : ((v4.toInt) : Int) < (0) := ci_lt rfl rfl c12
              have e14 : ((v6 + 1) : Int32).toInt = (v6.toInt) + (1) := ti_add rfl rfl (by omega)
              exact ih _ _ _ _ _ hB (by have q0 : ((v6 + 1) : Int32).toInt = (v6.toInt + 1) := e14; omega) (by have q0 : ((v6 + 1) : Int32).toInt = (v6.toInt + 1) := e14; omega)
            · skip
              have d15 : ((0) : Int) ≤ (v4.toInt) := ci_nlt rfl rfl c12
              refine ⟨fun c16 => ?_, fun c16 => ?_⟩
              · skip
                have e17 : ((if ((M 107 (Int32.toNatClampNeg v6)) : Int32) < ((M 97 31) - (M 107 (Int32.toNatClampNeg v6))) then ((M 97 31) - (M 107 (Int32.toNatClampNeg v6))) else (M 107 (Int32.toNatClampNeg v6))) : Int32).toInt = max ((M 107 (Int32.toNatClampNeg v6)).toInt) ((((M 97 31) - (M 107 (Int32.toNatClampNeg v6))) : Int32).toInt) := ti_max rfl rfl
                have d18 : (((max ((M 107 (Int32.toNatClampNeg v6)).toInt) ((((M 97 31) - (M 107 (Int32.toNatClampNeg v6))) : Int32).toInt))) : Int) < (v5.toInt) := ci_lt e17 rfl c16
                have e19 : ((v6 + 1) : Int32).toInt = (v6.toInt) + (1) := ti_add rfl rfl (by omega)
                exact ih _ _ _ _ _ hB (by have q0 : ((v6 + 1) : Int32).toInt = (v6.toInt + 1) := e19; omega) (by have q0 : ((v6 + 1) : Int32).toInt = (v6.toInt + 1) := e19; omega)
              · skip
                have e20 : ((if ((M 107 (Int32.toNatClampNeg v6)) : Int32) < ((M 97 31) - (M 107 (Int32.toNatClampNeg v6))) then ((M 97 31) - (M 107 (Int32.toNatClampNeg v6))) else (M 107 (Int32.toNatClampNeg v6))) : Int32).toInt = max ((M 107 (Int32.toNatClampNeg v6)).toInt) ((((M 97 31) - (M 107 (Int32.toNatClampNeg v6))) : Int32).toInt) := ti_max rfl rfl
                have d21 : ((v5.toInt) : Int) ≤ ((max ((M 107 (Int32.toNatClampNeg v6)).toInt) ((((M 97 31) - (M 107 (Int32.toNatClampNeg v6))) : Int32).toInt))) := ci_nlt e20 rfl c16
                have e22 : ((v6 + 1) : Int32).toInt = (v6.toInt) + (1) := ti_add rfl rfl (by omega)
                exact ih _ _ _ _ _ hB (by have q0 : ((v6 + 1) : Int32).toInt = (v6.toInt + 1) := e22; omega) (by have q0 : ((v6 + 1) : Int32).toInt = (v6.toInt + 1) := e22; omega)
  refine sg_X12_ask_0 hc _ _ _ _ _ _ ?_
  have hB23 : Bd (uI I 97 1 0) := Bd.o0 hB0 (show isO 112 97 12 = true from rfl) (by omega) (show bnd 12 1 = none from rfl)
  have hB24 : Bd (uI (uI I 97 1 0) 97 0 0) := Bd.o0 hB23 (show isO 112 97 12 = true from rfl) (by omega) (show bnd 12 0 = none from rfl)
  refine w_X12_isShare ?_
  refine w_X12_isIn ?_
  refine ⟨fun c25 => ?_, fun c25 => ?_⟩
  · skip
    rw [lg_cmp_lt] at c25
    have d26 : ((v1.toInt) : Int) < (1) := cl_lt (tl_i2l rfl) rfl c25
    refine ⟨Or.inl rfl, ?_⟩
    intro o27
    refine ⟨fun c28 => ?_, fun c28 => ?_⟩
    · skip
      refine ⟨Or.inl rfl, ?_⟩
      intro o29
      refine ⟨fun c30 => ?_, fun c30 => ?_⟩
      · skip
        refine w_X12_refuse ?_
        have hB31 : Bd (uI (uI (uI I 97 1 0) 97 0 0) 97 0 5) := Bd.o0 hB24 (show isO 112 97 12 = true from rfl) (by omega) (show bnd 12 0 = none from rfl)
        exact hQ _ _ _ _ hB31 trivial
      · exact absurd c30 (by decide)
    · exact absurd c28 (by decide)
  · skip
    rw [lg_cmp_lt] at c25
    have d32 : ((1) : Int) ≤ (v1.toInt) := cl_nlt (tl_i2l rfl) rfl c25
    refine ⟨fun c33 => ?_, fun c33 => ?_⟩
    · skip
      rw [lg_cmp_gt] at c33
      have d34 : ((99) : Int) < (v1.toInt) := cl_lt rfl (tl_i2l rfl) c33
      refine ⟨Or.inl rfl, ?_⟩
      intro o35
      refine ⟨fun c36 => ?_, fun c36 => ?_⟩
      · skip
        refine ⟨Or.inl rfl, ?_⟩
        intro o37
        refine ⟨fun c38 => ?_, fun c38 => ?_⟩
        · skip
          refine w_X12_refuse ?_
          have hB39 : Bd (uI (uI (uI I 97 1 0) 97 0 0) 97 0 5) := Bd.o0 hB24 (show isO 112 97 12 = true from rfl) (by omega) (show bnd 12 0 = none from rfl)
          exact hQ _ _ _ _ hB39 trivial
        · exact absurd c38 (by decide)
      · exact absurd c36 (by decide)
    · skip
      rw [lg_cmp_gt] at c33
      have d40 : ((v1.toInt) : Int) ≤ (99) := cl_nlt rfl (tl_i2l rfl) c33
      refine ⟨Or.inr rfl, ?_⟩
      intro o41
      refine ⟨fun c42 => ?_, fun c42 => ?_⟩
      · exact absurd c42 (by decide)
      · skip
        refine w_X12_isIn ?_
        refine ⟨fun c43 => ?_, fun c43 => ?_⟩
        · skip
          rw [lg_cmp_lt] at c43
          have d44 : ((v2.toInt) : Int) < (1) := cl_lt (tl_i2l rfl) rfl c43
          refine ⟨Or.inl rfl, ?_⟩
          intro o45
          refine ⟨fun c46 => ?_, fun c46 => ?_⟩
          · skip
            refine ⟨Or.inl rfl, ?_⟩
            intro o47
            refine ⟨fun c48 => ?_, fun c48 => ?_⟩
            · skip
              refine w_X12_refuse ?_
              have hB49 : Bd (uI (uI (uI I 97 1 0) 97 0 0) 97 0 5) := Bd.o0 hB24 (show isO 112 97 12 = true from rfl) (by omega) (show bnd 12 0 = none from rfl)
              exact hQ _ _ _ _ hB49 trivial
            · exact absurd c48 (by decide)
          · exact absurd c46 (by decide)
        · skip
          rw [lg_cmp_lt] at c43
          have d50 : ((1) : Int) ≤ (v2.toInt) := cl_nlt (tl_i2l rfl) rfl c43
          refine ⟨fun c51 => ?_, fun c51 => ?_⟩
          · skip
            rw [lg_cmp_gt] at c51
            have d52 : ((30) : Int) < (v2.toInt) := cl_lt rfl (tl_i2l rfl) c51
            refine ⟨Or.inl rfl, ?_⟩
            intro o53
            refine ⟨fun c54 => ?_, fun c54 => ?_⟩
            · skip
              refine ⟨Or.inl rfl, ?_⟩
              intro o55
              refine ⟨fun c56 => ?_, fun c56 => ?_⟩
              · skip
                refine w_X12_refuse ?_
                have hB57 : Bd (uI (uI (uI I 97 1 0) 97 0 0) 97 0 5) := Bd.o0 hB24 (show isO 112 97 12 = true from rfl) (by omega) (show bnd 12 0 = none from rfl)
                exact hQ _ _ _ _ hB57 trivial
              · exact absurd c56 (by decide)
            · exact absurd c54 (by decide)
          · skip
            rw [lg_cmp_gt] at c51
            have d58 : ((v2.toInt) : Int) ≤ (30) := cl_nlt rfl (tl_i2l rfl) c51
            refine ⟨Or.inr rfl, ?_⟩
            intro o59
            refine ⟨fun c60 => ?_, fun c60 => ?_⟩
            · exact absurd c60 (by decide)
            · skip
              refine ⟨Or.inr rfl, ?_⟩
              intro o61
              refine ⟨fun c62 => ?_, fun c62 => ?_⟩
              · exact absurd c62 (by decide)
              · skip
                refine w_X12_isIn ?_
                refine ⟨fun c63 => ?_, fun c63 => ?_⟩
                · skip
                  rw [lg_cmp_lt] at c63
                  have d64 : ((v3.toInt) : Int) < (1) := cl_lt (tl_i2l rfl) rfl c63
                  refine ⟨Or.inl rfl, ?_⟩
                  intro o65
                  refine ⟨fun c66 => ?_, fun c66 => ?_⟩
                  · exact absurd c66 (by decide)
                  · skip
                    refine w_X12_refuse ?_
                    have hB67 : Bd (uI (uI (uI I 97 1 0) 97 0 0) 97 0 5) := Bd.o0 hB24 (show isO 112 97 12 = true from rfl) (by omega) (show bnd 12 0 = none from rfl)
                    exact hQ _ _ _ _ hB67 trivial
                · skip
                  rw [lg_cmp_lt] at c63
                  have d68 : ((1) : Int) ≤ (v3.toInt) := cl_nlt (tl_i2l rfl) rfl c63
                  refine ⟨fun c69 => ?_, fun c69 => ?_⟩
                  · skip
                    rw [lg_cmp_gt] at c69
                    have d70 : ((5) : Int) < (v3.toInt) := cl_lt rfl (tl_i2l rfl) c69
                    refine ⟨Or.inl rfl, ?_⟩
                    intro o71
                    refine ⟨fun c72 => ?_, fun c72 => ?_⟩
                    · exact absurd c72 (by decide)
                    · skip
                      refine w_X12_refuse ?_
                      have hB73 : Bd (uI (uI (uI I 97 1 0) 97 0 0) 97 0 5) := Bd.o0 hB24 (show isO 112 97 12 = true from rfl) (by omega) (show bnd 12 0 = none from rfl)
                      exact hQ _ _ _ _ hB73 trivial
                  · skip
                    rw [lg_cmp_gt] at c69
                    have d74 : ((v3.toInt) : Int) ≤ (5) := cl_nlt rfl (tl_i2l rfl) c69
                    refine ⟨Or.inr rfl, ?_⟩
                    intro o75
                    refine ⟨fun c76 => ?_, fun c76 => ?_⟩
                    · skip
                      refine w_X12_shareOf ?_
                      refine ⟨(fun z => by have z2 : (v2.toInt : Int) = 0 := cl_eq (tl_i2l rfl) rfl z; omega), ?_⟩
                      refine ⟨vp_of (a := 3) rfl (by omega) (by omega), ?_⟩
                      refine sp_X12_laysRows hB24 hR0 (by have z1 : (v3 : Int32).toInt = v3.toInt := rfl; omega) (by have z2 : (31 : Int32).toInt = 31 := rfl; omega) (fun x77 y82 I78 J79 hB80 p81 => ?_)
                      intro o83
                      have i84 := i32 x77
                      refine ⟨fun c85 => ?_, fun c85 => ?_⟩
                      · skip
                        have d86 : ((2) : Int) ≤ ((I78 97 31).toInt) := ci_le rfl rfl c85
                        exact (L 1000000) _ _ _ _ _ hB80 (by have q0 : (1 : Int32).toInt = 1 := rfl; omega) (by have q0 : (1 : Int32).toInt = 1 := rfl; omega)
                      · skip
                        have d87 : (((I78 97 31).toInt) : Int) < (2) := ci_nle rfl rfl c85
                        refine w_X12_refuse ?_
                        have hB88 : Bd (uI I78 97 0 8) := Bd.o0 hB80 (show isO 112 97 12 = true from rfl) (by omega) (show bnd 12 0 = none from rfl)
                        exact hQ _ _ _ _ hB88 trivial
                    · exact absurd c76 (by decide)
set_option maxHeartbeats 2000000 in
theorem sp_X12_kindestOf {d : Nat} {Q : Qt} {v1 : Int64} {I : Im} {J : Jm} {R : Rm} (hB0 : Bd I) (hR0 : RI R) (hQ : ∀ (x : Int32) (y : Int64) (I2 : Im) (J2 : Jm), Bd I2 → ((-1 ≤ x.toInt ∧ x.toInt ≤ 5)) → Q x y I2 J2 R) : AM (d + 11) 280 112 [.ref 97, .long v1] I J R Q := by
  have i_v1 := i64 v1
  refine am_X12_kindestOf (fun P hc => ?_)
  have L : ∀ n : Nat, (∀ (v3 : Int32) (M : Im) (J : Jm), Bd M → (1 ≤ v3.toInt ∧ v3.toInt ≤ 31) → 1000 - 10 * v3.toInt < (n : Int) → P 2 112 [(0, .ref 97), (1, .long v1), (3, .int v3)] [] M J R) ∧ (∀ (v3 : Int32) (v4 : Int32) (M : Im) (J : Jm), Bd M → (1 ≤ v3.toInt ∧ v3.toInt ≤ 30 ∧ 1 ≤ v4.toInt ∧ v4.toInt ≤ 6) → 998 - 10 * v3.toInt - v4.toInt < (n : Int) → P 29 112 [(0, .ref 97), (1, .long v1), (3, .int v3), (4, .int v4)] [] M J R) := by
    intro n
    induction n with
    | zero =>
      exact ⟨fun v3 M J _ hi hm => absurd hm (by omega), fun v3 v4 M J _ hi hm => absurd hm (by omega)⟩
    | succ n ih =>
      refine ⟨?_, ?_⟩
      · skip
        intro v3 M J hB hi hm
        have i_v1 := i64 v1
        have i_v3 := i32 v3
        refine sg_X12_kindestOf_2 hc _ _ _ _ _ ?_
        refine ⟨fun c1 => ?_, fun c1 => ?_⟩
        · skip
          have d2 : ((30) : Int) < (v3.toInt) := ci_lt rfl rfl c1
          exact hQ _ _ _ _ hB (by have q0 : ((-1) : Int32).toInt = (-1) := rfl; omega)
        · skip
          have d3 : ((v3.toInt) : Int) ≤ (30) := ci_nlt rfl rfl c1
          refine ⟨vp_of (a := 3) rfl (by omega) (by omega), ?_⟩
          refine w_X12_isOf ?_
          refine ⟨fun c4 => ?_, fun c4 => ?_⟩
          · skip
            have d5 : ¬ ((((((M 102 (Int32.toNatClampNeg 3)) >>> ((v3 - 1) &&& 31)) &&& 1) : Int32).toInt) : Int) = (1) := ci_ne rfl rfl c4
            refine ⟨Or.inl rfl, ?_⟩
            intro o6
            refine ⟨fun c7 => ?_, fun c7 => ?_⟩
            · exact absurd c7 (by decide)
            · skip
              have e8 : ((v3 + 1) : Int32).toInt = (v3.toInt) + (1) := ti_add rfl rfl (by omega)
              exact ih.1 _ _ _ hB (by have q0 : ((v3 + 1) : Int32).toInt = (v3.toInt + 1) := e8; omega) (by have q0 : ((v3 + 1) : Int32).toInt = (v3.toInt + 1) := e8; omega)
          · skip
            have d9 : ((((((M 102 (Int32.toNatClampNeg 3)) >>> ((v3 - 1) &&& 31)) &&& 1) : Int32).toInt) : Int) = (1) := ci_eq rfl rfl c4
            refine ⟨Or.inr rfl, ?_⟩
            intro o10
            refine ⟨fun c11 => ?_, fun c11 => ?_⟩
            · skip
              exact ih.2 _ _ _ _ hB (by have q0 : (v3 : Int32).toInt = v3.toInt := rfl; have q1 : (1 : Int32).toInt = 1 := rfl; omega) (by have q0 : (v3 : Int32).toInt = v3.toInt := rfl; have q1 : (1 : Int32).toInt = 1 := rfl; omega)
            · exact absurd c11 (by decide)
      · skip
        intro v3 v4 M J hB hi hm
        have i_v1 := i64 v1
        have i_v3 := i32 v3
        have i_v4 := i32 v4
        refine sg_X12_kindestOf_29 hc _ _ _ _ _ _ ?_
        refine ⟨fun c12 => ?_, fun c12 => ?_⟩
        · skip
          have d13 : ((5) : Int) < (v4.toInt) := ci_lt rfl rfl c12
          have e14 : ((v3 + 1) : Int32).toInt = (v3.toInt) + (1) := ti_add rfl rfl (by omega)
          exact ih.1 _ _ _ hB (by have q0 : ((v3 + 1) : Int32).toInt = (v3.toInt + 1) := e14; omega) (by have q0 : ((v3 + 1) : Int32).toInt = (v3.toInt + 1) := e14; omega)
        · skip
          have d15 : ((v4.toInt) : Int) ≤ (5) := ci_nlt rfl rfl c12
          refine w_X12_partsOf ?_
          refine ⟨(fun z => by have z2 : (v3.toInt : Int) = 0 := cl_eq (tl_i2l rfl) rfl z; omega), ?_⟩
          refine ⟨vp_of (a := 3) rfl (by omega) (by omega), ?_⟩
          have e16 : ((v4 - 1) : Int32).toInt = (v4.toInt) - (1) := ti_sub rfl rfl (by omega)
          refine sp_X12_laysRows hB hR0 (by have z1 : ((v4 - 1) : Int32).toInt = (v4.toInt - 1) := e16; omega) (by have z2 : (v3 : Int32).toInt = v3.toInt := rfl; omega) (fun x17 y22 I18 J19 hB20 p21 => ?_)
          intro o23
          have i24 := i32 x17
          refine ⟨fun c25 => ?_, fun c25 => ?_⟩
          · skip
            have d26 : ¬ ((x17.toInt) : Int) = (0) := ci_ne rfl rfl c25
            refine ⟨vp_of (a := (v4.toInt - 1)) e16 (by omega) (by omega), ?_⟩
            have hB27 : Bd (uI I18 106 (Int32.toNatClampNeg (v4 - 1)) v3) := Bd.a0 hB20 (show isA 112 106 0 = true from rfl) (show bna 106 = none from rfl)
            exact hQ _ _ _ _ hB27 (by have q0 : (v4 : Int32).toInt = v4.toInt := rfl; omega)
          · skip
            have d28 : ((x17.toInt) : Int) = (0) := ci_eq rfl rfl c25
            have e29 : ((v4 + 1) : Int32).toInt = (v4.toInt) + (1) := ti_add rfl rfl (by omega)
            exact ih.2 _ _ _ _ hB20 (by have q0 : (v3 : Int32).toInt = v3.toInt := rfl; have q1 : ((v4 + 1) : Int32).toInt = (v4.toInt + 1) := e29; omega) (by have q0 : (v3 : Int32).toInt = v3.toInt := rfl; have q1 : ((v4 + 1) : Int32).toInt = (v4.toInt + 1) := e29; omega)
  refine sg_X12_kindestOf_0 hc _ _ _ _ ?_
  exact (L 1000000).1 _ _ _ hB0 (by have q0 : (1 : Int32).toInt = 1 := rfl; omega) (by have q0 : (1 : Int32).toInt = 1 := rfl; omega)
set_option maxHeartbeats 2000000 in
theorem sp_X12_kindestAt {d : Nat} {Q : Qt} {v1 : Int32} {v2 : Int32} {v3 : Int32} {I : Im} {J : Jm} {R : Rm} (hB0 : Bd I) (hR0 : RI R) (hQ : ∀ (x : Int32) (y : Int64) (I2 : Im) (J2 : Jm), Bd I2 → (True) → Q x y I2 J2 R) : AM (d + 12) 281 112 [.ref 97, .int v1, .int v2, .int v3] I J R Q := by
  have i_v1 := i32 v1
  have i_v2 := i32 v2
  have i_v3 := i32 v3
  refine am_X12_kindestAt (fun P hc => ?_)
  refine sg_X12_kindestAt_0 hc _ _ _ _ _ _ ?_
  have hB1 : Bd (uI I 97 1 0) := Bd.o0 hB0 (show isO 112 97 12 = true from rfl) (by omega) (show bnd 12 1 = none from rfl)
  have hB2 : Bd (uI (uI I 97 1 0) 97 0 0) := Bd.o0 hB1 (show isO 112 97 12 = true from rfl) (by omega) (show bnd 12 0 = none from rfl)
  refine w_X12_isShare ?_
  refine w_X12_isIn ?_
  refine ⟨fun c3 => ?_, fun c3 => ?_⟩
  · skip
    rw [lg_cmp_lt] at c3
    have d4 : ((v1.toInt) : Int) < (1) := cl_lt (tl_i2l rfl) rfl c3
    refine ⟨Or.inl rfl, ?_⟩
    intro o5
    refine ⟨fun c6 => ?_, fun c6 => ?_⟩
    · skip
      refine ⟨Or.inl rfl, ?_⟩
      intro o7
      refine ⟨fun c8 => ?_, fun c8 => ?_⟩
      · exact absurd c8 (by decide)
      · skip
        refine w_X12_refuse ?_
        have hB9 : Bd (uI (uI (uI I 97 1 0) 97 0 0) 97 0 5) := Bd.o0 hB2 (show isO 112 97 12 = true from rfl) (by omega) (show bnd 12 0 = none from rfl)
        exact hQ _ _ _ _ hB9 trivial
    · exact absurd c6 (by decide)
  · skip
    rw [lg_cmp_lt] at c3
    have d10 : ((1) : Int) ≤ (v1.toInt) := cl_nlt (tl_i2l rfl) rfl c3
    refine ⟨fun c11 => ?_, fun c11 => ?_⟩
    · skip
      rw [lg_cmp_gt] at c11
      have d12 : ((99) : Int) < (v1.toInt) := cl_lt rfl (tl_i2l rfl) c11
      refine ⟨Or.inl rfl, ?_⟩
      intro o13
      refine ⟨fun c14 => ?_, fun c14 => ?_⟩
      · skip
        refine ⟨Or.inl rfl, ?_⟩
        intro o15
        refine ⟨fun c16 => ?_, fun c16 => ?_⟩
        · exact absurd c16 (by decide)
        · skip
          refine w_X12_refuse ?_
          have hB17 : Bd (uI (uI (uI I 97 1 0) 97 0 0) 97 0 5) := Bd.o0 hB2 (show isO 112 97 12 = true from rfl) (by omega) (show bnd 12 0 = none from rfl)
          exact hQ _ _ _ _ hB17 trivial
      · exact absurd c14 (by decide)
    · skip
      rw [lg_cmp_gt] at c11
      have d18 : ((v1.toInt) : Int) ≤ (99) := cl_nlt rfl (tl_i2l rfl) c11
      refine ⟨Or.inr rfl, ?_⟩
      intro o19
      refine ⟨fun c20 => ?_, fun c20 => ?_⟩
      · exact absurd c20 (by decide)
      · skip
        refine w_X12_isIn ?_
        refine ⟨fun c21 => ?_, fun c21 => ?_⟩
        · skip
          rw [lg_cmp_lt] at c21
          have d22 : ((v2.toInt) : Int) < (1) := cl_lt (tl_i2l rfl) rfl c21
          refine ⟨Or.inl rfl, ?_⟩
          intro o23
          refine ⟨fun c24 => ?_, fun c24 => ?_⟩
          · skip
            refine ⟨Or.inl rfl, ?_⟩
            intro o25
            refine ⟨fun c26 => ?_, fun c26 => ?_⟩
            · exact absurd c26 (by decide)
            · skip
              refine w_X12_refuse ?_
              have hB27 : Bd (uI (uI (uI I 97 1 0) 97 0 0) 97 0 5) := Bd.o0 hB2 (show isO 112 97 12 = true from rfl) (by omega) (show bnd 12 0 = none from rfl)
              exact hQ _ _ _ _ hB27 trivial
          · exact absurd c24 (by decide)
        · skip
          rw [lg_cmp_lt] at c21
          have d28 : ((1) : Int) ≤ (v2.toInt) := cl_nlt (tl_i2l rfl) rfl c21
          refine ⟨fun c29 => ?_, fun c29 => ?_⟩
          · skip
            rw [lg_cmp_gt] at c29
            have d30 : ((30) : Int) < (v2.toInt) := cl_lt rfl (tl_i2l rfl) c29
            refine ⟨Or.inl rfl, ?_⟩
            intro o31
            refine ⟨fun c32 => ?_, fun c32 => ?_⟩
            · skip
              refine ⟨Or.inl rfl, ?_⟩
              intro o33
              refine ⟨fun c34 => ?_, fun c34 => ?_⟩
              · exact absurd c34 (by decide)
              · skip
                refine w_X12_refuse ?_
                have hB35 : Bd (uI (uI (uI I 97 1 0) 97 0 0) 97 0 5) := Bd.o0 hB2 (show isO 112 97 12 = true from rfl) (by omega) (show bnd 12 0 = none from rfl)
                exact hQ _ _ _ _ hB35 trivial
            · exact absurd c32 (by decide)
          · skip
            rw [lg_cmp_gt] at c29
            have d36 : ((v2.toInt) : Int) ≤ (30) := cl_nlt rfl (tl_i2l rfl) c29
            refine ⟨Or.inr rfl, ?_⟩
            intro o37
            refine ⟨fun c38 => ?_, fun c38 => ?_⟩
            · exact absurd c38 (by decide)
            · skip
              refine ⟨Or.inr rfl, ?_⟩
              intro o39
              refine ⟨fun c40 => ?_, fun c40 => ?_⟩
              · skip
                refine w_X12_shareOf ?_
                refine ⟨(fun z => by have z2 : (v2.toInt : Int) = 0 := cl_eq (tl_i2l rfl) rfl z; omega), ?_⟩
                refine sp_X12_kindestOf hB2 hR0 (fun x41 y46 I42 J43 hB44 p45 => ?_)
                have i47 := i32 x41
                refine w_X12_isIn ?_
                refine ⟨fun c48 => ?_, fun c48 => ?_⟩
                · skip
                  rw [lg_cmp_lt] at c48
                  have d49 : ((v3.toInt) : Int) < (0) := cl_lt (tl_i2l rfl) rfl c48
                  refine ⟨Or.inl rfl, ?_⟩
                  intro o50
                  refine ⟨fun c51 => ?_, fun c51 => ?_⟩
                  · skip
                    refine w_X12_refuse ?_
                    have hB52 : Bd (uI I42 97 0 8) := Bd.o0 hB44 (show isO 112 97 12 = true from rfl) (by omega) (show bnd 12 0 = none from rfl)
                    exact hQ _ _ _ _ hB52 trivial
                  · exact absurd c51 (by decide)
                · skip
                  rw [lg_cmp_lt] at c48
                  have d53 : ((0) : Int) ≤ (v3.toInt) := cl_nlt (tl_i2l rfl) rfl c48
                  refine ⟨fun c54 => ?_, fun c54 => ?_⟩
                  · skip
                    rw [lg_cmp_gt] at c54
                    have e55 : ((x41 - 1) : Int32).toInt = (x41.toInt) - (1) := ti_sub rfl rfl (by omega)
                    have i56 := i32 ((x41 - 1))
                    have d57 : (((x41.toInt - 1)) : Int) < (v3.toInt) := cl_lt (tl_i2l e55) (tl_i2l rfl) c54
                    refine ⟨Or.inl rfl, ?_⟩
                    intro o58
                    refine ⟨fun c59 => ?_, fun c59 => ?_⟩
                    · skip
                      refine w_X12_refuse ?_
                      have hB60 : Bd (uI I42 97 0 8) := Bd.o0 hB44 (show isO 112 97 12 = true from rfl) (by omega) (show bnd 12 0 = none from rfl)
                      exact hQ _ _ _ _ hB60 trivial
                    · exact absurd c59 (by decide)
                  · skip
                    rw [lg_cmp_gt] at c54
                    have e61 : ((x41 - 1) : Int32).toInt = (x41.toInt) - (1) := ti_sub rfl rfl (by omega)
                    have i62 := i32 ((x41 - 1))
                    have d63 : ((v3.toInt) : Int) ≤ ((x41.toInt - 1)) := cl_nlt (tl_i2l e61) (tl_i2l rfl) c54
                    refine ⟨Or.inr rfl, ?_⟩
                    intro o64
                    refine ⟨fun c65 => ?_, fun c65 => ?_⟩
                    · exact absurd c65 (by decide)
                    · skip
                      refine ⟨vp_of (a := v3.toInt) rfl (by omega) (by omega), ?_⟩
                      exact hQ _ _ _ _ hB44 trivial
              · exact absurd c40 (by decide)
