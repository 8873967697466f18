set_option maxHeartbeats 2000000 in
theorem sp_X12_gives {d : Nat} {Q : Qt} {v1 : Int32} {v2 : Int32} {I : Im} {J : Jm} {R : Rm} (hB0 : Bd I) (hR0 : RI R) (hv1 : 0 ≤ v1.toInt ∧ v1.toInt ≤ 5) (hv2 : 1 ≤ v2.toInt ∧ v2.toInt ≤ 30) (hQ : ∀ (x : Int32) (y : Int64) (I2 : Im) (J2 : Jm), Bd I2 → (I2 97 43 = I 97 43 ∧ Fr pD I I2) → Q x y I2 J2 R) : AM (d + 2) 263 112 [.ref 97, .int v1, .int v2] I J R Q := by
  have i_v1 := i32 v1
  have i_v2 := i32 v2
  refine w_X12_gives ?_
  have e1 : ((4 + v2) : Int32).toInt = (4) + (v2.toInt) := ti_add rfl rfl (by omega)
  have e2 : (((4 + v2) - 1) : Int32).toInt = ((4 + v2.toInt)) - (1) := ti_sub e1 rfl (by omega)
  refine ⟨vp_of (a := ((4 + v2.toInt) - 1)) e2 (by omega) (by omega), ?_⟩
  refine ⟨fun c3 => ?_, fun c3 => ?_⟩
  · skip
    have d4 : (((I 102 (Int32.toNatClampNeg ((4 + v2) - 1))).toInt) : Int) = (0) := ci_eq rfl rfl c3
    refine ⟨Or.inl rfl, ?_⟩
    exact hQ _ _ _ _ hB0 ⟨rfl, (Fr.refl _ _)⟩
  · skip
    have d5 : ¬ (((I 102 (Int32.toNatClampNeg ((4 + v2) - 1))).toInt) : Int) = (0) := ci_ne rfl rfl c3
    have e6 : ((46 + v1) : Int32).toInt = (46) + (v1.toInt) := ti_add rfl rfl (by omega)
    refine ⟨vp_of (a := (46 + v1.toInt)) e6 (by omega) (by omega), ?_⟩
    refine w_X12_isOf ?_
    refine ⟨fun c7 => ?_, fun c7 => ?_⟩
    · skip
      have d8 : ¬ ((((((I 102 (Int32.toNatClampNeg (46 + v1))) >>> ((v2 - 1) &&& 31)) &&& 1) : Int32).toInt) : Int) = (1) := ci_ne rfl rfl c7
      refine ⟨Or.inl rfl, ?_⟩
      intro o9
      refine ⟨fun c10 => ?_, fun c10 => ?_⟩
      · skip
        refine ⟨vp_of (a := ((4 + v2.toInt) - 1)) e2 (by omega) (by omega), ?_⟩
        refine ⟨vp_of (a := ((4 + v2.toInt) - 1)) e2 (by omega) (by omega), ?_⟩
        have hB11 : Bd (uI I 102 (Int32.toNatClampNeg ((4 + v2) - 1)) ((I 102 (Int32.toNatClampNeg ((4 + v2) - 1))) - 1)) := Bd.cfree hB0 (show (((4 + v2) - 1) : Int32).toInt = ((4 + v2.toInt) - 1) from e2) (by omega) (by omega) (by omega) (by omega)
        have f12 : Fr pD I (uI I 102 (Int32.toNatClampNeg ((4 + v2) - 1)) ((I 102 (Int32.toNatClampNeg ((4 + v2) - 1))) - 1)) := Fr.w (Fr.refl _ _) (show (((4 + v2) - 1) : Int32).toInt = ((4 + v2.toInt) - 1) from e2) (by omega) (fun j hj hp => by unfold pD at hp; omega)
        refine ⟨vp_of (a := (46 + v1.toInt)) e6 (by omega) (by omega), ?_⟩
        refine ⟨vp_of (a := (46 + v1.toInt)) e6 (by omega) (by omega), ?_⟩
        have hB13 : Bd (uI (uI I 102 (Int32.toNatClampNeg ((4 + v2) - 1)) ((I 102 (Int32.toNatClampNeg ((4 + v2) - 1))) - 1)) 102 (Int32.toNatClampNeg (46 + v1)) (((uI I 102 (Int32.toNatClampNeg ((4 + v2) - 1)) ((I 102 (Int32.toNatClampNeg ((4 + v2) - 1))) - 1)) 102 (Int32.toNatClampNeg (46 + v1))) ||| (1 <<< ((v2 - 1) &&& 31)))) := Bd.cfree hB11 (show ((46 + v1) : Int32).toInt = (46 + v1.toInt) from e6) (by omega) (by omega) (by omega) (by omega)
        have f14 : Fr pD I (uI (uI I 102 (Int32.toNatClampNeg ((4 + v2) - 1)) ((I 102 (Int32.toNatClampNeg ((4 + v2) - 1))) - 1)) 102 (Int32.toNatClampNeg (46 + v1)) (((uI I 102 (Int32.toNatClampNeg ((4 + v2) - 1)) ((I 102 (Int32.toNatClampNeg ((4 + v2) - 1))) - 1)) 102 (Int32.toNatClampNeg (46 + v1))) ||| (1 <<< ((v2 - 1) &&& 31)))) := Fr.w f12 (show ((46 + v1) : Int32).toInt = (46 + v1.toInt) from e6) (by omega) (fun j hj hp => by unfold pD at hp; omega)
        refine ⟨Or.inr rfl, ?_⟩
        exact hQ _ _ _ _ hB13 ⟨(Eq.trans (rd_ne (by first | decide | omega)) (rd_ne (by first | decide | omega))), f14⟩
      · exact absurd c10 (by decide)
    · skip
      have d15 : ((((((I 102 (Int32.toNatClampNeg (46 + v1))) >>> ((v2 - 1) &&& 31)) &&& 1) : Int32).toInt) : Int) = (1) := ci_eq rfl rfl c7
      refine ⟨Or.inr rfl, ?_⟩
      intro o16
      refine ⟨fun c17 => ?_, fun c17 => ?_⟩
      · exact absurd c17 (by decide)
      · skip
        refine ⟨Or.inl rfl, ?_⟩
        exact hQ _ _ _ _ hB0 ⟨rfl, (Fr.refl _ _)⟩
set_option maxHeartbeats 2000000 in
theorem sp_X12_takes {d : Nat} {Q : Qt} {v1 : Int32} {v2 : Int32} {I : Im} {J : Jm} {R : Rm} (hB0 : Bd I) (hR0 : RI R) (hv1 : 0 ≤ v1.toInt ∧ v1.toInt ≤ 5) (hv2 : 1 ≤ v2.toInt ∧ v2.toInt ≤ 30) (hQ : ∀ (x : Int32) (y : Int64) (I2 : Im) (J2 : Jm), Bd I2 → (I2 97 43 = I 97 43 ∧ Fr pD I I2) → Q x y I2 J2 R) : AM (d + 2) 265 112 [.ref 97, .int v1, .int v2] I J R Q := by
  have i_v1 := i32 v1
  have i_v2 := i32 v2
  refine w_X12_takes ?_
  have e1 : ((4 + v2) : Int32).toInt = (4) + (v2.toInt) := ti_add rfl rfl (by omega)
  have e2 : (((4 + v2) - 1) : Int32).toInt = ((4 + v2.toInt)) - (1) := ti_sub e1 rfl (by omega)
  refine ⟨vp_of (a := ((4 + v2.toInt) - 1)) e2 (by omega) (by omega), ?_⟩
  refine ⟨fun c3 => ?_, fun c3 => ?_⟩
  · skip
    have d4 : (((I 102 (Int32.toNatClampNeg ((4 + v2) - 1))).toInt) : Int) = (99) := ci_eq rfl rfl c3
    refine ⟨Or.inl rfl, ?_⟩
    exact hQ _ _ _ _ hB0 ⟨rfl, (Fr.refl _ _)⟩
  · skip
    have d5 : ¬ (((I 102 (Int32.toNatClampNeg ((4 + v2) - 1))).toInt) : Int) = (99) := ci_ne rfl rfl c3
    have e6 : ((46 + v1) : Int32).toInt = (46) + (v1.toInt) := ti_add rfl rfl (by omega)
    refine ⟨vp_of (a := (46 + v1.toInt)) e6 (by omega) (by omega), ?_⟩
    refine w_X12_isOf ?_
    refine ⟨fun c7 => ?_, fun c7 => ?_⟩
    · skip
      have d8 : ¬ ((((((I 102 (Int32.toNatClampNeg (46 + v1))) >>> ((v2 - 1) &&& 31)) &&& 1) : Int32).toInt) : Int) = (1) := ci_ne rfl rfl c7
      refine ⟨Or.inl rfl, ?_⟩
      intro o9
      refine ⟨fun c10 => ?_, fun c10 => ?_⟩
      · exact absurd c10 (by decide)
      · skip
        refine ⟨Or.inl rfl, ?_⟩
        exact hQ _ _ _ _ hB0 ⟨rfl, (Fr.refl _ _)⟩
    · skip
      have d11 : ((((((I 102 (Int32.toNatClampNeg (46 + v1))) >>> ((v2 - 1) &&& 31)) &&& 1) : Int32).toInt) : Int) = (1) := ci_eq rfl rfl c7
      refine ⟨Or.inr rfl, ?_⟩
      intro o12
      refine ⟨fun c13 => ?_, fun c13 => ?_⟩
      · skip
        refine ⟨vp_of (a := ((4 + v2.toInt) - 1)) e2 (by omega) (by omega), ?_⟩
        refine ⟨vp_of (a := ((4 + v2.toInt) - 1)) e2 (by omega) (by omega), ?_⟩
        have hB14 : Bd (uI I 102 (Int32.toNatClampNeg ((4 + v2) - 1)) ((I 102 (Int32.toNatClampNeg ((4 + v2) - 1))) + 1)) := Bd.cfree hB0 (show (((4 + v2) - 1) : Int32).toInt = ((4 + v2.toInt) - 1) from e2) (by omega) (by omega) (by omega) (by omega)
        have f15 : Fr pD I (uI I 102 (Int32.toNatClampNeg ((4 + v2) - 1)) ((I 102 (Int32.toNatClampNeg ((4 + v2) - 1))) + 1)) := Fr.w (Fr.refl _ _) (show (((4 + v2) - 1) : Int32).toInt = ((4 + v2.toInt) - 1) from e2) (by omega) (fun j hj hp => by unfold pD at hp; omega)
        refine ⟨vp_of (a := (46 + v1.toInt)) e6 (by omega) (by omega), ?_⟩
        refine ⟨vp_of (a := (46 + v1.toInt)) e6 (by omega) (by omega), ?_⟩
        have hB16 : Bd (uI (uI I 102 (Int32.toNatClampNeg ((4 + v2) - 1)) ((I 102 (Int32.toNatClampNeg ((4 + v2) - 1))) + 1)) 102 (Int32.toNatClampNeg (46 + v1)) (((uI I 102 (Int32.toNatClampNeg ((4 + v2) - 1)) ((I 102 (Int32.toNatClampNeg ((4 + v2) - 1))) + 1)) 102 (Int32.toNatClampNeg (46 + v1))) ^^^ (1 <<< ((v2 - 1) &&& 31)))) := Bd.cfree hB14 (show ((46 + v1) : Int32).toInt = (46 + v1.toInt) from e6) (by omega) (by omega) (by omega) (by omega)
        have f17 : Fr pD I (uI (uI I 102 (Int32.toNatClampNeg ((4 + v2) - 1)) ((I 102 (Int32.toNatClampNeg ((4 + v2) - 1))) + 1)) 102 (Int32.toNatClampNeg (46 + v1)) (((uI I 102 (Int32.toNatClampNeg ((4 + v2) - 1)) ((I 102 (Int32.toNatClampNeg ((4 + v2) - 1))) + 1)) 102 (Int32.toNatClampNeg (46 + v1))) ^^^ (1 <<< ((v2 - 1) &&& 31)))) := Fr.w f15 (show ((46 + v1) : Int32).toInt = (46 + v1.toInt) from e6) (by omega) (fun j hj hp => by unfold pD at hp; omega)
        refine ⟨Or.inr rfl, ?_⟩
        exact hQ _ _ _ _ hB16 ⟨(Eq.trans (rd_ne (by first | decide | omega)) (rd_ne (by first | decide | omega))), f17⟩
      · exact absurd c13 (by decide)
set_option maxHeartbeats 2000000 in
theorem sp_X12_give {d : Nat} {Q : Qt} {v1 : Int32} {v2 : Int32} {I : Im} {J : Jm} {R : Rm} (hB0 : Bd I) (hR0 : RI R) (hQ : ∀ (x : Int32) (y : Int64) (I2 : Im) (J2 : Jm), Bd I2 → (Fr pK I I2) → Q x y I2 J2 R) : AM (d + 3) 264 112 [.ref 97, .int v1, .int v2] I J R Q := by
  have i_v1 := i32 v1
  have i_v2 := i32 v2
  refine w_X12_give ?_
  have hB1 : Bd (uI I 97 1 0) := Bd.o0 hB0 io9_112_97_12 (by decide) bd9_12_1
  have f2 : Fr pK I (uI I 97 1 0) := Fr.o (Fr.refl _ _) (by decide) (by decide)
  have hB3 : Bd (uI (uI I 97 1 0) 97 0 0) := Bd.o0 hB1 io9_112_97_12 (by decide) bd9_12_0
  have f4 : Fr pK I (uI (uI I 97 1 0) 97 0 0) := Fr.o f2 (by decide) (by decide)
  refine w_X12_isManAt ?_
  refine ⟨vp_of (a := 0) rfl (by omega) (by omega), ?_⟩
  refine w_X12_isIn ?_
  refine ⟨fun c5 => ?_, fun c5 => ?_⟩
  · skip
    rw [lg_cmp_lt] at c5
    have d6 : ((v1.toInt) : Int) < (0) := cl_lt (tl_i2l rfl) rfl c5
    refine ⟨Or.inl rfl, ?_⟩
    intro o7
    refine ⟨Or.inl rfl, ?_⟩
    intro o8
    refine ⟨fun c9 => ?_, fun c9 => ?_⟩
    · skip
      refine w_X12_refuse ?_
      have hB10 : Bd (uI (uI (uI I 97 1 0) 97 0 0) 97 0 2) := Bd.o0 hB3 io9_112_97_12 (by decide) bd9_12_0
      have f11 : Fr pK I (uI (uI (uI I 97 1 0) 97 0 0) 97 0 2) := Fr.o f4 (by decide) (by decide)
      exact hQ _ _ _ _ hB10 f11
    · exact absurd c9 (by decide)
  · skip
    rw [lg_cmp_lt] at c5
    have d12 : ((0) : Int) ≤ (v1.toInt) := cl_nlt (tl_i2l rfl) rfl c5
    refine ⟨fun c13 => ?_, fun c13 => ?_⟩
    · skip
      rw [lg_cmp_gt] at c13
      have b14 := (Bd.c hB0 (j := 0) (z := 0) rfl).1 (by decide)
      have e15 : (((uI (uI I 97 1 0) 97 0 0) 102 (Int32.toNatClampNeg 0)) : Int32).toInt = (I 102 0).toInt := Eq.trans (congrArg Int32.toInt (Eq.trans (Eq.trans (rd_ne (by first | decide | omega)) (rd_ne (by first | decide | omega))) rfl)) rfl
      have e16 : ((((uI (uI I 97 1 0) 97 0 0) 102 (Int32.toNatClampNeg 0)) - 1) : Int32).toInt = ((I 102 0).toInt) - (1) := ti_sub e15 rfl (by omega)
      have i17 := i32 ((((uI (uI I 97 1 0) 97 0 0) 102 (Int32.toNatClampNeg 0)) - 1))
      have d18 : ((((I 102 0).toInt - 1)) : Int) < (v1.toInt) := cl_lt (tl_i2l e16) (tl_i2l rfl) c13
      refine ⟨Or.inl rfl, ?_⟩
      intro o19
      refine ⟨Or.inl rfl, ?_⟩
      intro o20
      refine ⟨fun c21 => ?_, fun c21 => ?_⟩
      · skip
        refine w_X12_refuse ?_
        have hB22 : Bd (uI (uI (uI I 97 1 0) 97 0 0) 97 0 2) := Bd.o0 hB3 io9_112_97_12 (by decide) bd9_12_0
        have f23 : Fr pK I (uI (uI (uI I 97 1 0) 97 0 0) 97 0 2) := Fr.o f4 (by decide) (by decide)
        exact hQ _ _ _ _ hB22 f23
      · exact absurd c21 (by decide)
    · skip
      rw [lg_cmp_gt] at c13
      have b24 := (Bd.c hB0 (j := 0) (z := 0) rfl).1 (by decide)
      have e25 : (((uI (uI I 97 1 0) 97 0 0) 102 (Int32.toNatClampNeg 0)) : Int32).toInt = (I 102 0).toInt := Eq.trans (congrArg Int32.toInt (Eq.trans (Eq.trans (rd_ne (by first | decide | omega)) (rd_ne (by first | decide | omega))) rfl)) rfl
      have e26 : ((((uI (uI I 97 1 0) 97 0 0) 102 (Int32.toNatClampNeg 0)) - 1) : Int32).toInt = ((I 102 0).toInt) - (1) := ti_sub e25 rfl (by omega)
      have i27 := i32 ((((uI (uI I 97 1 0) 97 0 0) 102 (Int32.toNatClampNeg 0)) - 1))
      have d28 : ((v1.toInt) : Int) ≤ (((I 102 0).toInt - 1)) := cl_nlt (tl_i2l e26) (tl_i2l rfl) c13
      refine ⟨Or.inr rfl, ?_⟩
      intro o29
      refine ⟨Or.inr rfl, ?_⟩
      intro o30
      refine ⟨fun c31 => ?_, fun c31 => ?_⟩
      · exact absurd c31 (by decide)
      · skip
        refine w_X12_isSlice ?_
        refine w_X12_isIn ?_
        refine ⟨fun c32 => ?_, fun c32 => ?_⟩
        · skip
          rw [lg_cmp_lt] at c32
          have d33 : ((v2.toInt) : Int) < (1) := cl_lt (tl_i2l rfl) rfl c32
          refine ⟨Or.inl rfl, ?_⟩
          intro o34
          refine ⟨Or.inl rfl, ?_⟩
          intro o35
          refine ⟨fun c36 => ?_, fun c36 => ?_⟩
          · exact absurd c36 (by decide)
          · skip
            refine w_X12_refuse ?_
            have hB37 : Bd (uI (uI (uI I 97 1 0) 97 0 0) 97 0 2) := Bd.o0 hB3 io9_112_97_12 (by decide) bd9_12_0
            have f38 : Fr pK I (uI (uI (uI I 97 1 0) 97 0 0) 97 0 2) := Fr.o f4 (by decide) (by decide)
            exact hQ _ _ _ _ hB37 f38
        · skip
          rw [lg_cmp_lt] at c32
          have d39 : ((1) : Int) ≤ (v2.toInt) := cl_nlt (tl_i2l rfl) rfl c32
          refine ⟨fun c40 => ?_, fun c40 => ?_⟩
          · skip
            rw [lg_cmp_gt] at c40
            have d41 : ((30) : Int) < (v2.toInt) := cl_lt rfl (tl_i2l rfl) c40
            refine ⟨Or.inl rfl, ?_⟩
            intro o42
            refine ⟨Or.inl rfl, ?_⟩
            intro o43
            refine ⟨fun c44 => ?_, fun c44 => ?_⟩
            · exact absurd c44 (by decide)
            · skip
              refine w_X12_refuse ?_
              have hB45 : Bd (uI (uI (uI I 97 1 0) 97 0 0) 97 0 2) := Bd.o0 hB3 io9_112_97_12 (by decide) bd9_12_0
              have f46 : Fr pK I (uI (uI (uI I 97 1 0) 97 0 0) 97 0 2) := Fr.o f4 (by decide) (by decide)
              exact hQ _ _ _ _ hB45 f46
          · skip
            rw [lg_cmp_gt] at c40
            have d47 : ((v2.toInt) : Int) ≤ (30) := cl_nlt rfl (tl_i2l rfl) c40
            refine ⟨Or.inr rfl, ?_⟩
            intro o48
            refine ⟨Or.inr rfl, ?_⟩
            intro o49
            refine ⟨fun c50 => ?_, fun c50 => ?_⟩
            · skip
              refine sp_X12_gives hB3 hR0 (by have z1 : (v1 : Int32).toInt = v1.toInt := rfl; omega) (by have z2 : (v2 : Int32).toInt = v2.toInt := rfl; omega) (fun x51 y56 I52 J53 hB54 p55 => ?_)
              intro o57
              have f58 : Fr pD (uI (uI I 97 1 0) 97 0 0) I52 := p55.2
              have f59 : Fr pK I I52 := Fr.tr f4 f58 (pK_D)
              have i60 := i32 x51
              refine ⟨fun c61 => ?_, fun c61 => ?_⟩
              · skip
                have d62 : ((x51.toInt) : Int) = (0) := ci_eq rfl rfl c61
                refine w_X12_refuse ?_
                have hB63 : Bd (uI I52 97 0 9) := Bd.o0 hB54 io9_112_97_12 (by decide) bd9_12_0
                have f64 : Fr pK I (uI I52 97 0 9) := Fr.o f59 (by decide) (by decide)
                exact hQ _ _ _ _ hB63 f64
              · skip
                have d65 : ¬ ((x51.toInt) : Int) = (0) := ci_ne rfl rfl c61
                have e66 : ((46 + v1) : Int32).toInt = (46) + (v1.toInt) := ti_add rfl rfl (by first | (clear e25 e26 i27 d39 d47 p55 i60 d65; omega) | omega)
                refine ⟨vp_of (a := (46 + v1.toInt)) e66 (by first | (clear e25 e26 i27 d39 d47 p55 i60 d65; omega) | omega) (by first | (clear e25 e26 i27 d39 d47 p55 i60 d65; omega) | omega), ?_⟩
                refine sp_X12_sizeOf hB54 hR0 (fun x67 y72 I68 J69 hB70 p71 => ?_)
                obtain ⟨heI68, p71⟩ := p71
                subst heI68
                have i73 := i32 x67
                exact hQ _ _ _ _ hB54 f59
            · exact absurd c50 (by decide)
set_option maxHeartbeats 2000000 in
theorem sp_X12_take {d : Nat} {Q : Qt} {v1 : Int32} {v2 : Int32} {I : Im} {J : Jm} {R : Rm} (hB0 : Bd I) (hR0 : RI R) (hQ : ∀ (x : Int32) (y : Int64) (I2 : Im) (J2 : Jm), Bd I2 → (Fr pK I I2) → Q x y I2 J2 R) : AM (d + 3) 266 112 [.ref 97, .int v1, .int v2] I J R Q := by
  have i_v1 := i32 v1
  have i_v2 := i32 v2
  refine w_X12_take ?_
  have hB1 : Bd (uI I 97 1 0) := Bd.o0 hB0 io9_112_97_12 (by decide) bd9_12_1
  have f2 : Fr pK I (uI I 97 1 0) := Fr.o (Fr.refl _ _) (by decide) (by decide)
  have hB3 : Bd (uI (uI I 97 1 0) 97 0 0) := Bd.o0 hB1 io9_112_97_12 (by decide) bd9_12_0
  have f4 : Fr pK I (uI (uI I 97 1 0) 97 0 0) := Fr.o f2 (by decide) (by decide)
  refine w_X12_isManAt ?_
  refine ⟨vp_of (a := 0) rfl (by omega) (by omega), ?_⟩
  refine w_X12_isIn ?_
  refine ⟨fun c5 => ?_, fun c5 => ?_⟩
  · skip
    rw [lg_cmp_lt] at c5
    have d6 : ((v1.toInt) : Int) < (0) := cl_lt (tl_i2l rfl) rfl c5
    refine ⟨Or.inl rfl, ?_⟩
    intro o7
    refine ⟨Or.inl rfl, ?_⟩
    intro o8
    refine ⟨fun c9 => ?_, fun c9 => ?_⟩
    · skip
      refine w_X12_refuse ?_
      have hB10 : Bd (uI (uI (uI I 97 1 0) 97 0 0) 97 0 2) := Bd.o0 hB3 io9_112_97_12 (by decide) bd9_12_0
      have f11 : Fr pK I (uI (uI (uI I 97 1 0) 97 0 0) 97 0 2) := Fr.o f4 (by decide) (by decide)
      exact hQ _ _ _ _ hB10 f11
    · exact absurd c9 (by decide)
  · skip
    rw [lg_cmp_lt] at c5
    have d12 : ((0) : Int) ≤ (v1.toInt) := cl_nlt (tl_i2l rfl) rfl c5
    refine ⟨fun c13 => ?_, fun c13 => ?_⟩
    · skip
      rw [lg_cmp_gt] at c13
      have b14 := (Bd.c hB0 (j := 0) (z := 0) rfl).1 (by decide)
      have e15 : (((uI (uI I 97 1 0) 97 0 0) 102 (Int32.toNatClampNeg 0)) : Int32).toInt = (I 102 0).toInt := Eq.trans (congrArg Int32.toInt (Eq.trans (Eq.trans (rd_ne (by first | decide | omega)) (rd_ne (by first | decide | omega))) rfl)) rfl
      have e16 : ((((uI (uI I 97 1 0) 97 0 0) 102 (Int32.toNatClampNeg 0)) - 1) : Int32).toInt = ((I 102 0).toInt) - (1) := ti_sub e15 rfl (by omega)
      have i17 := i32 ((((uI (uI I 97 1 0) 97 0 0) 102 (Int32.toNatClampNeg 0)) - 1))
      have d18 : ((((I 102 0).toInt - 1)) : Int) < (v1.toInt) := cl_lt (tl_i2l e16) (tl_i2l rfl) c13
      refine ⟨Or.inl rfl, ?_⟩
      intro o19
      refine ⟨Or.inl rfl, ?_⟩
      intro o20
      refine ⟨fun c21 => ?_, fun c21 => ?_⟩
      · skip
        refine w_X12_refuse ?_
        have hB22 : Bd (uI (uI (uI I 97 1 0) 97 0 0) 97 0 2) := Bd.o0 hB3 io9_112_97_12 (by decide) bd9_12_0
        have f23 : Fr pK I (uI (uI (uI I 97 1 0) 97 0 0) 97 0 2) := Fr.o f4 (by decide) (by decide)
        exact hQ _ _ _ _ hB22 f23
      · exact absurd c21 (by decide)
    · skip
      rw [lg_cmp_gt] at c13
      have b24 := (Bd.c hB0 (j := 0) (z := 0) rfl).1 (by decide)
      have e25 : (((uI (uI I 97 1 0) 97 0 0) 102 (Int32.toNatClampNeg 0)) : Int32).toInt = (I 102 0).toInt := Eq.trans (congrArg Int32.toInt (Eq.trans (Eq.trans (rd_ne (by first | decide | omega)) (rd_ne (by first | decide | omega))) rfl)) rfl
      have e26 : ((((uI (uI I 97 1 0) 97 0 0) 102 (Int32.toNatClampNeg 0)) - 1) : Int32).toInt = ((I 102 0).toInt) - (1) := ti_sub e25 rfl (by omega)
      have i27 := i32 ((((uI (uI I 97 1 0) 97 0 0) 102 (Int32.toNatClampNeg 0)) - 1))
      have d28 : ((v1.toInt) : Int) ≤ (((I 102 0).toInt - 1)) := cl_nlt (tl_i2l e26) (tl_i2l rfl) c13
      refine ⟨Or.inr rfl, ?_⟩
      intro o29
      refine ⟨Or.inr rfl, ?_⟩
      intro o30
      refine ⟨fun c31 => ?_, fun c31 => ?_⟩
      · exact absurd c31 (by decide)
      · skip
        refine w_X12_isSlice ?_
        refine w_X12_isIn ?_
        refine ⟨fun c32 => ?_, fun c32 => ?_⟩
        · skip
          rw [lg_cmp_lt] at c32
          have d33 : ((v2.toInt) : Int) < (1) := cl_lt (tl_i2l rfl) rfl c32
          refine ⟨Or.inl rfl, ?_⟩
          intro o34
          refine ⟨Or.inl rfl, ?_⟩
          intro o35
          refine ⟨fun c36 => ?_, fun c36 => ?_⟩
          · exact absurd c36 (by decide)
          · skip
            refine w_X12_refuse ?_
            have hB37 : Bd (uI (uI (uI I 97 1 0) 97 0 0) 97 0 2) := Bd.o0 hB3 io9_112_97_12 (by decide) bd9_12_0
            have f38 : Fr pK I (uI (uI (uI I 97 1 0) 97 0 0) 97 0 2) := Fr.o f4 (by decide) (by decide)
            exact hQ _ _ _ _ hB37 f38
        · skip
          rw [lg_cmp_lt] at c32
          have d39 : ((1) : Int) ≤ (v2.toInt) := cl_nlt (tl_i2l rfl) rfl c32
          refine ⟨fun c40 => ?_, fun c40 => ?_⟩
          · skip
            rw [lg_cmp_gt] at c40
            have d41 : ((30) : Int) < (v2.toInt) := cl_lt rfl (tl_i2l rfl) c40
            refine ⟨Or.inl rfl, ?_⟩
            intro o42
            refine ⟨Or.inl rfl, ?_⟩
            intro o43
            refine ⟨fun c44 => ?_, fun c44 => ?_⟩
            · exact absurd c44 (by decide)
            · skip
              refine w_X12_refuse ?_
              have hB45 : Bd (uI (uI (uI I 97 1 0) 97 0 0) 97 0 2) := Bd.o0 hB3 io9_112_97_12 (by decide) bd9_12_0
              have f46 : Fr pK I (uI (uI (uI I 97 1 0) 97 0 0) 97 0 2) := Fr.o f4 (by decide) (by decide)
              exact hQ _ _ _ _ hB45 f46
          · skip
            rw [lg_cmp_gt] at c40
            have d47 : ((v2.toInt) : Int) ≤ (30) := cl_nlt rfl (tl_i2l rfl) c40
            refine ⟨Or.inr rfl, ?_⟩
            intro o48
            refine ⟨Or.inr rfl, ?_⟩
            intro o49
            refine ⟨fun c50 => ?_, fun c50 => ?_⟩
            · skip
              have e51 : ((4 + v2) : Int32).toInt = (4) + (v2.toInt) := ti_add rfl rfl (by first | (clear d12 e25 e26 i27 d28; omega) | omega)
              have e52 : (((4 + v2) - 1) : Int32).toInt = ((4 + v2.toInt)) - (1) := ti_sub e51 rfl (by first | (clear d12 e25 e26 i27 d28; omega) | omega)
              refine ⟨vp_of (a := ((4 + v2.toInt) - 1)) e52 (by first | (clear d12 e25 e26 i27 d28; omega) | omega) (by first | (clear d12 e25 e26 i27 d28; omega) | omega), ?_⟩
              refine ⟨fun c53 => ?_, fun c53 => ?_⟩
              · skip
                have e54 : (((uI (uI I 97 1 0) 97 0 0) 102 (Int32.toNatClampNeg ((4 + v2) - 1))) : Int32).toInt = (I 102 (Int32.toNatClampNeg ((4 + v2) - 1))).toInt := Eq.trans (congrArg Int32.toInt (Eq.trans (rd_ne (by first | decide | omega)) (rd_ne (by first | decide | omega)))) rfl
                have d55 : ¬ (((I 102 (Int32.toNatClampNeg ((4 + v2) - 1))).toInt) : Int) = (99) := ci_ne e54 rfl c53
                refine sp_X12_takes hB3 hR0 (by have z1 : (v1 : Int32).toInt = v1.toInt := rfl; omega) (by have z2 : (v2 : Int32).toInt = v2.toInt := rfl; omega) (fun x56 y61 I57 J58 hB59 p60 => ?_)
                intro o62
                have f63 : Fr pD (uI (uI I 97 1 0) 97 0 0) I57 := p60.2
                have f64 : Fr pK I I57 := Fr.tr f4 f63 (pK_D)
                have i65 := i32 x56
                refine ⟨fun c66 => ?_, fun c66 => ?_⟩
                · skip
                  have d67 : ((x56.toInt) : Int) = (0) := ci_eq rfl rfl c66
                  refine w_X12_refuse ?_
                  have hB68 : Bd (uI I57 97 0 9) := Bd.o0 hB59 io9_112_97_12 (by decide) bd9_12_0
                  have f69 : Fr pK I (uI I57 97 0 9) := Fr.o f64 (by decide) (by decide)
                  exact hQ _ _ _ _ hB68 f69
                · skip
                  have d70 : ¬ ((x56.toInt) : Int) = (0) := ci_ne rfl rfl c66
                  have e71 : ((46 + v1) : Int32).toInt = (46) + (v1.toInt) := ti_add rfl rfl (by first | (clear e25 e26 i27 d39 d47 e51 e52 e54 d55 p60 i65 d70; omega) | omega)
                  refine ⟨vp_of (a := (46 + v1.toInt)) e71 (by first | (clear e25 e26 i27 d39 d47 e51 e52 e54 d55 p60 i65 d70; omega) | omega) (by first | (clear e25 e26 i27 d39 d47 e51 e52 e54 d55 p60 i65 d70; omega) | omega), ?_⟩
                  refine sp_X12_sizeOf hB59 hR0 (fun x72 y77 I73 J74 hB75 p76 => ?_)
                  obtain ⟨heI73, p76⟩ := p76
                  subst heI73
                  have i78 := i32 x72
                  exact hQ _ _ _ _ hB59 f64
              · skip
                have e79 : (((uI (uI I 97 1 0) 97 0 0) 102 (Int32.toNatClampNeg ((4 + v2) - 1))) : Int32).toInt = (I 102 (Int32.toNatClampNeg ((4 + v2) - 1))).toInt := Eq.trans (congrArg Int32.toInt (Eq.trans (rd_ne (by first | decide | omega)) (rd_ne (by first | decide | omega)))) rfl
                have d80 : (((I 102 (Int32.toNatClampNeg ((4 + v2) - 1))).toInt) : Int) = (99) := ci_eq e79 rfl c53
                refine w_X12_refuse ?_
                have hB81 : Bd (uI (uI (uI I 97 1 0) 97 0 0) 97 0 7) := Bd.o0 hB3 io9_112_97_12 (by decide) bd9_12_0
                have f82 : Fr pK I (uI (uI (uI I 97 1 0) 97 0 0) 97 0 7) := Fr.o f4 (by decide) (by decide)
                exact hQ _ _ _ _ hB81 f82
            · exact absurd c50 (by decide)
set_option maxHeartbeats 2000000 in
theorem sp_X12_bakes {d : Nat} {Q : Qt} {v1 : Int32} {I : Im} {J : Jm} {R : Rm} (hB0 : Bd I) (hR0 : RI R) (hQ : ∀ (x : Int32) (y : Int64) (I2 : Im) (J2 : Jm), Bd I2 → (I2 97 43 = I 97 43 ∧ Fr pD I I2) → Q x y I2 J2 R) : AM (d + 1) 261 112 [.ref 97, .int v1] I J R Q := by
  have i_v1 := i32 v1
  refine w_X12_bakes ?_
  refine ⟨vp_of (a := 4) rfl (by omega) (by omega), ?_⟩
  refine ⟨fun c1 => ?_, fun c1 => ?_⟩
  · skip
    have d2 : (((((I 102 (Int32.toNatClampNeg 4)) + v1) : Int32).toInt) : Int) ≤ (99) := ci_le rfl rfl c1
    refine ⟨vp_of (a := 4) rfl (by omega) (by omega), ?_⟩
    refine ⟨vp_of (a := 4) rfl (by omega) (by omega), ?_⟩
    have hB3 : Bd (uI I 102 (Int32.toNatClampNeg 4) ((I 102 (Int32.toNatClampNeg 4)) + v1)) := Bd.cfree hB0 (show (4 : Int32).toInt = 4 from rfl) (by omega) (by omega) (by omega) (by omega)
    have f4 : Fr pD I (uI I 102 (Int32.toNatClampNeg 4) ((I 102 (Int32.toNatClampNeg 4)) + v1)) := Fr.w (Fr.refl _ _) (show (4 : Int32).toInt = 4 from rfl) (by omega) (fun j hj hp => by unfold pD at hp; omega)
    refine ⟨Or.inr rfl, ?_⟩
    exact hQ _ _ _ _ hB3 ⟨(rd_ne (by first | decide | omega)), f4⟩
  · skip
    have d5 : ((99) : Int) < ((((I 102 (Int32.toNatClampNeg 4)) + v1) : Int32).toInt) := ci_nle rfl rfl c1
    refine ⟨Or.inl rfl, ?_⟩
    exact hQ _ _ _ _ hB0 ⟨rfl, (Fr.refl _ _)⟩
set_option maxHeartbeats 2000000 in
theorem sp_X12_bake {d : Nat} {Q : Qt} {v1 : Int32} {I : Im} {J : Jm} {R : Rm} (hB0 : Bd I) (hR0 : RI R) (hQ : ∀ (x : Int32) (y : Int64) (I2 : Im) (J2 : Jm), Bd I2 → (Fr pK I I2) → Q x y I2 J2 R) : AM (d + 2) 262 112 [.ref 97, .int v1] I J R Q := by
  have i_v1 := i32 v1
  refine w_X12_bake ?_
  have hB1 : Bd (uI I 97 1 0) := Bd.o0 hB0 io9_112_97_12 (by decide) bd9_12_1
  have f2 : Fr pK I (uI I 97 1 0) := Fr.o (Fr.refl _ _) (by decide) (by decide)
  have hB3 : Bd (uI (uI I 97 1 0) 97 0 0) := Bd.o0 hB1 io9_112_97_12 (by decide) bd9_12_0
  have f4 : Fr pK I (uI (uI I 97 1 0) 97 0 0) := Fr.o f2 (by decide) (by decide)
  refine w_X12_isIn ?_
  refine ⟨fun c5 => ?_, fun c5 => ?_⟩
  · skip
    rw [lg_cmp_lt] at c5
    have d6 : ((v1.toInt) : Int) < (1) := cl_lt (tl_i2l rfl) rfl c5
    refine ⟨Or.inl rfl, ?_⟩
    intro o7
    refine ⟨fun c8 => ?_, fun c8 => ?_⟩
    · exact absurd c8 (by decide)
    · skip
      refine w_X12_refuse ?_
      have hB9 : Bd (uI (uI (uI I 97 1 0) 97 0 0) 97 0 5) := Bd.o0 hB3 io9_112_97_12 (by decide) bd9_12_0
      have f10 : Fr pK I (uI (uI (uI I 97 1 0) 97 0 0) 97 0 5) := Fr.o f4 (by decide) (by decide)
      exact hQ _ _ _ _ hB9 f10
  · skip
    rw [lg_cmp_lt] at c5
    have d11 : ((1) : Int) ≤ (v1.toInt) := cl_nlt (tl_i2l rfl) rfl c5
    refine ⟨fun c12 => ?_, fun c12 => ?_⟩
    · skip
      rw [lg_cmp_gt] at c12
      have d13 : ((99) : Int) < (v1.toInt) := cl_lt rfl (tl_i2l rfl) c12
      refine ⟨Or.inl rfl, ?_⟩
      intro o14
      refine ⟨fun c15 => ?_, fun c15 => ?_⟩
      · exact absurd c15 (by decide)
      · skip
        refine w_X12_refuse ?_
        have hB16 : Bd (uI (uI (uI I 97 1 0) 97 0 0) 97 0 5) := Bd.o0 hB3 io9_112_97_12 (by decide) bd9_12_0
        have f17 : Fr pK I (uI (uI (uI I 97 1 0) 97 0 0) 97 0 5) := Fr.o f4 (by decide) (by decide)
        exact hQ _ _ _ _ hB16 f17
    · skip
      rw [lg_cmp_gt] at c12
      have d18 : ((v1.toInt) : Int) ≤ (99) := cl_nlt rfl (tl_i2l rfl) c12
      refine ⟨Or.inr rfl, ?_⟩
      intro o19
      refine ⟨fun c20 => ?_, fun c20 => ?_⟩
      · skip
        refine sp_X12_bakes hB3 hR0 (fun x21 y26 I22 J23 hB24 p25 => ?_)
        intro o27
        have f28 : Fr pD (uI (uI I 97 1 0) 97 0 0) I22 := p25.2
        have f29 : Fr pK I I22 := Fr.tr f4 f28 (pK_D)
        have i30 := i32 x21
        refine ⟨fun c31 => ?_, fun c31 => ?_⟩
        · skip
          have d32 : ((x21.toInt) : Int) = (0) := ci_eq rfl rfl c31
          refine w_X12_refuse ?_
          have hB33 : Bd (uI I22 97 0 7) := Bd.o0 hB24 io9_112_97_12 (by decide) bd9_12_0
          have f34 : Fr pK I (uI I22 97 0 7) := Fr.o f29 (by decide) (by decide)
          exact hQ _ _ _ _ hB33 f34
        · skip
          have d35 : ¬ ((x21.toInt) : Int) = (0) := ci_ne rfl rfl c31
          refine ⟨vp_of (a := 4) rfl (by first | (clear d11 d18 p25 i30 d35; omega) | omega) (by first | (clear d11 d18 p25 i30 d35; omega) | omega), ?_⟩
          exact hQ _ _ _ _ hB24 f29
      · exact absurd c20 (by decide)
set_option maxHeartbeats 2000000 in
theorem sp_X12_splits {d : Nat} {Q : Qt} {v1 : Int32} {v2 : Int32} {I : Im} {J : Jm} {R : Rm} (hB0 : Bd I) (hR0 : RI R) (hv1 : 1 ≤ v1.toInt ∧ v1.toInt ≤ 30) (hv2 : 2 ≤ v2.toInt ∧ v2.toInt ≤ 30) (hQ : ∀ (x : Int32) (y : Int64) (I2 : Im) (J2 : Jm), Bd I2 → (I2 97 43 = I 97 43 ∧ Fr pD I I2) → Q x y I2 J2 R) : AM (d + 2) 259 112 [.ref 97, .int v1, .int v2] I J R Q := by
  have i_v1 := i32 v1
  have i_v2 := i32 v2
  refine w_X12_splits ?_
  have hm := mul30 (a := v1.toInt) (b := v2.toInt) (by omega) (by omega)
  have e1 : ((4 + v1) : Int32).toInt = (4) + (v1.toInt) := ti_add rfl rfl (by omega)
  have e2 : (((4 + v1) - 1) : Int32).toInt = ((4 + v1.toInt)) - (1) := ti_sub e1 rfl (by omega)
  refine ⟨vp_of (a := ((4 + v1.toInt) - 1)) e2 (by omega) (by omega), ?_⟩
  refine ⟨fun c3 => ?_, fun c3 => ?_⟩
  · skip
    have d4 : (((I 102 (Int32.toNatClampNeg ((4 + v1) - 1))).toInt) : Int) = (0) := ci_eq rfl rfl c3
    refine ⟨Or.inl rfl, ?_⟩
    exact hQ _ _ _ _ hB0 ⟨rfl, (Fr.refl _ _)⟩
  · skip
    have d5 : ¬ (((I 102 (Int32.toNatClampNeg ((4 + v1) - 1))).toInt) : Int) = (0) := ci_ne rfl rfl c3
    refine ⟨fun c6 => ?_, fun c6 => ?_⟩
    · skip
      have e7 : ((v1 * v2) : Int32).toInt = (v1.toInt) * (v2.toInt) := ti_mul rfl rfl (by omega)
      have d8 : ((30) : Int) < ((v1.toInt * v2.toInt)) := ci_lt rfl e7 c6
      refine ⟨Or.inl rfl, ?_⟩
      exact hQ _ _ _ _ hB0 ⟨rfl, (Fr.refl _ _)⟩
    · skip
      have e9 : ((v1 * v2) : Int32).toInt = (v1.toInt) * (v2.toInt) := ti_mul rfl rfl (by omega)
      have d10 : (((v1.toInt * v2.toInt)) : Int) ≤ (30) := ci_nlt rfl e9 c6
      refine w_X12_areMore ?_
      refine ⟨fun c11 => ?_, fun c11 => ?_⟩
      · skip
        have d12 : ((30) : Int) < ((v1.toInt * v2.toInt)) := ci_lt rfl e9 c11
        refine ⟨Or.inl rfl, ?_⟩
        intro o13
        refine ⟨fun c14 => ?_, fun c14 => ?_⟩
        · skip
          refine ⟨vp_of (a := ((4 + v1.toInt) - 1)) e2 (by omega) (by omega), ?_⟩
          refine ⟨vp_of (a := ((4 + v1.toInt) - 1)) e2 (by omega) (by omega), ?_⟩
          have hB15 : Bd (uI I 102 (Int32.toNatClampNeg ((4 + v1) - 1)) ((I 102 (Int32.toNatClampNeg ((4 + v1) - 1))) - 1)) := Bd.cfree hB0 (show (((4 + v1) - 1) : Int32).toInt = ((4 + v1.toInt) - 1) from e2) (by omega) (by omega) (by omega) (by omega)
          have f16 : Fr pD I (uI I 102 (Int32.toNatClampNeg ((4 + v1) - 1)) ((I 102 (Int32.toNatClampNeg ((4 + v1) - 1))) - 1)) := Fr.w (Fr.refl _ _) (show (((4 + v1) - 1) : Int32).toInt = ((4 + v1.toInt) - 1) from e2) (by omega) (fun j hj hp => by unfold pD at hp; omega)
          have e17 : ((4 + (v1 * v2)) : Int32).toInt = (4) + ((v1.toInt * v2.toInt)) := ti_add rfl e9 (by omega)
          have e18 : (((4 + (v1 * v2)) - 1) : Int32).toInt = ((4 + (v1.toInt * v2.toInt))) - (1) := ti_sub e17 rfl (by omega)
          refine ⟨vp_of (a := ((4 + (v1.toInt * v2.toInt)) - 1)) e18 (by omega) (by omega), ?_⟩
          refine ⟨vp_of (a := ((4 + (v1.toInt * v2.toInt)) - 1)) e18 (by omega) (by omega), ?_⟩
          have hB19 : Bd (uI (uI I 102 (Int32.toNatClampNeg ((4 + v1) - 1)) ((I 102 (Int32.toNatClampNeg ((4 + v1) - 1))) - 1)) 102 (Int32.toNatClampNeg ((4 + (v1 * v2)) - 1)) (((uI I 102 (Int32.toNatClampNeg ((4 + v1) - 1)) ((I 102 (Int32.toNatClampNeg ((4 + v1) - 1))) - 1)) 102 (Int32.toNatClampNeg ((4 + (v1 * v2)) - 1))) + v2)) := Bd.cfree hB15 (show (((4 + (v1 * v2)) - 1) : Int32).toInt = ((4 + (v1.toInt * v2.toInt)) - 1) from e18) (by omega) (by omega) (by omega) (by omega)
          have f20 : Fr pD I (uI (uI I 102 (Int32.toNatClampNeg ((4 + v1) - 1)) ((I 102 (Int32.toNatClampNeg ((4 + v1) - 1))) - 1)) 102 (Int32.toNatClampNeg ((4 + (v1 * v2)) - 1)) (((uI I 102 (Int32.toNatClampNeg ((4 + v1) - 1)) ((I 102 (Int32.toNatClampNeg ((4 + v1) - 1))) - 1)) 102 (Int32.toNatClampNeg ((4 + (v1 * v2)) - 1))) + v2)) := Fr.w f16 (show (((4 + (v1 * v2)) - 1) : Int32).toInt = ((4 + (v1.toInt * v2.toInt)) - 1) from e18) (by omega) (fun j hj hp => by unfold pD at hp; omega)
          refine ⟨vp_of (a := 2) rfl (by first | (clear e1 e2 d5 e9 d10 d12 e17 e18; omega) | omega) (by first | (clear e1 e2 d5 e9 d10 d12 e17 e18; omega) | omega), ?_⟩
          refine ⟨vp_of (a := 2) rfl (by first | (clear e1 e2 d5 e9 d10 d12 e17 e18; omega) | omega) (by first | (clear e1 e2 d5 e9 d10 d12 e17 e18; omega) | omega), ?_⟩
          have hB21 : Bd (uI (uI (uI I 102 (Int32.toNatClampNeg ((4 + v1) - 1)) ((I 102 (Int32.toNatClampNeg ((4 + v1) - 1))) - 1)) 102 (Int32.toNatClampNeg ((4 + (v1 * v2)) - 1)) (((uI I 102 (Int32.toNatClampNeg ((4 + v1) - 1)) ((I 102 (Int32.toNatClampNeg ((4 + v1) - 1))) - 1)) 102 (Int32.toNatClampNeg ((4 + (v1 * v2)) - 1))) + v2)) 102 (Int32.toNatClampNeg 2) (((uI (uI I 102 (Int32.toNatClampNeg ((4 + v1) - 1)) ((I 102 (Int32.toNatClampNeg ((4 + v1) - 1))) - 1)) 102 (Int32.toNatClampNeg ((4 + (v1 * v2)) - 1)) (((uI I 102 (Int32.toNatClampNeg ((4 + v1) - 1)) ((I 102 (Int32.toNatClampNeg ((4 + v1) - 1))) - 1)) 102 (Int32.toNatClampNeg ((4 + (v1 * v2)) - 1))) + v2)) 102 (Int32.toNatClampNeg 2)) + 1)) := Bd.cfree hB19 (show (2 : Int32).toInt = 2 from rfl) (by omega) (by omega) (by omega) (by omega)
          have f22 : Fr pD I (uI (uI (uI I 102 (Int32.toNatClampNeg ((4 + v1) - 1)) ((I 102 (Int32.toNatClampNeg ((4 + v1) - 1))) - 1)) 102 (Int32.toNatClampNeg ((4 + (v1 * v2)) - 1)) (((uI I 102 (Int32.toNatClampNeg ((4 + v1) - 1)) ((I 102 (Int32.toNatClampNeg ((4 + v1) - 1))) - 1)) 102 (Int32.toNatClampNeg ((4 + (v1 * v2)) - 1))) + v2)) 102 (Int32.toNatClampNeg 2) (((uI (uI I 102 (Int32.toNatClampNeg ((4 + v1) - 1)) ((I 102 (Int32.toNatClampNeg ((4 + v1) - 1))) - 1)) 102 (Int32.toNatClampNeg ((4 + (v1 * v2)) - 1)) (((uI I 102 (Int32.toNatClampNeg ((4 + v1) - 1)) ((I 102 (Int32.toNatClampNeg ((4 + v1) - 1))) - 1)) 102 (Int32.toNatClampNeg ((4 + (v1 * v2)) - 1))) + v2)) 102 (Int32.toNatClampNeg 2)) + 1)) := Fr.w f20 (show (2 : Int32).toInt = 2 from rfl) (by omega) (fun j hj hp => by unfold pD at hp; omega)
          refine ⟨Or.inr rfl, ?_⟩
          exact hQ _ _ _ _ hB21 ⟨(Eq.trans (Eq.trans (rd_ne (by first | decide | omega)) (rd_ne (by first | decide | omega))) (rd_ne (by first | decide | omega))), f22⟩
        · exact absurd c14 (by decide)
      · skip
        have d23 : (((v1.toInt * v2.toInt)) : Int) ≤ (30) := ci_nlt rfl e9 c11
        have e24 : ((4 + (v1 * v2)) : Int32).toInt = (4) + ((v1.toInt * v2.toInt)) := ti_add rfl e9 (by omega)
        have e25 : (((4 + (v1 * v2)) - 1) : Int32).toInt = ((4 + (v1.toInt * v2.toInt))) - (1) := ti_sub e24 rfl (by omega)
        refine ⟨vp_of (a := ((4 + (v1.toInt * v2.toInt)) - 1)) e25 (by omega) (by omega), ?_⟩
        refine ⟨fun c26 => ?_, fun c26 => ?_⟩
        · skip
          have d27 : (((((I 102 (Int32.toNatClampNeg ((4 + (v1 * v2)) - 1))) + v2) : Int32).toInt) : Int) ≤ (99) := ci_le rfl rfl c26
          refine ⟨Or.inl rfl, ?_⟩
          intro o28
          refine ⟨fun c29 => ?_, fun c29 => ?_⟩
          · skip
            refine ⟨vp_of (a := ((4 + v1.toInt) - 1)) e2 (by omega) (by omega), ?_⟩
            refine ⟨vp_of (a := ((4 + v1.toInt) - 1)) e2 (by omega) (by omega), ?_⟩
            have hB30 : Bd (uI I 102 (Int32.toNatClampNeg ((4 + v1) - 1)) ((I 102 (Int32.toNatClampNeg ((4 + v1) - 1))) - 1)) := Bd.cfree hB0 (show (((4 + v1) - 1) : Int32).toInt = ((4 + v1.toInt) - 1) from e2) (by omega) (by omega) (by omega) (by omega)
            have f31 : Fr pD I (uI I 102 (Int32.toNatClampNeg ((4 + v1) - 1)) ((I 102 (Int32.toNatClampNeg ((4 + v1) - 1))) - 1)) := Fr.w (Fr.refl _ _) (show (((4 + v1) - 1) : Int32).toInt = ((4 + v1.toInt) - 1) from e2) (by omega) (fun j hj hp => by unfold pD at hp; omega)
            refine ⟨vp_of (a := ((4 + (v1.toInt * v2.toInt)) - 1)) e25 (by omega) (by omega), ?_⟩
            refine ⟨vp_of (a := ((4 + (v1.toInt * v2.toInt)) - 1)) e25 (by omega) (by omega), ?_⟩
            have hB32 : Bd (uI (uI I 102 (Int32.toNatClampNeg ((4 + v1) - 1)) ((I 102 (Int32.toNatClampNeg ((4 + v1) - 1))) - 1)) 102 (Int32.toNatClampNeg ((4 + (v1 * v2)) - 1)) (((uI I 102 (Int32.toNatClampNeg ((4 + v1) - 1)) ((I 102 (Int32.toNatClampNeg ((4 + v1) - 1))) - 1)) 102 (Int32.toNatClampNeg ((4 + (v1 * v2)) - 1))) + v2)) := Bd.cfree hB30 (show (((4 + (v1 * v2)) - 1) : Int32).toInt = ((4 + (v1.toInt * v2.toInt)) - 1) from e25) (by omega) (by omega) (by omega) (by omega)
            have f33 : Fr pD I (uI (uI I 102 (Int32.toNatClampNeg ((4 + v1) - 1)) ((I 102 (Int32.toNatClampNeg ((4 + v1) - 1))) - 1)) 102 (Int32.toNatClampNeg ((4 + (v1 * v2)) - 1)) (((uI I 102 (Int32.toNatClampNeg ((4 + v1) - 1)) ((I 102 (Int32.toNatClampNeg ((4 + v1) - 1))) - 1)) 102 (Int32.toNatClampNeg ((4 + (v1 * v2)) - 1))) + v2)) := Fr.w f31 (show (((4 + (v1 * v2)) - 1) : Int32).toInt = ((4 + (v1.toInt * v2.toInt)) - 1) from e25) (by omega) (fun j hj hp => by unfold pD at hp; omega)
            refine ⟨vp_of (a := 2) rfl (by first | (clear e1 e2 d5 e9 d10 d23 e24 e25 d27; omega) | omega) (by first | (clear e1 e2 d5 e9 d10 d23 e24 e25 d27; omega) | omega), ?_⟩
            refine ⟨vp_of (a := 2) rfl (by first | (clear e1 e2 d5 e9 d10 d23 e24 e25 d27; omega) | omega) (by first | (clear e1 e2 d5 e9 d10 d23 e24 e25 d27; omega) | omega), ?_⟩
            have hB34 : Bd (uI (uI (uI I 102 (Int32.toNatClampNeg ((4 + v1) - 1)) ((I 102 (Int32.toNatClampNeg ((4 + v1) - 1))) - 1)) 102 (Int32.toNatClampNeg ((4 + (v1 * v2)) - 1)) (((uI I 102 (Int32.toNatClampNeg ((4 + v1) - 1)) ((I 102 (Int32.toNatClampNeg ((4 + v1) - 1))) - 1)) 102 (Int32.toNatClampNeg ((4 + (v1 * v2)) - 1))) + v2)) 102 (Int32.toNatClampNeg 2) (((uI (uI I 102 (Int32.toNatClampNeg ((4 + v1) - 1)) ((I 102 (Int32.toNatClampNeg ((4 + v1) - 1))) - 1)) 102 (Int32.toNatClampNeg ((4 + (v1 * v2)) - 1)) (((uI I 102 (Int32.toNatClampNeg ((4 + v1) - 1)) ((I 102 (Int32.toNatClampNeg ((4 + v1) - 1))) - 1)) 102 (Int32.toNatClampNeg ((4 + (v1 * v2)) - 1))) + v2)) 102 (Int32.toNatClampNeg 2)) + 1)) := Bd.cfree hB32 (show (2 : Int32).toInt = 2 from rfl) (by omega) (by omega) (by omega) (by omega)
            have f35 : Fr pD I (uI (uI (uI I 102 (Int32.toNatClampNeg ((4 + v1) - 1)) ((I 102 (Int32.toNatClampNeg ((4 + v1) - 1))) - 1)) 102 (Int32.toNatClampNeg ((4 + (v1 * v2)) - 1)) (((uI I 102 (Int32.toNatClampNeg ((4 + v1) - 1)) ((I 102 (Int32.toNatClampNeg ((4 + v1) - 1))) - 1)) 102 (Int32.toNatClampNeg ((4 + (v1 * v2)) - 1))) + v2)) 102 (Int32.toNatClampNeg 2) (((uI (uI I 102 (Int32.toNatClampNeg ((4 + v1) - 1)) ((I 102 (Int32.toNatClampNeg ((4 + v1) - 1))) - 1)) 102 (Int32.toNatClampNeg ((4 + (v1 * v2)) - 1)) (((uI I 102 (Int32.toNatClampNeg ((4 + v1) - 1)) ((I 102 (Int32.toNatClampNeg ((4 + v1) - 1))) - 1)) 102 (Int32.toNatClampNeg ((4 + (v1 * v2)) - 1))) + v2)) 102 (Int32.toNatClampNeg 2)) + 1)) := Fr.w f33 (show (2 : Int32).toInt = 2 from rfl) (by omega) (fun j hj hp => by unfold pD at hp; omega)
            refine ⟨Or.inr rfl, ?_⟩
            exact hQ _ _ _ _ hB34 ⟨(Eq.trans (Eq.trans (rd_ne (by first | decide | omega)) (rd_ne (by first | decide | omega))) (rd_ne (by first | decide | omega))), f35⟩
          · exact absurd c29 (by decide)
        · skip
          have d36 : ((99) : Int) < ((((I 102 (Int32.toNatClampNeg ((4 + (v1 * v2)) - 1))) + v2) : Int32).toInt) := ci_nle rfl rfl c26
          refine ⟨Or.inr rfl, ?_⟩
          intro o37
          refine ⟨fun c38 => ?_, fun c38 => ?_⟩
          · exact absurd c38 (by decide)
          · skip
            refine ⟨Or.inl rfl, ?_⟩
            exact hQ _ _ _ _ hB0 ⟨rfl, (Fr.refl _ _)⟩
set_option maxHeartbeats 2000000 in
theorem sp_X12_split {d : Nat} {Q : Qt} {v1 : Int32} {v2 : Int32} {I : Im} {J : Jm} {R : Rm} (hB0 : Bd I) (hR0 : RI R) (hQ : ∀ (x : Int32) (y : Int64) (I2 : Im) (J2 : Jm), Bd I2 → (Fr pK I I2) → Q x y I2 J2 R) : AM (d + 3) 260 112 [.ref 97, .int v1, .int v2] I J R Q := by
  have i_v1 := i32 v1
  have i_v2 := i32 v2
  refine w_X12_split ?_
  have hB1 : Bd (uI I 97 1 0) := Bd.o0 hB0 io9_112_97_12 (by decide) bd9_12_1
  have f2 : Fr pK I (uI I 97 1 0) := Fr.o (Fr.refl _ _) (by decide) (by decide)
  have hB3 : Bd (uI (uI I 97 1 0) 97 0 0) := Bd.o0 hB1 io9_112_97_12 (by decide) bd9_12_0
  have f4 : Fr pK I (uI (uI I 97 1 0) 97 0 0) := Fr.o f2 (by decide) (by decide)
  refine w_X12_isSlice ?_
  refine w_X12_isIn ?_
  refine ⟨fun c5 => ?_, fun c5 => ?_⟩
  · skip
    rw [lg_cmp_lt] at c5
    have d6 : ((v1.toInt) : Int) < (1) := cl_lt (tl_i2l rfl) rfl c5
    refine ⟨Or.inl rfl, ?_⟩
    intro o7
    refine ⟨Or.inl rfl, ?_⟩
    intro o8
    refine ⟨fun c9 => ?_, fun c9 => ?_⟩
    · exact absurd c9 (by decide)
    · skip
      refine w_X12_refuse ?_
      have hB10 : Bd (uI (uI (uI I 97 1 0) 97 0 0) 97 0 2) := Bd.o0 hB3 io9_112_97_12 (by decide) bd9_12_0
      have f11 : Fr pK I (uI (uI (uI I 97 1 0) 97 0 0) 97 0 2) := Fr.o f4 (by decide) (by decide)
      exact hQ _ _ _ _ hB10 f11
  · skip
    rw [lg_cmp_lt] at c5
    have d12 : ((1) : Int) ≤ (v1.toInt) := cl_nlt (tl_i2l rfl) rfl c5
    refine ⟨fun c13 => ?_, fun c13 => ?_⟩
    · skip
      rw [lg_cmp_gt] at c13
      have d14 : ((30) : Int) < (v1.toInt) := cl_lt rfl (tl_i2l rfl) c13
      refine ⟨Or.inl rfl, ?_⟩
      intro o15
      refine ⟨Or.inl rfl, ?_⟩
      intro o16
      refine ⟨fun c17 => ?_, fun c17 => ?_⟩
      · exact absurd c17 (by decide)
      · skip
        refine w_X12_refuse ?_
        have hB18 : Bd (uI (uI (uI I 97 1 0) 97 0 0) 97 0 2) := Bd.o0 hB3 io9_112_97_12 (by decide) bd9_12_0
        have f19 : Fr pK I (uI (uI (uI I 97 1 0) 97 0 0) 97 0 2) := Fr.o f4 (by decide) (by decide)
        exact hQ _ _ _ _ hB18 f19
    · skip
      rw [lg_cmp_gt] at c13
      have d20 : ((v1.toInt) : Int) ≤ (30) := cl_nlt rfl (tl_i2l rfl) c13
      refine ⟨Or.inr rfl, ?_⟩
      intro o21
      refine ⟨Or.inr rfl, ?_⟩
      intro o22
      refine ⟨fun c23 => ?_, fun c23 => ?_⟩
      · skip
        refine w_X12_isIn ?_
        refine ⟨fun c24 => ?_, fun c24 => ?_⟩
        · skip
          rw [lg_cmp_lt] at c24
          have d25 : ((v2.toInt) : Int) < (2) := cl_lt (tl_i2l rfl) rfl c24
          refine ⟨Or.inl rfl, ?_⟩
          intro o26
          refine ⟨fun c27 => ?_, fun c27 => ?_⟩
          · exact absurd c27 (by decide)
          · skip
            refine w_X12_refuse ?_
            have hB28 : Bd (uI (uI (uI I 97 1 0) 97 0 0) 97 0 5) := Bd.o0 hB3 io9_112_97_12 (by decide) bd9_12_0
            have f29 : Fr pK I (uI (uI (uI I 97 1 0) 97 0 0) 97 0 5) := Fr.o f4 (by decide) (by decide)
            exact hQ _ _ _ _ hB28 f29
        · skip
          rw [lg_cmp_lt] at c24
          have d30 : ((2) : Int) ≤ (v2.toInt) := cl_nlt (tl_i2l rfl) rfl c24
          refine ⟨fun c31 => ?_, fun c31 => ?_⟩
          · skip
            rw [lg_cmp_gt] at c31
            have d32 : ((30) : Int) < (v2.toInt) := cl_lt rfl (tl_i2l rfl) c31
            refine ⟨Or.inl rfl, ?_⟩
            intro o33
            refine ⟨fun c34 => ?_, fun c34 => ?_⟩
            · exact absurd c34 (by decide)
            · skip
              refine w_X12_refuse ?_
              have hB35 : Bd (uI (uI (uI I 97 1 0) 97 0 0) 97 0 5) := Bd.o0 hB3 io9_112_97_12 (by decide) bd9_12_0
              have f36 : Fr pK I (uI (uI (uI I 97 1 0) 97 0 0) 97 0 5) := Fr.o f4 (by decide) (by decide)
              exact hQ _ _ _ _ hB35 f36
          · skip
            rw [lg_cmp_gt] at c31
            have d37 : ((v2.toInt) : Int) ≤ (30) := cl_nlt rfl (tl_i2l rfl) c31
            refine ⟨Or.inr rfl, ?_⟩
            intro o38
            refine ⟨fun c39 => ?_, fun c39 => ?_⟩
            · skip
              refine w_X12_areMore ?_
              have hm40 := mul30 (a := v1.toInt) (b := v2.toInt) (by omega) (by omega)
              refine ⟨fun c41 => ?_, fun c41 => ?_⟩
              · skip
                have e42 : ((v1 * v2) : Int32).toInt = (v1.toInt) * (v2.toInt) := ti_mul rfl rfl (by omega)
                have d43 : ((30) : Int) < ((v1.toInt * v2.toInt)) := ci_lt rfl e42 c41
                refine ⟨Or.inl rfl, ?_⟩
                intro o44
                refine ⟨fun c45 => ?_, fun c45 => ?_⟩
                · skip
                  refine sp_X12_splits hB3 hR0 (by have z1 : (v1 : Int32).toInt = v1.toInt := rfl; omega) (by have z2 : (v2 : Int32).toInt = v2.toInt := rfl; omega) (fun x46 y51 I47 J48 hB49 p50 => ?_)
                  intro o52
                  have f53 : Fr pD (uI (uI I 97 1 0) 97 0 0) I47 := p50.2
                  have f54 : Fr pK I I47 := Fr.tr f4 f53 (pK_D)
                  have i55 := i32 x46
                  refine ⟨fun c56 => ?_, fun c56 => ?_⟩
                  · skip
                    have d57 : ((x46.toInt) : Int) = (0) := ci_eq rfl rfl c56
                    refine w_X12_refuse ?_
                    have hB58 : Bd (uI I47 97 0 9) := Bd.o0 hB49 io9_112_97_12 (by decide) bd9_12_0
                    have f59 : Fr pK I (uI I47 97 0 9) := Fr.o f54 (by decide) (by decide)
                    exact hQ _ _ _ _ hB58 f59
                  · skip
                    have d60 : ¬ ((x46.toInt) : Int) = (0) := ci_ne rfl rfl c56
                    refine sp_X12_held hB49 hR0 (fun x61 y66 I62 J63 hB64 p65 => ?_)
                    subst p65
                    have i67 := i32 x61
                    exact hQ _ _ _ _ hB49 f54
                · exact absurd c45 (by decide)
              · skip
                have e68 : ((v1 * v2) : Int32).toInt = (v1.toInt) * (v2.toInt) := ti_mul rfl rfl (by omega)
                have d69 : (((v1.toInt * v2.toInt)) : Int) ≤ (30) := ci_nlt rfl e68 c41
                have e70 : ((4 + (v1 * v2)) : Int32).toInt = (4) + ((v1.toInt * v2.toInt)) := ti_add rfl e68 (by omega)
                have e71 : (((4 + (v1 * v2)) - 1) : Int32).toInt = ((4 + (v1.toInt * v2.toInt))) - (1) := ti_sub e70 rfl (by omega)
                refine ⟨vp_of (a := ((4 + (v1.toInt * v2.toInt)) - 1)) e71 (by omega) (by omega), ?_⟩
                refine ⟨fun c72 => ?_, fun c72 => ?_⟩
                · skip
                  have d73 : ((((((uI (uI I 97 1 0) 97 0 0) 102 (Int32.toNatClampNeg ((4 + (v1 * v2)) - 1))) + v2) : Int32).toInt) : Int) ≤ (99) := ci_le rfl rfl c72
                  refine ⟨Or.inl rfl, ?_⟩
                  intro o74
                  refine ⟨fun c75 => ?_, fun c75 => ?_⟩
                  · skip
                    refine sp_X12_splits hB3 hR0 (by have z1 : (v1 : Int32).toInt = v1.toInt := rfl; omega) (by have z2 : (v2 : Int32).toInt = v2.toInt := rfl; omega) (fun x76 y81 I77 J78 hB79 p80 => ?_)
                    intro o82
                    have f83 : Fr pD (uI (uI I 97 1 0) 97 0 0) I77 := p80.2
                    have f84 : Fr pK I I77 := Fr.tr f4 f83 (pK_D)
                    have i85 := i32 x76
                    refine ⟨fun c86 => ?_, fun c86 => ?_⟩
                    · skip
                      have d87 : ((x76.toInt) : Int) = (0) := ci_eq rfl rfl c86
                      refine w_X12_refuse ?_
                      have hB88 : Bd (uI I77 97 0 9) := Bd.o0 hB79 io9_112_97_12 (by decide) bd9_12_0
                      have f89 : Fr pK I (uI I77 97 0 9) := Fr.o f84 (by decide) (by decide)
                      exact hQ _ _ _ _ hB88 f89
                    · skip
                      have d90 : ¬ ((x76.toInt) : Int) = (0) := ci_ne rfl rfl c86
                      refine sp_X12_held hB79 hR0 (fun x91 y96 I92 J93 hB94 p95 => ?_)
                      subst p95
                      have i97 := i32 x91
                      exact hQ _ _ _ _ hB79 f84
                  · exact absurd c75 (by decide)
                · skip
                  have d98 : ((99) : Int) < (((((uI (uI I 97 1 0) 97 0 0) 102 (Int32.toNatClampNeg ((4 + (v1 * v2)) - 1))) + v2) : Int32).toInt) := ci_nle rfl rfl c72
                  refine ⟨Or.inr rfl, ?_⟩
                  intro o99
                  refine ⟨fun c100 => ?_, fun c100 => ?_⟩
                  · exact absurd c100 (by decide)
                  · skip
                    refine w_X12_refuse ?_
                    have hB101 : Bd (uI (uI (uI I 97 1 0) 97 0 0) 97 0 7) := Bd.o0 hB3 io9_112_97_12 (by decide) bd9_12_0
                    have f102 : Fr pK I (uI (uI (uI I 97 1 0) 97 0 0) 97 0 7) := Fr.o f4 (by decide) (by decide)
                    exact hQ _ _ _ _ hB101 f102
            · exact absurd c39 (by decide)
      · exact absurd c23 (by decide)
set_option maxHeartbeats 2000000 in
theorem sp_X12_man {d : Nat} {Q : Qt} {v1 : Int32} {v2 : Int32} {I : Im} {J : Jm} {R : Rm} (hB0 : Bd I) (hR0 : RI R) (hQ : ∀ (x : Int32) (y : Int64) (I2 : Im) (J2 : Jm), Bd I2 → (True) → Q x y I2 J2 R) : AM (d + 3) 250 112 [.ref 97, .int v1, .int v2] I J R Q := by
  have i_v1 := i32 v1
  have i_v2 := i32 v2
  refine w_X12_man ?_
  have hB1 : Bd (uI I 97 1 0) := Bd.o0 hB0 io9_112_97_12 (by decide) bd9_12_1
  have hB2 : Bd (uI (uI I 97 1 0) 97 0 0) := Bd.o0 hB1 io9_112_97_12 (by decide) bd9_12_0
  refine w_X12_isManAt ?_
  refine ⟨vp_of (a := 0) rfl (by omega) (by omega), ?_⟩
  refine w_X12_isIn ?_
  refine ⟨fun c3 => ?_, fun c3 => ?_⟩
  · skip
    rw [lg_cmp_lt] at c3
    have d4 : ((v1.toInt) : Int) < (0) := cl_lt (tl_i2l rfl) rfl c3
    refine ⟨Or.inl rfl, ?_⟩
    intro o5
    refine ⟨Or.inl rfl, ?_⟩
    intro o6
    refine ⟨fun c7 => ?_, fun c7 => ?_⟩
    · exact absurd c7 (by decide)
    · skip
      refine w_X12_refuse ?_
      have hB8 : Bd (uI (uI (uI I 97 1 0) 97 0 0) 97 0 2) := Bd.o0 hB2 io9_112_97_12 (by decide) bd9_12_0
      exact hQ _ _ _ _ hB8 trivial
  · skip
    rw [lg_cmp_lt] at c3
    have d9 : ((0) : Int) ≤ (v1.toInt) := cl_nlt (tl_i2l rfl) rfl c3
    refine ⟨fun c10 => ?_, fun c10 => ?_⟩
    · skip
      rw [lg_cmp_gt] at c10
      have b11 := (Bd.c hB0 (j := 0) (z := 0) rfl).1 (by decide)
      have e12 : (((uI (uI I 97 1 0) 97 0 0) 102 (Int32.toNatClampNeg 0)) : Int32).toInt = (I 102 0).toInt := Eq.trans (congrArg Int32.toInt (Eq.trans (Eq.trans (rd_ne (by first | decide | omega)) (rd_ne (by first | decide | omega))) rfl)) rfl
      have e13 : ((((uI (uI I 97 1 0) 97 0 0) 102 (Int32.toNatClampNeg 0)) - 1) : Int32).toInt = ((I 102 0).toInt) - (1) := ti_sub e12 rfl (by omega)
      have i14 := i32 ((((uI (uI I 97 1 0) 97 0 0) 102 (Int32.toNatClampNeg 0)) - 1))
      have d15 : ((((I 102 0).toInt - 1)) : Int) < (v1.toInt) := cl_lt (tl_i2l e13) (tl_i2l rfl) c10
      refine ⟨Or.inl rfl, ?_⟩
      intro o16
      refine ⟨Or.inl rfl, ?_⟩
      intro o17
      refine ⟨fun c18 => ?_, fun c18 => ?_⟩
      · exact absurd c18 (by decide)
      · skip
        refine w_X12_refuse ?_
        have hB19 : Bd (uI (uI (uI I 97 1 0) 97 0 0) 97 0 2) := Bd.o0 hB2 io9_112_97_12 (by decide) bd9_12_0
        exact hQ _ _ _ _ hB19 trivial
    · skip
      rw [lg_cmp_gt] at c10
      have b20 := (Bd.c hB0 (j := 0) (z := 0) rfl).1 (by decide)
      have e21 : (((uI (uI I 97 1 0) 97 0 0) 102 (Int32.toNatClampNeg 0)) : Int32).toInt = (I 102 0).toInt := Eq.trans (congrArg Int32.toInt (Eq.trans (Eq.trans (rd_ne (by first | decide | omega)) (rd_ne (by first | decide | omega))) rfl)) rfl
      have e22 : ((((uI (uI I 97 1 0) 97 0 0) 102 (Int32.toNatClampNeg 0)) - 1) : Int32).toInt = ((I 102 0).toInt) - (1) := ti_sub e21 rfl (by omega)
      have i23 := i32 ((((uI (uI I 97 1 0) 97 0 0) 102 (Int32.toNatClampNeg 0)) - 1))
      have d24 : ((v1.toInt) : Int) ≤ (((I 102 0).toInt - 1)) := cl_nlt (tl_i2l e22) (tl_i2l rfl) c10
      refine ⟨Or.inr rfl, ?_⟩
      intro o25
      refine ⟨Or.inr rfl, ?_⟩
      intro o26
      refine ⟨fun c27 => ?_, fun c27 => ?_⟩
      · skip
        refine w_X12_isIn ?_
        refine ⟨fun c28 => ?_, fun c28 => ?_⟩
        · skip
          rw [lg_cmp_lt] at c28
          have d29 : ((v2.toInt) : Int) < (0) := cl_lt (tl_i2l rfl) rfl c28
          refine ⟨Or.inl rfl, ?_⟩
          intro o30
          refine ⟨fun c31 => ?_, fun c31 => ?_⟩
          · skip
            refine w_X12_refuse ?_
            have hB32 : Bd (uI (uI (uI I 97 1 0) 97 0 0) 97 0 5) := Bd.o0 hB2 io9_112_97_12 (by decide) bd9_12_0
            exact hQ _ _ _ _ hB32 trivial
          · exact absurd c31 (by decide)
        · skip
          rw [lg_cmp_lt] at c28
          have d33 : ((0) : Int) ≤ (v2.toInt) := cl_nlt (tl_i2l rfl) rfl c28
          refine ⟨fun c34 => ?_, fun c34 => ?_⟩
          · skip
            rw [lg_cmp_gt] at c34
            have d35 : ((2) : Int) < (v2.toInt) := cl_lt rfl (tl_i2l rfl) c34
            refine ⟨Or.inl rfl, ?_⟩
            intro o36
            refine ⟨fun c37 => ?_, fun c37 => ?_⟩
            · skip
              refine w_X12_refuse ?_
              have hB38 : Bd (uI (uI (uI I 97 1 0) 97 0 0) 97 0 5) := Bd.o0 hB2 io9_112_97_12 (by decide) bd9_12_0
              exact hQ _ _ _ _ hB38 trivial
            · exact absurd c37 (by decide)
          · skip
            rw [lg_cmp_gt] at c34
            have d39 : ((v2.toInt) : Int) ≤ (2) := cl_nlt rfl (tl_i2l rfl) c34
            refine ⟨Or.inr rfl, ?_⟩
            intro o40
            refine ⟨fun c41 => ?_, fun c41 => ?_⟩
            · exact absurd c41 (by decide)
            · skip
              have e42 : ((6 * v2) : Int32).toInt = (6) * (v2.toInt) := ti_mul rfl rfl (by first | (clear d9 e21 e22 i23 d24; omega) | omega)
              have e43 : ((34 + (6 * v2)) : Int32).toInt = (34) + ((6 * v2.toInt)) := ti_add rfl e42 (by first | (clear d9 e21 e22 i23 d24; omega) | omega)
              have e44 : (((34 + (6 * v2)) + v1) : Int32).toInt = ((34 + (6 * v2.toInt))) + (v1.toInt) := ti_add e43 rfl (by omega)
              refine ⟨vp_of (a := ((34 + (6 * v2.toInt)) + v1.toInt)) e44 (by omega) (by omega), ?_⟩
              exact hQ _ _ _ _ hB2 trivial
      · exact absurd c27 (by decide)
set_option maxHeartbeats 2000000 in
theorem sp_X12_lived {d : Nat} {Q : Qt} {v1 : Int32} {I : Im} {J : Jm} {R : Rm} (hB0 : Bd I) (hR0 : RI R) (hQ : ∀ (x : Int32) (y : Int64) (I2 : Im) (J2 : Jm), Bd I2 → (True) → Q x y I2 J2 R) : AM (d + 2) 314 112 [.ref 97, .int v1] I J R Q := by
  have i_v1 := i32 v1
  refine w_X12_lived ?_
  have hB1 : Bd (uI I 97 1 0) := Bd.o0 hB0 io9_112_97_12 (by decide) bd9_12_1
  have hB2 : Bd (uI (uI I 97 1 0) 97 0 0) := Bd.o0 hB1 io9_112_97_12 (by decide) bd9_12_0
  refine w_X12_isIn ?_
  refine ⟨fun c3 => ?_, fun c3 => ?_⟩
  · skip
    rw [lg_cmp_lt] at c3
    have d4 : ((v1.toInt) : Int) < (0) := cl_lt (tl_i2l rfl) rfl c3
    refine ⟨Or.inl rfl, ?_⟩
    intro o5
    refine ⟨fun c6 => ?_, fun c6 => ?_⟩
    · exact absurd c6 (by decide)
    · skip
      refine w_X12_refuse ?_
      have hB7 : Bd (uI (uI (uI I 97 1 0) 97 0 0) 97 0 5) := Bd.o0 hB2 io9_112_97_12 (by decide) bd9_12_0
      exact hQ _ _ _ _ hB7 trivial
  · skip
    rw [lg_cmp_lt] at c3
    have d8 : ((0) : Int) ≤ (v1.toInt) := cl_nlt (tl_i2l rfl) rfl c3
    refine ⟨fun c9 => ?_, fun c9 => ?_⟩
    · skip
      rw [lg_cmp_gt] at c9
      have d10 : ((4) : Int) < (v1.toInt) := cl_lt rfl (tl_i2l rfl) c9
      refine ⟨Or.inl rfl, ?_⟩
      intro o11
      refine ⟨fun c12 => ?_, fun c12 => ?_⟩
      · exact absurd c12 (by decide)
      · skip
        refine w_X12_refuse ?_
        have hB13 : Bd (uI (uI (uI I 97 1 0) 97 0 0) 97 0 5) := Bd.o0 hB2 io9_112_97_12 (by decide) bd9_12_0
        exact hQ _ _ _ _ hB13 trivial
    · skip
      rw [lg_cmp_gt] at c9
      have d14 : ((v1.toInt) : Int) ≤ (4) := cl_nlt rfl (tl_i2l rfl) c9
      refine ⟨Or.inr rfl, ?_⟩
      intro o15
      refine ⟨fun c16 => ?_, fun c16 => ?_⟩
      · skip
        refine ⟨fun c17 => ?_, fun c17 => ?_⟩
        · skip
          have b18 := Bd.o hB0 io9_112_97_12 bd9_12_40
          have e19 : (((uI (uI I 97 1 0) 97 0 0) 97 40) : Int32).toInt = (I 97 40).toInt := Eq.trans (congrArg Int32.toInt (Eq.trans (rd_k (by decide)) (rd_k (by decide)))) rfl
          have d20 : (((I 97 40).toInt) : Int) = (0) := ci_eq e19 rfl c17
          refine w_X12_refuse ?_
          have hB21 : Bd (uI (uI (uI I 97 1 0) 97 0 0) 97 0 8) := Bd.o0 hB2 io9_112_97_12 (by decide) bd9_12_0
          exact hQ _ _ _ _ hB21 trivial
        · skip
          have b22 := Bd.o hB0 io9_112_97_12 bd9_12_40
          have e23 : (((uI (uI I 97 1 0) 97 0 0) 97 40) : Int32).toInt = (I 97 40).toInt := Eq.trans (congrArg Int32.toInt (Eq.trans (rd_k (by decide)) (rd_k (by decide)))) rfl
          have d24 : ¬ (((I 97 40).toInt) : Int) = (0) := ci_ne e23 rfl c17
          refine ⟨vp_of (a := v1.toInt) rfl (by omega) (by omega), ?_⟩
          exact hQ _ _ _ _ hB2 trivial
      · exact absurd c16 (by decide)
set_option maxHeartbeats 2000000 in
theorem sp_X12_come {d : Nat} {Q : Qt} {v1 : Int32} {v2 : Int32} {I : Im} {J : Jm} {R : Rm} (hB0 : Bd I) (hR0 : RI R) (hQ : ∀ (x : Int32) (y : Int64) (I2 : Im) (J2 : Jm), Bd I2 → (True) → Q x y I2 J2 R) : AM (d + 3) 268 112 [.ref 97, .int v1, .int v2] I J R Q := by
  have i_v1 := i32 v1
  have i_v2 := i32 v2
  refine w_X12_come ?_
  have hB1 : Bd (uI I 97 1 0) := Bd.o0 hB0 io9_112_97_12 (by decide) bd9_12_1
  have hB2 : Bd (uI (uI I 97 1 0) 97 0 0) := Bd.o0 hB1 io9_112_97_12 (by decide) bd9_12_0
  refine w_X12_isShare ?_
  refine w_X12_isIn ?_
  refine ⟨fun c3 => ?_, fun c3 => ?_⟩
  · skip
    rw [lg_cmp_lt] at c3
    have d4 : ((v1.toInt) : Int) < (1) := cl_lt (tl_i2l rfl) rfl c3
    refine ⟨Or.inl rfl, ?_⟩
    intro o5
    refine ⟨fun c6 => ?_, fun c6 => ?_⟩
    · skip
      refine ⟨Or.inl rfl, ?_⟩
      intro o7
      refine ⟨fun c8 => ?_, fun c8 => ?_⟩
      · exact absurd c8 (by decide)
      · skip
        refine w_X12_refuse ?_
        have hB9 : Bd (uI (uI (uI I 97 1 0) 97 0 0) 97 0 5) := Bd.o0 hB2 io9_112_97_12 (by decide) bd9_12_0
        exact hQ _ _ _ _ hB9 trivial
    · exact absurd c6 (by decide)
  · skip
    rw [lg_cmp_lt] at c3
    have d10 : ((1) : Int) ≤ (v1.toInt) := cl_nlt (tl_i2l rfl) rfl c3
    refine ⟨fun c11 => ?_, fun c11 => ?_⟩
    · skip
      rw [lg_cmp_gt] at c11
      have d12 : ((99) : Int) < (v1.toInt) := cl_lt rfl (tl_i2l rfl) c11
      refine ⟨Or.inl rfl, ?_⟩
      intro o13
      refine ⟨fun c14 => ?_, fun c14 => ?_⟩
      · skip
        refine ⟨Or.inl rfl, ?_⟩
        intro o15
        refine ⟨fun c16 => ?_, fun c16 => ?_⟩
        · exact absurd c16 (by decide)
        · skip
          refine w_X12_refuse ?_
          have hB17 : Bd (uI (uI (uI I 97 1 0) 97 0 0) 97 0 5) := Bd.o0 hB2 io9_112_97_12 (by decide) bd9_12_0
          exact hQ _ _ _ _ hB17 trivial
      · exact absurd c14 (by decide)
    · skip
      rw [lg_cmp_gt] at c11
      have d18 : ((v1.toInt) : Int) ≤ (99) := cl_nlt rfl (tl_i2l rfl) c11
      refine ⟨Or.inr rfl, ?_⟩
      intro o19
      refine ⟨fun c20 => ?_, fun c20 => ?_⟩
      · exact absurd c20 (by decide)
      · skip
        refine w_X12_isIn ?_
        refine ⟨fun c21 => ?_, fun c21 => ?_⟩
        · skip
          rw [lg_cmp_lt] at c21
          have d22 : ((v2.toInt) : Int) < (1) := cl_lt (tl_i2l rfl) rfl c21
          refine ⟨Or.inl rfl, ?_⟩
          intro o23
          refine ⟨fun c24 => ?_, fun c24 => ?_⟩
          · skip
            refine ⟨Or.inl rfl, ?_⟩
            intro o25
            refine ⟨fun c26 => ?_, fun c26 => ?_⟩
            · exact absurd c26 (by decide)
            · skip
              refine w_X12_refuse ?_
              have hB27 : Bd (uI (uI (uI I 97 1 0) 97 0 0) 97 0 5) := Bd.o0 hB2 io9_112_97_12 (by decide) bd9_12_0
              exact hQ _ _ _ _ hB27 trivial
          · exact absurd c24 (by decide)
        · skip
          rw [lg_cmp_lt] at c21
          have d28 : ((1) : Int) ≤ (v2.toInt) := cl_nlt (tl_i2l rfl) rfl c21
          refine ⟨fun c29 => ?_, fun c29 => ?_⟩
          · skip
            rw [lg_cmp_gt] at c29
            have d30 : ((30) : Int) < (v2.toInt) := cl_lt rfl (tl_i2l rfl) c29
            refine ⟨Or.inl rfl, ?_⟩
            intro o31
            refine ⟨fun c32 => ?_, fun c32 => ?_⟩
            · skip
              refine ⟨Or.inl rfl, ?_⟩
              intro o33
              refine ⟨fun c34 => ?_, fun c34 => ?_⟩
              · exact absurd c34 (by decide)
              · skip
                refine w_X12_refuse ?_
                have hB35 : Bd (uI (uI (uI I 97 1 0) 97 0 0) 97 0 5) := Bd.o0 hB2 io9_112_97_12 (by decide) bd9_12_0
                exact hQ _ _ _ _ hB35 trivial
            · exact absurd c32 (by decide)
          · skip
            rw [lg_cmp_gt] at c29
            have d36 : ((v2.toInt) : Int) ≤ (30) := cl_nlt rfl (tl_i2l rfl) c29
            refine ⟨Or.inr rfl, ?_⟩
            intro o37
            refine ⟨fun c38 => ?_, fun c38 => ?_⟩
            · exact absurd c38 (by decide)
            · skip
              refine ⟨Or.inr rfl, ?_⟩
              intro o39
              refine ⟨fun c40 => ?_, fun c40 => ?_⟩
              · skip
                refine ⟨vp_of (a := 0) rfl (by first | (clear d10 d18 d28 d36; omega) | omega) (by first | (clear d10 d18 d28 d36; omega) | omega), ?_⟩
                refine ⟨fun c41 => ?_, fun c41 => ?_⟩
                · skip
                  have b42 := (Bd.c hB0 (j := 0) (z := 0) rfl).1 (by decide)
                  have e43 : (((uI (uI I 97 1 0) 97 0 0) 102 (Int32.toNatClampNeg 0)) : Int32).toInt = (I 102 0).toInt := Eq.trans (congrArg Int32.toInt (Eq.trans (Eq.trans (rd_ne (by first | decide | omega)) (rd_ne (by first | decide | omega))) rfl)) rfl
                  have d44 : ¬ (((I 102 0).toInt) : Int) = (6) := ci_ne e43 rfl c41
                  refine ⟨vp_of (a := (I 102 0).toInt) e43 (by first | (clear d10 d18 d28 d36; omega) | omega) (by first | (clear d10 d18 d28 d36; omega) | omega), ?_⟩
                  have e45 : ((34 + ((uI (uI I 97 1 0) 97 0 0) 102 (Int32.toNatClampNeg 0))) : Int32).toInt = (34) + ((I 102 0).toInt) := ti_add rfl e43 (by first | (clear d10 d18 d28 d36; omega) | omega)
                  refine ⟨vp_of (a := (34 + (I 102 0).toInt)) e45 (by first | (clear d10 d18 d28 d36; omega) | omega) (by first | (clear d10 d18 d28 d36; omega) | omega), ?_⟩
                  have hB46 : Bd (uI (uI (uI I 97 1 0) 97 0 0) 102 (Int32.toNatClampNeg (34 + ((uI (uI I 97 1 0) 97 0 0) 102 (Int32.toNatClampNeg 0)))) v1) := Bd.cfree hB2 (show ((34 + ((uI (uI I 97 1 0) 97 0 0) 102 (Int32.toNatClampNeg 0))) : Int32).toInt = (34 + (I 102 0).toInt) from e45) (by omega) (by omega) (by omega) (by omega)
                  have e47 : ((40 + ((uI (uI I 97 1 0) 97 0 0) 102 (Int32.toNatClampNeg 0))) : Int32).toInt = (40) + ((I 102 0).toInt) := ti_add rfl e43 (by first | (clear d10 d18 d28 d36; omega) | omega)
                  refine ⟨vp_of (a := (40 + (I 102 0).toInt)) e47 (by first | (clear d10 d18 d28 d36; omega) | omega) (by first | (clear d10 d18 d28 d36; omega) | omega), ?_⟩
                  have hB48 : Bd (uI (uI (uI (uI I 97 1 0) 97 0 0) 102 (Int32.toNatClampNeg (34 + ((uI (uI I 97 1 0) 97 0 0) 102 (Int32.toNatClampNeg 0)))) v1) 102 (Int32.toNatClampNeg (40 + ((uI (uI I 97 1 0) 97 0 0) 102 (Int32.toNatClampNeg 0)))) v2) := Bd.csecond hB46 (show ((40 + ((uI (uI I 97 1 0) 97 0 0) 102 (Int32.toNatClampNeg 0))) : Int32).toInt = (40 + (I 102 0).toInt) from e47) (show (v2 : Int32).toInt = v2.toInt from rfl) (by omega) (by omega) (by omega) 
                  have e49 : ((46 + ((uI (uI I 97 1 0) 97 0 0) 102 (Int32.toNatClampNeg 0))) : Int32).toInt = (46) + ((I 102 0).toInt) := ti_add rfl e43 (by first | (clear d10 d18 d28 d36; omega) | omega)
                  refine ⟨vp_of (a := (46 + (I 102 0).toInt)) e49 (by first | (clear d10 d18 d28 d36; omega) | omega) (by first | (clear d10 d18 d28 d36; omega) | omega), ?_⟩
                  have hB50 : Bd (uI (uI (uI (uI (uI I 97 1 0) 97 0 0) 102 (Int32.toNatClampNeg (34 + ((uI (uI I 97 1 0) 97 0 0) 102 (Int32.toNatClampNeg 0)))) v1) 102 (Int32.toNatClampNeg (40 + ((uI (uI I 97 1 0) 97 0 0) 102 (Int32.toNatClampNeg 0)))) v2) 102 (Int32.toNatClampNeg (46 + ((uI (uI I 97 1 0) 97 0 0) 102 (Int32.toNatClampNeg 0)))) 0) := Bd.cfree hB48 (show ((46 + ((uI (uI I 97 1 0) 97 0 0) 102 (Int32.toNatClampNeg 0))) : Int32).toInt = (46 + (I 102 0).toInt) from e49) (by omega) (by omega) (by omega) (by omega)
                  refine ⟨vp_of (a := 0) rfl (by first | (clear d10 d18 d28 d36 e43 d44 e45 e47 e49; omega) | omega) (by first | (clear d10 d18 d28 d36 e43 d44 e45 e47 e49; omega) | omega), ?_⟩
                  refine ⟨vp_of (a := 0) rfl (by first | (clear d10 d18 d28 d36 e43 d44 e45 e47 e49; omega) | omega) (by first | (clear d10 d18 d28 d36 e43 d44 e45 e47 e49; omega) | omega), ?_⟩
                  have e52 : (((uI (uI (uI (uI (uI I 97 1 0) 97 0 0) 102 (Int32.toNatClampNeg (34 + ((uI (uI I 97 1 0) 97 0 0) 102 (Int32.toNatClampNeg 0)))) v1) 102 (Int32.toNatClampNeg (40 + ((uI (uI I 97 1 0) 97 0 0) 102 (Int32.toNatClampNeg 0)))) v2) 102 (Int32.toNatClampNeg (46 + ((uI (uI I 97 1 0) 97 0 0) 102 (Int32.toNatClampNeg 0)))) 0) 102 (Int32.toNatClampNeg 0)) : Int32).toInt = (I 102 0).toInt := Eq.trans (congrArg Int32.toInt (Eq.trans (Eq.trans (Eq.trans (Eq.trans (Eq.trans (rd_k (fun z => by have z1 := tn_of (show (0 : Int32).toInt = 0 from rfl) (by omega); have z2 := tn_of (show ((46 + ((uI (uI I 97 1 0) 97 0 0) 102 (Int32.toNatClampNeg 0))) : Int32).toInt = (46 + (I 102 0).toInt) from e49) (by omega); have z0 : (0 : Nat) = (Int32.toNatClampNeg (46 + ((uI (uI I 97 1 0) 97 0 0) 102 (Int32.toNatClampNeg 0)))) := z; have z4 : Int32.toNatClampNeg 0 = 0 := rfl; omega)) (rd_k (fun z => by have z1 := tn_of (show (0 : Int32).toInt = 0 from rfl) (by omega); have z2 := tn_of (show ((40 + ((uI (uI I 97 1 0) 97 0 0) 102 (Int32.toNatClampNeg 0))) : Int32).toInt = (40 + (I 102 0).toInt) from e47) (by omega); have z0 : (0 : Nat) = (Int32.toNatClampNeg (40 + ((uI (uI I 97 1 0) 97 0 0) 102 (Int32.toNatClampNeg 0)))) := z; have z4 : Int32.toNatClampNeg 0 = 0 := rfl; omega))) (rd_k (fun z => by have z1 := tn_of (show (0 : Int32).toInt = 0 from rfl) (by omega); have z2 := tn_of (show ((34 + ((uI (uI I 97 1 0) 97 0 0) 102 (Int32.toNatClampNeg 0))) : Int32).toInt = (34 + (I 102 0).toInt) from e45) (by omega); have z0 : (0 : Nat) = (Int32.toNatClampNeg (34 + ((uI (uI I 97 1 0) 97 0 0) 102 (Int32.toNatClampNeg 0)))) := z; have z4 : Int32.toNatClampNeg 0 = 0 := rfl; omega))) (rd_ne (by first | decide | omega))) (rd_ne (by first | decide | omega))) rfl)) rfl
                  have e53 : ((((uI (uI (uI (uI (uI I 97 1 0) 97 0 0) 102 (Int32.toNatClampNeg (34 + ((uI (uI I 97 1 0) 97 0 0) 102 (Int32.toNatClampNeg 0)))) v1) 102 (Int32.toNatClampNeg (40 + ((uI (uI I 97 1 0) 97 0 0) 102 (Int32.toNatClampNeg 0)))) v2) 102 (Int32.toNatClampNeg (46 + ((uI (uI I 97 1 0) 97 0 0) 102 (Int32.toNatClampNeg 0)))) 0) 102 (Int32.toNatClampNeg 0)) + 1) : Int32).toInt = ((I 102 0).toInt) + (1) := ti_add e52 rfl (by omega)
                  have e54 : (((uI (uI (uI (uI (uI I 97 1 0) 97 0 0) 102 (Int32.toNatClampNeg (34 + ((uI (uI I 97 1 0) 97 0 0) 102 (Int32.toNatClampNeg 0)))) v1) 102 (Int32.toNatClampNeg (40 + ((uI (uI I 97 1 0) 97 0 0) 102 (Int32.toNatClampNeg 0)))) v2) 102 (Int32.toNatClampNeg (46 + ((uI (uI I 97 1 0) 97 0 0) 102 (Int32.toNatClampNeg 0)))) 0) 102 0) : Int32).toInt = (I 102 0).toInt := Eq.trans (congrArg Int32.toInt (Eq.trans (Eq.trans (Eq.trans (Eq.trans (rd_k (fun z => by have z1 := tn_of (show (0 : Int32).toInt = 0 from rfl) (by omega); have z2 := tn_of (show ((46 + ((uI (uI I 97 1 0) 97 0 0) 102 (Int32.toNatClampNeg 0))) : Int32).toInt = (46 + (I 102 0).toInt) from e49) (by omega); have z0 : (0 : Nat) = (Int32.toNatClampNeg (46 + ((uI (uI I 97 1 0) 97 0 0) 102 (Int32.toNatClampNeg 0)))) := z; have z4 : Int32.toNatClampNeg 0 = 0 := rfl; omega)) (rd_k (fun z => by have z1 := tn_of (show (0 : Int32).toInt = 0 from rfl) (by omega); have z2 := tn_of (show ((40 + ((uI (uI I 97 1 0) 97 0 0) 102 (Int32.toNatClampNeg 0))) : Int32).toInt = (40 + (I 102 0).toInt) from e47) (by omega); have z0 : (0 : Nat) = (Int32.toNatClampNeg (40 + ((uI (uI I 97 1 0) 97 0 0) 102 (Int32.toNatClampNeg 0)))) := z; have z4 : Int32.toNatClampNeg 0 = 0 := rfl; omega))) (rd_k (fun z => by have z1 := tn_of (show (0 : Int32).toInt = 0 from rfl) (by omega); have z2 := tn_of (show ((34 + ((uI (uI I 97 1 0) 97 0 0) 102 (Int32.toNatClampNeg 0))) : Int32).toInt = (34 + (I 102 0).toInt) from e45) (by omega); have z0 : (0 : Nat) = (Int32.toNatClampNeg (34 + ((uI (uI I 97 1 0) 97 0 0) 102 (Int32.toNatClampNeg 0)))) := z; have z4 : Int32.toNatClampNeg 0 = 0 := rfl; omega))) (rd_ne (by first | decide | omega))) (rd_ne (by first | decide | omega)))) rfl
                  have e55 : (((uI (uI (uI (uI (uI I 97 1 0) 97 0 0) 102 (Int32.toNatClampNeg (34 + ((uI (uI I 97 1 0) 97 0 0) 102 (Int32.toNatClampNeg 0)))) v1) 102 (Int32.toNatClampNeg (40 + ((uI (uI I 97 1 0) 97 0 0) 102 (Int32.toNatClampNeg 0)))) v2) 102 (Int32.toNatClampNeg (46 + ((uI (uI I 97 1 0) 97 0 0) 102 (Int32.toNatClampNeg 0)))) 0) 102 (Int32.toNatClampNeg (40 + ((uI (uI I 97 1 0) 97 0 0) 102 (Int32.toNatClampNeg 0))))) : Int32).toInt = v2.toInt := Eq.trans (congrArg Int32.toInt (Eq.trans (rd_k (fun z => by have z1 := tn_of (show ((40 + ((uI (uI I 97 1 0) 97 0 0) 102 (Int32.toNatClampNeg 0))) : Int32).toInt = (40 + (I 102 0).toInt) from e47) (by omega); have z2 := tn_of (show ((46 + ((uI (uI I 97 1 0) 97 0 0) 102 (Int32.toNatClampNeg 0))) : Int32).toInt = (46 + (I 102 0).toInt) from e49) (by omega); omega)) rd_eq)) rfl
                  have hB51 : Bd (uI (uI (uI (uI (uI (uI I 97 1 0) 97 0 0) 102 (Int32.toNatClampNeg (34 + ((uI (uI I 97 1 0) 97 0 0) 102 (Int32.toNatClampNeg 0)))) v1) 102 (Int32.toNatClampNeg (40 + ((uI (uI I 97 1 0) 97 0 0) 102 (Int32.toNatClampNeg 0)))) v2) 102 (Int32.toNatClampNeg (46 + ((uI (uI I 97 1 0) 97 0 0) 102 (Int32.toNatClampNeg 0)))) 0) 102 (Int32.toNatClampNeg 0) (((uI (uI (uI (uI (uI I 97 1 0) 97 0 0) 102 (Int32.toNatClampNeg (34 + ((uI (uI I 97 1 0) 97 0 0) 102 (Int32.toNatClampNeg 0)))) v1) 102 (Int32.toNatClampNeg (40 + ((uI (uI I 97 1 0) 97 0 0) 102 (Int32.toNatClampNeg 0)))) v2) 102 (Int32.toNatClampNeg (46 + ((uI (uI I 97 1 0) 97 0 0) 102 (Int32.toNatClampNeg 0)))) 0) 102 (Int32.toNatClampNeg 0)) + 1)) := Bd.cmen hB50 (m := 0) (b := 0) rfl rfl (by decide) (by have z1 : ((((uI (uI (uI (uI (uI I 97 1 0) 97 0 0) 102 (Int32.toNatClampNeg (34 + ((uI (uI I 97 1 0) 97 0 0) 102 (Int32.toNatClampNeg 0)))) v1) 102 (Int32.toNatClampNeg (40 + ((uI (uI I 97 1 0) 97 0 0) 102 (Int32.toNatClampNeg 0)))) v2) 102 (Int32.toNatClampNeg (46 + ((uI (uI I 97 1 0) 97 0 0) 102 (Int32.toNatClampNeg 0)))) 0) 102 (Int32.toNatClampNeg 0)) + 1) : Int32).toInt = ((I 102 0).toInt + 1) := e53; have z2 : ((uI (uI (uI (uI (uI I 97 1 0) 97 0 0) 102 (Int32.toNatClampNeg (34 + ((uI (uI I 97 1 0) 97 0 0) 102 (Int32.toNatClampNeg 0)))) v1) 102 (Int32.toNatClampNeg (40 + ((uI (uI I 97 1 0) 97 0 0) 102 (Int32.toNatClampNeg 0)))) v2) 102 (Int32.toNatClampNeg (46 + ((uI (uI I 97 1 0) 97 0 0) 102 (Int32.toNatClampNeg 0)))) 0) 102 0).toInt = (I 102 0).toInt := e54; omega) (by have z1 : ((((uI (uI (uI (uI (uI I 97 1 0) 97 0 0) 102 (Int32.toNatClampNeg (34 + ((uI (uI I 97 1 0) 97 0 0) 102 (Int32.toNatClampNeg 0)))) v1) 102 (Int32.toNatClampNeg (40 + ((uI (uI I 97 1 0) 97 0 0) 102 (Int32.toNatClampNeg 0)))) v2) 102 (Int32.toNatClampNeg (46 + ((uI (uI I 97 1 0) 97 0 0) 102 (Int32.toNatClampNeg 0)))) 0) 102 (Int32.toNatClampNeg 0)) + 1) : Int32).toInt = ((I 102 0).toInt + 1) := e53; omega) (w := (40 + ((uI (uI I 97 1 0) 97 0 0) 102 (Int32.toNatClampNeg 0)))) (by have z1 := tn_of (show ((40 + ((uI (uI I 97 1 0) 97 0 0) 102 (Int32.toNatClampNeg 0))) : Int32).toInt = (40 + (I 102 0).toInt) from e47) (by omega); have z2 : ((uI (uI (uI (uI (uI I 97 1 0) 97 0 0) 102 (Int32.toNatClampNeg (34 + ((uI (uI I 97 1 0) 97 0 0) 102 (Int32.toNatClampNeg 0)))) v1) 102 (Int32.toNatClampNeg (40 + ((uI (uI I 97 1 0) 97 0 0) 102 (Int32.toNatClampNeg 0)))) v2) 102 (Int32.toNatClampNeg (46 + ((uI (uI I 97 1 0) 97 0 0) 102 (Int32.toNatClampNeg 0)))) 0) 102 0).toInt = (I 102 0).toInt := e54; omega) (by have z1 : ((uI (uI (uI (uI (uI I 97 1 0) 97 0 0) 102 (Int32.toNatClampNeg (34 + ((uI (uI I 97 1 0) 97 0 0) 102 (Int32.toNatClampNeg 0)))) v1) 102 (Int32.toNatClampNeg (40 + ((uI (uI I 97 1 0) 97 0 0) 102 (Int32.toNatClampNeg 0)))) v2) 102 (Int32.toNatClampNeg (46 + ((uI (uI I 97 1 0) 97 0 0) 102 (Int32.toNatClampNeg 0)))) 0) 102 (Int32.toNatClampNeg (40 + ((uI (uI I 97 1 0) 97 0 0) 102 (Int32.toNatClampNeg 0))))).toInt = v2.toInt := e55; omega)
                  exact hQ _ _ _ _ hB51 trivial
                · skip
                  have b56 := (Bd.c hB0 (j := 0) (z := 0) rfl).1 (by decide)
                  have e57 : (((uI (uI I 97 1 0) 97 0 0) 102 (Int32.toNatClampNeg 0)) : Int32).toInt = (I 102 0).toInt := Eq.trans (congrArg Int32.toInt (Eq.trans (Eq.trans (rd_ne (by first | decide | omega)) (rd_ne (by first | decide | omega))) rfl)) rfl
                  have d58 : (((I 102 0).toInt) : Int) = (6) := ci_eq e57 rfl c41
                  refine w_X12_refuse ?_
                  have hB59 : Bd (uI (uI (uI I 97 1 0) 97 0 0) 97 0 7) := Bd.o0 hB2 io9_112_97_12 (by decide) bd9_12_0
                  exact hQ _ _ _ _ hB59 trivial
              · exact absurd c40 (by decide)
set_option maxHeartbeats 2000000 in
theorem sp_X12_lackOf {d : Nat} {Q : Qt} {v1 : Int32} {I : Im} {J : Jm} {R : Rm} (hB0 : Bd I) (hR0 : RI R) (hv1 : 0 ≤ v1.toInt ∧ v1.toInt < (I 102 0).toInt) (hQ : ∀ (x : Int32) (y : Int64) (I2 : Im) (J2 : Jm), Bd I2 → (I = I2) → Q x y I2 J2 R) : AM (d + 3) 244 112 [.ref 97, .int v1] I J R Q := by
  have i_v1 := i32 v1
  refine w_X12_lackOf ?_
  have hdv := Bd.div0 hB0 hv1.1 hv1.2
  have e1 : ((34 + v1) : Int32).toInt = (34) + (v1.toInt) := ti_add rfl rfl (by omega)
  refine ⟨vp_of (a := (34 + v1.toInt)) e1 (by omega) (by omega), ?_⟩
  have e2 : ((40 + v1) : Int32).toInt = (40) + (v1.toInt) := ti_add rfl rfl (by omega)
  refine ⟨vp_of (a := (40 + v1.toInt)) e2 (by omega) (by omega), ?_⟩
  refine w_X12_shareOf ?_
  have i3 := i32 ((I 102 (Int32.toNatClampNeg (40 + v1))))
  refine ⟨(fun z => by have z2 : ((I 102 (Int32.toNatClampNeg (40 + v1))).toInt : Int) = 0 := cl_eq (tl_i2l rfl) rfl z; omega), ?_⟩
  have e4 : ((46 + v1) : Int32).toInt = (46) + (v1.toInt) := ti_add rfl rfl (by omega)
  refine ⟨vp_of (a := (46 + v1.toInt)) e4 (by omega) (by omega), ?_⟩
  refine sp_X12_sumOf hB0 hR0 (fun x5 y10 I6 J7 hB8 p9 => ?_)
  subst p9
  exact hQ _ _ _ _ hB0 rfl
set_option maxHeartbeats 2000000 in
theorem sp_X12_evenOnes {d : Nat} {Q : Qt} {I : Im} {J : Jm} {R : Rm} (hB0 : Bd I) (hR0 : RI R) (hQ : ∀ (x : Int32) (y : Int64) (I2 : Im) (J2 : Jm), Bd I2 → (I = I2) → Q x y I2 J2 R) : AM (d + 4) 247 112 [.ref 97] I J R Q := by
  refine am_X12_evenOnes (fun P hc => ?_)
  have L : ∀ n : Nat, (∀ (v1 : Int32) (v2 : Int32) (M : Im) (JM : Jm), Bd M → I = M → (0 ≤ v2.toInt ∧ v2.toInt ≤ 6) → 10 - v2.toInt < (n : Int) → P 4 112 [(0, .ref 97), (1, .int v1), (2, .int v2)] [] M JM R) := by
    intro n
    induction n with
    | zero =>
      exact fun v1 v2 M J _ _ hi hm => absurd hm (by omega)
    | succ n ih =>
      intro v1 v2 M JM hB hM hi hm
      have i_v1 := i32 v1
      have i_v2 := i32 v2
      refine sg_X12_evenOnes_4 hc _ _ _ _ _ ?_
      subst hM
      refine ⟨vp_of (a := 0) rfl (by omega) (by omega), ?_⟩
      refine ⟨fun c1 => ?_, fun c1 => ?_⟩
      · skip
        have b2 := (Bd.c hB0 (j := 0) (z := 0) rfl).1 (by decide)
        have e3 : ((I 102 (Int32.toNatClampNeg 0)) : Int32).toInt = (I 102 0).toInt := Eq.trans (congrArg Int32.toInt rfl) rfl
        have d4 : (((I 102 0).toInt) : Int) ≤ (v2.toInt) := ci_le e3 rfl c1
        exact hQ _ _ _ _ hB0 rfl
      · skip
        have b5 := (Bd.c hB0 (j := 0) (z := 0) rfl).1 (by decide)
        have e6 : ((I 102 (Int32.toNatClampNeg 0)) : Int32).toInt = (I 102 0).toInt := Eq.trans (congrArg Int32.toInt rfl) rfl
        have d7 : ((v2.toInt) : Int) < ((I 102 0).toInt) := ci_nle e6 rfl c1
        refine sp_X12_lackOf hB0 hR0 (by have z : (v2 : Int32).toInt = v2.toInt := rfl; have z2 : ((I 102 0) : Int32).toInt = (I 102 0).toInt := rfl; have z3 := Bd.men hB0; omega) (fun x8 y13 I9 J10 hB11 p12 => ?_)
        subst p12
        refine ⟨fun c14 => ?_, fun c14 => ?_⟩
        · skip
          rw [lg_cmp_eq] at c14
          have d15 : ¬ (((y13 : Int64).toInt) : Int) = (0) := cl_ne rfl rfl c14
          have e16 : ((v2 + 1) : Int32).toInt = (v2.toInt) + (1) := ti_add rfl rfl (by omega)
          exact ih _ _ _ _ hB0 rfl (by have q0 : ((v2 + 1) : Int32).toInt = (v2.toInt + 1) := e16; omega) (by have q0 : ((v2 + 1) : Int32).toInt = (v2.toInt + 1) := e16; omega)
        · skip
          rw [lg_cmp_eq] at c14
          have d17 : (((y13 : Int64).toInt) : Int) = (0) := cl_eq rfl rfl c14
          have e18 : ((v2 + 1) : Int32).toInt = (v2.toInt) + (1) := ti_add rfl rfl (by omega)
          exact ih _ _ _ _ hB0 rfl (by have q0 : ((v2 + 1) : Int32).toInt = (v2.toInt + 1) := e18; omega) (by have q0 : ((v2 + 1) : Int32).toInt = (v2.toInt + 1) := e18; omega)
  refine sg_X12_evenOnes_0 hc _ _ _ ?_
  exact (L 1000000) _ _ _ _ hB0 rfl (by have q0 : (0 : Int32).toInt = 0 := rfl; omega) (by have q0 : (0 : Int32).toInt = 0 := rfl; omega)
set_option maxHeartbeats 2000000 in
theorem sp_X12_many {d : Nat} {Q : Qt} {v1 : Int32} {I : Im} {J : Jm} {R : Rm} (hB0 : Bd I) (hR0 : RI R) (hQ : ∀ (x : Int32) (y : Int64) (I2 : Im) (J2 : Jm), Bd I2 → (True) → Q x y I2 J2 R) : AM (d + 5) 248 112 [.ref 97, .int v1] I J R Q := by
  have i_v1 := i32 v1
  refine w_X12_many ?_
  have hB1 : Bd (uI I 97 1 0) := Bd.o0 hB0 io9_112_97_12 (by decide) bd9_12_1
  have hB2 : Bd (uI (uI I 97 1 0) 97 0 0) := Bd.o0 hB1 io9_112_97_12 (by decide) bd9_12_0
  refine w_X12_isIn ?_
  refine ⟨fun c3 => ?_, fun c3 => ?_⟩
  · skip
    rw [lg_cmp_lt] at c3
    have d4 : ((v1.toInt) : Int) < (0) := cl_lt (tl_i2l rfl) rfl c3
    refine ⟨Or.inl rfl, ?_⟩
    intro o5
    refine ⟨fun c6 => ?_, fun c6 => ?_⟩
    · exact absurd c6 (by decide)
    · skip
      refine w_X12_refuse ?_
      have hB7 : Bd (uI (uI (uI I 97 1 0) 97 0 0) 97 0 5) := Bd.o0 hB2 io9_112_97_12 (by decide) bd9_12_0
      exact hQ _ _ _ _ hB7 trivial
  · skip
    rw [lg_cmp_lt] at c3
    have d8 : ((0) : Int) ≤ (v1.toInt) := cl_nlt (tl_i2l rfl) rfl c3
    refine ⟨fun c9 => ?_, fun c9 => ?_⟩
    · skip
      rw [lg_cmp_gt] at c9
      have d10 : ((6) : Int) < (v1.toInt) := cl_lt rfl (tl_i2l rfl) c9
      refine ⟨Or.inl rfl, ?_⟩
      intro o11
      refine ⟨fun c12 => ?_, fun c12 => ?_⟩
      · exact absurd c12 (by decide)
      · skip
        refine w_X12_refuse ?_
        have hB13 : Bd (uI (uI (uI I 97 1 0) 97 0 0) 97 0 5) := Bd.o0 hB2 io9_112_97_12 (by decide) bd9_12_0
        exact hQ _ _ _ _ hB13 trivial
    · skip
      rw [lg_cmp_gt] at c9
      have d14 : ((v1.toInt) : Int) ≤ (6) := cl_nlt rfl (tl_i2l rfl) c9
      refine ⟨Or.inr rfl, ?_⟩
      intro o15
      refine ⟨fun c16 => ?_, fun c16 => ?_⟩
      · skip
        refine ⟨fun c17 => ?_, fun c17 => ?_⟩
        · skip
          have d18 : ¬ ((v1.toInt) : Int) = (0) := ci_ne rfl rfl c17
          refine ⟨fun c19 => ?_, fun c19 => ?_⟩
          · skip
            have d20 : ¬ ((v1.toInt) : Int) = (1) := ci_ne rfl rfl c19
            refine ⟨fun c21 => ?_, fun c21 => ?_⟩
            · skip
              have d22 : ¬ ((v1.toInt) : Int) = (2) := ci_ne rfl rfl c21
              refine ⟨fun c23 => ?_, fun c23 => ?_⟩
              · skip
                have d24 : ¬ ((v1.toInt) : Int) = (3) := ci_ne rfl rfl c23
                refine ⟨fun c25 => ?_, fun c25 => ?_⟩
                · skip
                  have d26 : ¬ ((v1.toInt) : Int) = (4) := ci_ne rfl rfl c25
                  refine ⟨fun c27 => ?_, fun c27 => ?_⟩
                  · skip
                    have d28 : ¬ ((v1.toInt) : Int) = (5) := ci_ne rfl rfl c27
                    refine sp_X12_evenOnes hB2 hR0 (fun x29 y34 I30 J31 hB32 p33 => ?_)
                    subst p33
                    have i35 := i32 x29
                    exact hQ _ _ _ _ hB2 trivial
                  · skip
                    have d36 : ((v1.toInt) : Int) = (5) := ci_eq rfl rfl c27
                    refine ⟨vp_of (a := 2) rfl (by first | (clear d8 d14 d18 d20 d22 d24 d26 d36; omega) | omega) (by first | (clear d8 d14 d18 d20 d22 d24 d26 d36; omega) | omega), ?_⟩
                    exact hQ _ _ _ _ hB2 trivial
                · skip
                  have d37 : ((v1.toInt) : Int) = (4) := ci_eq rfl rfl c25
                  refine ⟨vp_of (a := 3) rfl (by first | (clear d8 d14 d18 d20 d22 d24 d37; omega) | omega) (by first | (clear d8 d14 d18 d20 d22 d24 d37; omega) | omega), ?_⟩
                  exact hQ _ _ _ _ hB2 trivial
              · skip
                have d38 : ((v1.toInt) : Int) = (3) := ci_eq rfl rfl c23
                refine ⟨vp_of (a := 1) rfl (by first | (clear d8 d14 d18 d20 d22 d38; omega) | omega) (by first | (clear d8 d14 d18 d20 d22 d38; omega) | omega), ?_⟩
                exact hQ _ _ _ _ hB2 trivial
            · skip
              have d39 : ((v1.toInt) : Int) = (2) := ci_eq rfl rfl c21
              refine sp_X12_heldSet hB2 hR0 (fun x40 y45 I41 J42 hB43 p44 => ?_)
              subst p44
              have i46 := i32 x40
              refine sp_X12_sizeOf hB2 hR0 (fun x47 y52 I48 J49 hB50 p51 => ?_)
              obtain ⟨heI48, p51⟩ := p51
              subst heI48
              have i53 := i32 x47
              exact hQ _ _ _ _ hB2 trivial
          · skip
            have d54 : ((v1.toInt) : Int) = (1) := ci_eq rfl rfl c19
            refine sp_X12_held hB2 hR0 (fun x55 y60 I56 J57 hB58 p59 => ?_)
            subst p59
            have i61 := i32 x55
            exact hQ _ _ _ _ hB2 trivial
        · skip
          have d62 : ((v1.toInt) : Int) = (0) := ci_eq rfl rfl c17
          refine ⟨vp_of (a := 0) rfl (by omega) (by omega), ?_⟩
          exact hQ _ _ _ _ hB2 trivial
      · exact absurd c16 (by decide)
set_option maxHeartbeats 2000000 in
theorem sp_X12_has {d : Nat} {Q : Qt} {v1 : Int32} {I : Im} {J : Jm} {R : Rm} (hB0 : Bd I) (hR0 : RI R) (hQ : ∀ (x : Int32) (y : Int64) (I2 : Im) (J2 : Jm), Bd I2 → (True) → Q x y I2 J2 R) : AM (d + 3) 251 112 [.ref 97, .int v1] I J R Q := by
  have i_v1 := i32 v1
  refine w_X12_has ?_
  have hB1 : Bd (uI I 97 1 0) := Bd.o0 hB0 io9_112_97_12 (by decide) bd9_12_1
  have hB2 : Bd (uI (uI I 97 1 0) 97 0 0) := Bd.o0 hB1 io9_112_97_12 (by decide) bd9_12_0
  refine w_X12_isManAt ?_
  refine ⟨vp_of (a := 0) rfl (by omega) (by omega), ?_⟩
  refine w_X12_isIn ?_
  refine ⟨fun c3 => ?_, fun c3 => ?_⟩
  · skip
    rw [lg_cmp_lt] at c3
    have d4 : ((v1.toInt) : Int) < (0) := cl_lt (tl_i2l rfl) rfl c3
    refine ⟨Or.inl rfl, ?_⟩
    intro o5
    refine ⟨Or.inl rfl, ?_⟩
    intro o6
    refine ⟨fun c7 => ?_, fun c7 => ?_⟩
    · skip
      refine w_X12_no ?_
      have hB8 : Bd (uI (uI (uI I 97 1 0) 97 0 0) 97 0 2) := Bd.o0 hB2 io9_112_97_12 (by decide) bd9_12_0
      refine ⟨Or.inl rfl, ?_⟩
      intro o9
      refine ⟨Or.inl rfl, ?_⟩
      exact hQ _ _ _ _ hB8 trivial
    · exact absurd c7 (by decide)
  · skip
    rw [lg_cmp_lt] at c3
    have d10 : ((0) : Int) ≤ (v1.toInt) := cl_nlt (tl_i2l rfl) rfl c3
    refine ⟨fun c11 => ?_, fun c11 => ?_⟩
    · skip
      rw [lg_cmp_gt] at c11
      have b12 := (Bd.c hB0 (j := 0) (z := 0) rfl).1 (by decide)
      have e13 : (((uI (uI I 97 1 0) 97 0 0) 102 (Int32.toNatClampNeg 0)) : Int32).toInt = (I 102 0).toInt := Eq.trans (congrArg Int32.toInt (Eq.trans (Eq.trans (rd_ne (by first | decide | omega)) (rd_ne (by first | decide | omega))) rfl)) rfl
      have e14 : ((((uI (uI I 97 1 0) 97 0 0) 102 (Int32.toNatClampNeg 0)) - 1) : Int32).toInt = ((I 102 0).toInt) - (1) := ti_sub e13 rfl (by omega)
      have i15 := i32 ((((uI (uI I 97 1 0) 97 0 0) 102 (Int32.toNatClampNeg 0)) - 1))
      have d16 : ((((I 102 0).toInt - 1)) : Int) < (v1.toInt) := cl_lt (tl_i2l e14) (tl_i2l rfl) c11
      refine ⟨Or.inl rfl, ?_⟩
      intro o17
      refine ⟨Or.inl rfl, ?_⟩
      intro o18
      refine ⟨fun c19 => ?_, fun c19 => ?_⟩
      · skip
        refine w_X12_no ?_
        have hB20 : Bd (uI (uI (uI I 97 1 0) 97 0 0) 97 0 2) := Bd.o0 hB2 io9_112_97_12 (by decide) bd9_12_0
        refine ⟨Or.inl rfl, ?_⟩
        intro o21
        refine ⟨Or.inl rfl, ?_⟩
        exact hQ _ _ _ _ hB20 trivial
      · exact absurd c19 (by decide)
    · skip
      rw [lg_cmp_gt] at c11
      have b22 := (Bd.c hB0 (j := 0) (z := 0) rfl).1 (by decide)
      have e23 : (((uI (uI I 97 1 0) 97 0 0) 102 (Int32.toNatClampNeg 0)) : Int32).toInt = (I 102 0).toInt := Eq.trans (congrArg Int32.toInt (Eq.trans (Eq.trans (rd_ne (by first | decide | omega)) (rd_ne (by first | decide | omega))) rfl)) rfl
      have e24 : ((((uI (uI I 97 1 0) 97 0 0) 102 (Int32.toNatClampNeg 0)) - 1) : Int32).toInt = ((I 102 0).toInt) - (1) := ti_sub e23 rfl (by omega)
      have i25 := i32 ((((uI (uI I 97 1 0) 97 0 0) 102 (Int32.toNatClampNeg 0)) - 1))
      have d26 : ((v1.toInt) : Int) ≤ (((I 102 0).toInt - 1)) := cl_nlt (tl_i2l e24) (tl_i2l rfl) c11
      refine ⟨Or.inr rfl, ?_⟩
      intro o27
      refine ⟨Or.inr rfl, ?_⟩
      intro o28
      refine ⟨fun c29 => ?_, fun c29 => ?_⟩
      · exact absurd c29 (by decide)
      · skip
        have e30 : ((46 + v1) : Int32).toInt = (46) + (v1.toInt) := ti_add rfl rfl (by omega)
        refine ⟨vp_of (a := (46 + v1.toInt)) e30 (by omega) (by omega), ?_⟩
        refine sp_X12_sumOf hB2 hR0 (fun x31 y36 I32 J33 hB34 p35 => ?_)
        subst p35
        refine sp_X12_fraction hB2 hR0 (by decide) (fun x37 y42 I38 J39 hB40 p41 => ?_)
        intro o43
        have i44 := i32 x37
        refine ⟨o43, ?_⟩
        exact hQ _ _ _ _ hB40 trivial
set_option maxHeartbeats 2000000 in
theorem sp_X12_lacks {d : Nat} {Q : Qt} {v1 : Int32} {I : Im} {J : Jm} {R : Rm} (hB0 : Bd I) (hR0 : RI R) (hQ : ∀ (x : Int32) (y : Int64) (I2 : Im) (J2 : Jm), Bd I2 → (True) → Q x y I2 J2 R) : AM (d + 4) 252 112 [.ref 97, .int v1] I J R Q := by
  have i_v1 := i32 v1
  refine w_X12_lacks ?_
  have hB1 : Bd (uI I 97 1 0) := Bd.o0 hB0 io9_112_97_12 (by decide) bd9_12_1
  have hB2 : Bd (uI (uI I 97 1 0) 97 0 0) := Bd.o0 hB1 io9_112_97_12 (by decide) bd9_12_0
  refine w_X12_isManAt ?_
  refine ⟨vp_of (a := 0) rfl (by omega) (by omega), ?_⟩
  refine w_X12_isIn ?_
  refine ⟨fun c3 => ?_, fun c3 => ?_⟩
  · skip
    rw [lg_cmp_lt] at c3
    have d4 : ((v1.toInt) : Int) < (0) := cl_lt (tl_i2l rfl) rfl c3
    refine ⟨Or.inl rfl, ?_⟩
    intro o5
    refine ⟨Or.inl rfl, ?_⟩
    intro o6
    refine ⟨fun c7 => ?_, fun c7 => ?_⟩
    · skip
      refine w_X12_no ?_
      have hB8 : Bd (uI (uI (uI I 97 1 0) 97 0 0) 97 0 2) := Bd.o0 hB2 io9_112_97_12 (by decide) bd9_12_0
      refine ⟨Or.inl rfl, ?_⟩
      intro o9
      refine ⟨Or.inl rfl, ?_⟩
      exact hQ _ _ _ _ hB8 trivial
    · exact absurd c7 (by decide)
  · skip
    rw [lg_cmp_lt] at c3
    have d10 : ((0) : Int) ≤ (v1.toInt) := cl_nlt (tl_i2l rfl) rfl c3
    refine ⟨fun c11 => ?_, fun c11 => ?_⟩
    · skip
      rw [lg_cmp_gt] at c11
      have b12 := (Bd.c hB0 (j := 0) (z := 0) rfl).1 (by decide)
      have e13 : (((uI (uI I 97 1 0) 97 0 0) 102 (Int32.toNatClampNeg 0)) : Int32).toInt = (I 102 0).toInt := Eq.trans (congrArg Int32.toInt (Eq.trans (Eq.trans (rd_ne (by first | decide | omega)) (rd_ne (by first | decide | omega))) rfl)) rfl
      have e14 : ((((uI (uI I 97 1 0) 97 0 0) 102 (Int32.toNatClampNeg 0)) - 1) : Int32).toInt = ((I 102 0).toInt) - (1) := ti_sub e13 rfl (by omega)
      have i15 := i32 ((((uI (uI I 97 1 0) 97 0 0) 102 (Int32.toNatClampNeg 0)) - 1))
      have d16 : ((((I 102 0).toInt - 1)) : Int) < (v1.toInt) := cl_lt (tl_i2l e14) (tl_i2l rfl) c11
      refine ⟨Or.inl rfl, ?_⟩
      intro o17
      refine ⟨Or.inl rfl, ?_⟩
      intro o18
      refine ⟨fun c19 => ?_, fun c19 => ?_⟩
      · skip
        refine w_X12_no ?_
        have hB20 : Bd (uI (uI (uI I 97 1 0) 97 0 0) 97 0 2) := Bd.o0 hB2 io9_112_97_12 (by decide) bd9_12_0
        refine ⟨Or.inl rfl, ?_⟩
        intro o21
        refine ⟨Or.inl rfl, ?_⟩
        exact hQ _ _ _ _ hB20 trivial
      · exact absurd c19 (by decide)
    · skip
      rw [lg_cmp_gt] at c11
      have b22 := (Bd.c hB0 (j := 0) (z := 0) rfl).1 (by decide)
      have e23 : (((uI (uI I 97 1 0) 97 0 0) 102 (Int32.toNatClampNeg 0)) : Int32).toInt = (I 102 0).toInt := Eq.trans (congrArg Int32.toInt (Eq.trans (Eq.trans (rd_ne (by first | decide | omega)) (rd_ne (by first | decide | omega))) rfl)) rfl
      have e24 : ((((uI (uI I 97 1 0) 97 0 0) 102 (Int32.toNatClampNeg 0)) - 1) : Int32).toInt = ((I 102 0).toInt) - (1) := ti_sub e23 rfl (by omega)
      have i25 := i32 ((((uI (uI I 97 1 0) 97 0 0) 102 (Int32.toNatClampNeg 0)) - 1))
      have d26 : ((v1.toInt) : Int) ≤ (((I 102 0).toInt - 1)) := cl_nlt (tl_i2l e24) (tl_i2l rfl) c11
      refine ⟨Or.inr rfl, ?_⟩
      intro o27
      refine ⟨Or.inr rfl, ?_⟩
      intro o28
      refine ⟨fun c29 => ?_, fun c29 => ?_⟩
      · exact absurd c29 (by decide)
      · skip
        have e30 : (((uI (uI I 97 1 0) 97 0 0) 102 0) : Int32).toInt = (I 102 0).toInt := Eq.trans (congrArg Int32.toInt (Eq.trans (rd_ne (by first | decide | omega)) (rd_ne (by first | decide | omega)))) rfl
        refine sp_X12_lackOf hB2 hR0 (by have z : (v1 : Int32).toInt = v1.toInt := rfl; have z2 : (((uI (uI I 97 1 0) 97 0 0) 102 0) : Int32).toInt = (I 102 0).toInt := e30; have z3 := Bd.men hB0; omega) (fun x31 y36 I32 J33 hB34 p35 => ?_)
        subst p35
        refine sp_X12_fraction hB2 hR0 (by decide) (fun x37 y42 I38 J39 hB40 p41 => ?_)
        intro o43
        have i44 := i32 x37
        refine ⟨o43, ?_⟩
        exact hQ _ _ _ _ hB40 trivial
set_option maxHeartbeats 2000000 in
theorem sp_X12_worth {d : Nat} {Q : Qt} {I : Im} {J : Jm} {R : Rm} (hB0 : Bd I) (hR0 : RI R) (hQ : ∀ (x : Int32) (y : Int64) (I2 : Im) (J2 : Jm), Bd I2 → ((x.toInt = 1)) → Q x y I2 J2 R) : AM (d + 2) 253 112 [.ref 97] I J R Q := by
  refine am_X12_worth (fun P hc => ?_)
  have L : ∀ n : Nat, (∀ (v1 : Int64) (v3 : Int32) (M : Im) (JM : Jm), Bd M → (1 ≤ v3.toInt ∧ v3.toInt ≤ 31) → 40 - v3.toInt < (n : Int) → P 14 112 [(0, .ref 97), (1, .long v1), (3, .int v3)] [] M JM R) := by
    intro n
    induction n with
    | zero =>
      exact fun v1 v3 M J _ hi hm => absurd hm (by omega)
    | succ n ih =>
      intro v1 v3 M JM hB hi hm
      have i_v1 := i64 v1
      have i_v3 := i32 v3
      refine sg_X12_worth_14 hc _ _ _ _ _ ?_
      refine ⟨fun c1 => ?_, fun c1 => ?_⟩
      · skip
        have d2 : ((30) : Int) < (v3.toInt) := ci_lt rfl rfl c1
        refine sp_X12_fraction hB hR0 (by decide) (fun x3 y8 I4 J5 hB6 p7 => ?_)
        intro o9
        have i10 := i32 x3
        refine ⟨o9, ?_⟩
        exact hQ _ _ _ _ hB6 (by have q0 : (x3 : Int32).toInt = x3.toInt := rfl; omega)
      · skip
        have d11 : ((v3.toInt) : Int) ≤ (30) := ci_nlt rfl rfl c1
        have e12 : ((4 + v3) : Int32).toInt = (4) + (v3.toInt) := ti_add rfl rfl (by omega)
        have e13 : (((4 + v3) - 1) : Int32).toInt = ((4 + v3.toInt)) - (1) := ti_sub e12 rfl (by omega)
        refine ⟨vp_of (a := ((4 + v3.toInt) - 1)) e13 (by omega) (by omega), ?_⟩
        refine w_X12_partsOf ?_
        refine ⟨(fun z => by have z2 : (v3.toInt : Int) = 0 := cl_eq (tl_i2l rfl) rfl z; omega), ?_⟩
        have e14 : ((v3 + 1) : Int32).toInt = (v3.toInt) + (1) := ti_add rfl rfl (by omega)
        exact ih _ _ _ _ hB (by have q0 : ((v3 + 1) : Int32).toInt = (v3.toInt + 1) := e14; omega) (by have q0 : ((v3 + 1) : Int32).toInt = (v3.toInt + 1) := e14; omega)
  refine sg_X12_worth_0 hc _ _ _ ?_
  have hB15 : Bd (uI I 97 1 0) := Bd.o0 hB0 io9_112_97_12 (by decide) bd9_12_1
  have hB16 : Bd (uI (uI I 97 1 0) 97 0 0) := Bd.o0 hB15 io9_112_97_12 (by decide) bd9_12_0
  exact (L 1000000) _ _ _ _ hB16 (by have q0 : (1 : Int32).toInt = 1 := rfl; omega) (by have q0 : (1 : Int32).toInt = 1 := rfl; omega)
set_option maxHeartbeats 2000000 in
theorem sp_X12_fillOf {d : Nat} {Q : Qt} {v1 : Int32} {I : Im} {J : Jm} {R : Rm} (hB0 : Bd I) (hR0 : RI R) (hv1 : 0 ≤ v1.toInt ∧ v1.toInt < (I 102 0).toInt) (hQ : ∀ (x : Int32) (y : Int64) (I2 : Im) (J2 : Jm), Bd I2 → (Fr pT I I2 ∧ (-1 ≤ x.toInt ∧ x.toInt ≤ 5)) → Q x y I2 J2 R) : AM (d + 12) 293 112 [.ref 97, .int v1] I J R Q := by
  have i_v1 := i32 v1
  refine w_X12_fillOf ?_
  have b1 := (Bd.c hB0 (j := 0) (z := 0) rfl).1 (by decide)
  refine sp_X12_lackOf hB0 hR0 (by have z : (v1 : Int32).toInt = v1.toInt := rfl; have z2 : ((I 102 0) : Int32).toInt = (I 102 0).toInt := rfl; have z3 := Bd.men hB0; omega) (fun x2 y7 I3 J4 hB5 p6 => ?_)
  subst p6
  refine ⟨fun c8 => ?_, fun c8 => ?_⟩
  · skip
    rw [lg_cmp_ge] at c8
    have d9 : ((0) : Int) ≤ ((y7 : Int64).toInt) := cl_le rfl rfl c8
    refine sp_X12_heldSet hB0 hR0 (fun x10 y15 I11 J12 hB13 p14 => ?_)
    subst p14
    have i16 := i32 x10
    have e17 : ((46 + v1) : Int32).toInt = (46) + (v1.toInt) := ti_add rfl rfl (by first | (clear p6 d9 p14 i16; omega) | omega)
    refine ⟨vp_of (a := (46 + v1.toInt)) e17 (by first | (clear p6 d9 p14 i16; omega) | omega) (by first | (clear p6 d9 p14 i16; omega) | omega), ?_⟩
    refine kp102 rfl hR0 rfl (sp_X12_fewestOf hB0 hR0 (by have z3 : (0 : Int32).toInt = 0 := rfl; omega) (fun x18 y23 I19 J20 hB21 p22 w24 => ?_))
    have f25 : Fr pT I I19 := ⟨fun j _ => congrFun w24.1 j, w24.2⟩
    have f26 : Fr pT I I19 := Fr.tr (Fr.refl _ _) f25 (fun _ _ => trivial)
    have q27 : (0 : Int32).toInt = 0 := rfl
    have i28 := i32 x18
    exact hQ _ _ _ _ hB21 ⟨f26, (by have q0 : (x18 : Int32).toInt = x18.toInt := rfl; omega)⟩
  · skip
    rw [lg_cmp_ge] at c8
    have d29 : (((y7 : Int64).toInt) : Int) < (0) := cl_nle rfl rfl c8
    exact hQ _ _ _ _ hB0 ⟨(Fr.refl _ _), (by have q0 : ((-1) : Int32).toInt = (-1) := rfl; omega)⟩
set_option maxHeartbeats 2000000 in
theorem sp_X12_fill {d : Nat} {Q : Qt} {v1 : Int32} {I : Im} {J : Jm} {R : Rm} (hB0 : Bd I) (hR0 : RI R) (hQ : ∀ (x : Int32) (y : Int64) (I2 : Im) (J2 : Jm), Bd I2 → (Fr pT I I2) → Q x y I2 J2 R) : AM (d + 13) 294 112 [.ref 97, .int v1] I J R Q := by
  have i_v1 := i32 v1
  refine w_X12_fill ?_
  have hB1 : Bd (uI I 97 1 0) := Bd.o0 hB0 io9_112_97_12 (by decide) bd9_12_1
  have f2 : Fr pT I (uI I 97 1 0) := Fr.o (Fr.refl _ _) (by decide) (by decide)
  have hB3 : Bd (uI (uI I 97 1 0) 97 0 0) := Bd.o0 hB1 io9_112_97_12 (by decide) bd9_12_0
  have f4 : Fr pT I (uI (uI I 97 1 0) 97 0 0) := Fr.o f2 (by decide) (by decide)
  refine w_X12_isManAt ?_
  refine ⟨vp_of (a := 0) rfl (by omega) (by omega), ?_⟩
  refine w_X12_isIn ?_
  refine ⟨fun c5 => ?_, fun c5 => ?_⟩
  · skip
    rw [lg_cmp_lt] at c5
    have d6 : ((v1.toInt) : Int) < (0) := cl_lt (tl_i2l rfl) rfl c5
    refine ⟨Or.inl rfl, ?_⟩
    intro o7
    refine ⟨Or.inl rfl, ?_⟩
    intro o8
    refine ⟨fun c9 => ?_, fun c9 => ?_⟩
    · skip
      refine w_X12_refuse ?_
      have hB10 : Bd (uI (uI (uI I 97 1 0) 97 0 0) 97 0 2) := Bd.o0 hB3 io9_112_97_12 (by decide) bd9_12_0
      have f11 : Fr pT I (uI (uI (uI I 97 1 0) 97 0 0) 97 0 2) := Fr.o f4 (by decide) (by decide)
      exact hQ _ _ _ _ hB10 f11
    · exact absurd c9 (by decide)
  · skip
    rw [lg_cmp_lt] at c5
    have d12 : ((0) : Int) ≤ (v1.toInt) := cl_nlt (tl_i2l rfl) rfl c5
    refine ⟨fun c13 => ?_, fun c13 => ?_⟩
    · skip
      rw [lg_cmp_gt] at c13
      have b14 := (Bd.c hB0 (j := 0) (z := 0) rfl).1 (by decide)
      have e15 : (((uI (uI I 97 1 0) 97 0 0) 102 (Int32.toNatClampNeg 0)) : Int32).toInt = (I 102 0).toInt := Eq.trans (congrArg Int32.toInt (Eq.trans (Eq.trans (rd_ne (by first | decide | omega)) (rd_ne (by first | decide | omega))) rfl)) rfl
      have e16 : ((((uI (uI I 97 1 0) 97 0 0) 102 (Int32.toNatClampNeg 0)) - 1) : Int32).toInt = ((I 102 0).toInt) - (1) := ti_sub e15 rfl (by omega)
      have i17 := i32 ((((uI (uI I 97 1 0) 97 0 0) 102 (Int32.toNatClampNeg 0)) - 1))
      have d18 : ((((I 102 0).toInt - 1)) : Int) < (v1.toInt) := cl_lt (tl_i2l e16) (tl_i2l rfl) c13
      refine ⟨Or.inl rfl, ?_⟩
      intro o19
      refine ⟨Or.inl rfl, ?_⟩
      intro o20
      refine ⟨fun c21 => ?_, fun c21 => ?_⟩
      · skip
        refine w_X12_refuse ?_
        have hB22 : Bd (uI (uI (uI I 97 1 0) 97 0 0) 97 0 2) := Bd.o0 hB3 io9_112_97_12 (by decide) bd9_12_0
        have f23 : Fr pT I (uI (uI (uI I 97 1 0) 97 0 0) 97 0 2) := Fr.o f4 (by decide) (by decide)
        exact hQ _ _ _ _ hB22 f23
      · exact absurd c21 (by decide)
    · skip
      rw [lg_cmp_gt] at c13
      have b24 := (Bd.c hB0 (j := 0) (z := 0) rfl).1 (by decide)
      have e25 : (((uI (uI I 97 1 0) 97 0 0) 102 (Int32.toNatClampNeg 0)) : Int32).toInt = (I 102 0).toInt := Eq.trans (congrArg Int32.toInt (Eq.trans (Eq.trans (rd_ne (by first | decide | omega)) (rd_ne (by first | decide | omega))) rfl)) rfl
      have e26 : ((((uI (uI I 97 1 0) 97 0 0) 102 (Int32.toNatClampNeg 0)) - 1) : Int32).toInt = ((I 102 0).toInt) - (1) := ti_sub e25 rfl (by omega)
      have i27 := i32 ((((uI (uI I 97 1 0) 97 0 0) 102 (Int32.toNatClampNeg 0)) - 1))
      have d28 : ((v1.toInt) : Int) ≤ (((I 102 0).toInt - 1)) := cl_nlt (tl_i2l e26) (tl_i2l rfl) c13
      refine ⟨Or.inr rfl, ?_⟩
      intro o29
      refine ⟨Or.inr rfl, ?_⟩
      intro o30
      refine ⟨fun c31 => ?_, fun c31 => ?_⟩
      · exact absurd c31 (by decide)
      · skip
        have e32 : (((uI (uI I 97 1 0) 97 0 0) 102 0) : Int32).toInt = (I 102 0).toInt := Eq.trans (congrArg Int32.toInt (Eq.trans (rd_ne (by first | decide | omega)) (rd_ne (by first | decide | omega)))) rfl
        refine sp_X12_fillOf hB3 hR0 (by have z : (v1 : Int32).toInt = v1.toInt := rfl; have z2 : (((uI (uI I 97 1 0) 97 0 0) 102 0) : Int32).toInt = (I 102 0).toInt := e32; have z3 := Bd.men hB0; omega) (fun x33 y38 I34 J35 hB36 p37 => ?_)
        have f39 : Fr pT (uI (uI I 97 1 0) 97 0 0) I34 := p37.1
        have f40 : Fr pT I I34 := Fr.tr f4 f39 (fun _ _ => trivial)
        have i41 := i32 x33
        refine w_X12_answer ?_
        refine ⟨fun c42 => ?_, fun c42 => ?_⟩
        · skip
          have d43 : ((0) : Int) ≤ (x33.toInt) := ci_le rfl rfl c42
          exact hQ _ _ _ _ hB36 f40
        · skip
          have d44 : ((x33.toInt) : Int) < (0) := ci_nle rfl rfl c42
          refine w_X12_refuse ?_
          have hB45 : Bd (uI I34 97 0 8) := Bd.o0 hB36 io9_112_97_12 (by decide) bd9_12_0
          have f46 : Fr pT I (uI I34 97 0 8) := Fr.o f40 (by decide) (by decide)
          exact hQ _ _ _ _ hB45 f46
set_option maxHeartbeats 2000000 in
theorem sp_X12_fillAt {d : Nat} {Q : Qt} {v1 : Int32} {v2 : Int32} {I : Im} {J : Jm} {R : Rm} (hB0 : Bd I) (hR0 : RI R) (hQ : ∀ (x : Int32) (y : Int64) (I2 : Im) (J2 : Jm), Bd I2 → (Fr pT I I2) → Q x y I2 J2 R) : AM (d + 13) 295 112 [.ref 97, .int v1, .int v2] I J R Q := by
  have i_v1 := i32 v1
  have i_v2 := i32 v2
  refine w_X12_fillAt ?_
  have hB1 : Bd (uI I 97 1 0) := Bd.o0 hB0 io9_112_97_12 (by decide) bd9_12_1
  have f2 : Fr pT I (uI I 97 1 0) := Fr.o (Fr.refl _ _) (by decide) (by decide)
  have hB3 : Bd (uI (uI I 97 1 0) 97 0 0) := Bd.o0 hB1 io9_112_97_12 (by decide) bd9_12_0
  have f4 : Fr pT I (uI (uI I 97 1 0) 97 0 0) := Fr.o f2 (by decide) (by decide)
  refine w_X12_isManAt ?_
  refine ⟨vp_of (a := 0) rfl (by omega) (by omega), ?_⟩
  refine w_X12_isIn ?_
  refine ⟨fun c5 => ?_, fun c5 => ?_⟩
  · skip
    rw [lg_cmp_lt] at c5
    have d6 : ((v1.toInt) : Int) < (0) := cl_lt (tl_i2l rfl) rfl c5
    refine ⟨Or.inl rfl, ?_⟩
    intro o7
    refine ⟨Or.inl rfl, ?_⟩
    intro o8
    refine ⟨fun c9 => ?_, fun c9 => ?_⟩
    · exact absurd c9 (by decide)
    · skip
      refine w_X12_refuse ?_
      have hB10 : Bd (uI (uI (uI I 97 1 0) 97 0 0) 97 0 2) := Bd.o0 hB3 io9_112_97_12 (by decide) bd9_12_0
      have f11 : Fr pT I (uI (uI (uI I 97 1 0) 97 0 0) 97 0 2) := Fr.o f4 (by decide) (by decide)
      exact hQ _ _ _ _ hB10 f11
  · skip
    rw [lg_cmp_lt] at c5
    have d12 : ((0) : Int) ≤ (v1.toInt) := cl_nlt (tl_i2l rfl) rfl c5
    refine ⟨fun c13 => ?_, fun c13 => ?_⟩
    · skip
      rw [lg_cmp_gt] at c13
      have b14 := (Bd.c hB0 (j := 0) (z := 0) rfl).1 (by decide)
      have e15 : (((uI (uI I 97 1 0) 97 0 0) 102 (Int32.toNatClampNeg 0)) : Int32).toInt = (I 102 0).toInt := Eq.trans (congrArg Int32.toInt (Eq.trans (Eq.trans (rd_ne (by first | decide | omega)) (rd_ne (by first | decide | omega))) rfl)) rfl
      have e16 : ((((uI (uI I 97 1 0) 97 0 0) 102 (Int32.toNatClampNeg 0)) - 1) : Int32).toInt = ((I 102 0).toInt) - (1) := ti_sub e15 rfl (by omega)
      have i17 := i32 ((((uI (uI I 97 1 0) 97 0 0) 102 (Int32.toNatClampNeg 0)) - 1))
      have d18 : ((((I 102 0).toInt - 1)) : Int) < (v1.toInt) := cl_lt (tl_i2l e16) (tl_i2l rfl) c13
      refine ⟨Or.inl rfl, ?_⟩
      intro o19
      refine ⟨Or.inl rfl, ?_⟩
      intro o20
      refine ⟨fun c21 => ?_, fun c21 => ?_⟩
      · exact absurd c21 (by decide)
      · skip
        refine w_X12_refuse ?_
        have hB22 : Bd (uI (uI (uI I 97 1 0) 97 0 0) 97 0 2) := Bd.o0 hB3 io9_112_97_12 (by decide) bd9_12_0
        have f23 : Fr pT I (uI (uI (uI I 97 1 0) 97 0 0) 97 0 2) := Fr.o f4 (by decide) (by decide)
        exact hQ _ _ _ _ hB22 f23
    · skip
      rw [lg_cmp_gt] at c13
      have b24 := (Bd.c hB0 (j := 0) (z := 0) rfl).1 (by decide)
      have e25 : (((uI (uI I 97 1 0) 97 0 0) 102 (Int32.toNatClampNeg 0)) : Int32).toInt = (I 102 0).toInt := Eq.trans (congrArg Int32.toInt (Eq.trans (Eq.trans (rd_ne (by first | decide | omega)) (rd_ne (by first | decide | omega))) rfl)) rfl
      have e26 : ((((uI (uI I 97 1 0) 97 0 0) 102 (Int32.toNatClampNeg 0)) - 1) : Int32).toInt = ((I 102 0).toInt) - (1) := ti_sub e25 rfl (by omega)
      have i27 := i32 ((((uI (uI I 97 1 0) 97 0 0) 102 (Int32.toNatClampNeg 0)) - 1))
      have d28 : ((v1.toInt) : Int) ≤ (((I 102 0).toInt - 1)) := cl_nlt (tl_i2l e26) (tl_i2l rfl) c13
      refine ⟨Or.inr rfl, ?_⟩
      intro o29
      refine ⟨Or.inr rfl, ?_⟩
      intro o30
      refine ⟨fun c31 => ?_, fun c31 => ?_⟩
      · skip
        have e32 : (((uI (uI I 97 1 0) 97 0 0) 102 0) : Int32).toInt = (I 102 0).toInt := Eq.trans (congrArg Int32.toInt (Eq.trans (rd_ne (by first | decide | omega)) (rd_ne (by first | decide | omega)))) rfl
        refine sp_X12_fillOf hB3 hR0 (by have z : (v1 : Int32).toInt = v1.toInt := rfl; have z2 : (((uI (uI I 97 1 0) 97 0 0) 102 0) : Int32).toInt = (I 102 0).toInt := e32; have z3 := Bd.men hB0; omega) (fun x33 y38 I34 J35 hB36 p37 => ?_)
        have f39 : Fr pT (uI (uI I 97 1 0) 97 0 0) I34 := p37.1
        have f40 : Fr pT I I34 := Fr.tr f4 f39 (fun _ _ => trivial)
        have i41 := i32 x33
        refine w_X12_isIn ?_
        refine ⟨fun c42 => ?_, fun c42 => ?_⟩
        · skip
          rw [lg_cmp_lt] at c42
          have d43 : ((v2.toInt) : Int) < (0) := cl_lt (tl_i2l rfl) rfl c42
          refine ⟨Or.inl rfl, ?_⟩
          intro o44
          refine ⟨fun c45 => ?_, fun c45 => ?_⟩
          · skip
            refine w_X12_refuse ?_
            have hB46 : Bd (uI I34 97 0 8) := Bd.o0 hB36 io9_112_97_12 (by decide) bd9_12_0
            have f47 : Fr pT I (uI I34 97 0 8) := Fr.o f40 (by decide) (by decide)
            exact hQ _ _ _ _ hB46 f47
          · exact absurd c45 (by decide)
        · skip
          rw [lg_cmp_lt] at c42
          have d48 : ((0) : Int) ≤ (v2.toInt) := cl_nlt (tl_i2l rfl) rfl c42
          refine ⟨fun c49 => ?_, fun c49 => ?_⟩
          · skip
            rw [lg_cmp_gt] at c49
            have e50 : ((x33 - 1) : Int32).toInt = (x33.toInt) - (1) := ti_sub rfl rfl (by first | (clear d12 e25 e26 i27 d28 e32 d48; omega) | omega)
            have i51 := i32 ((x33 - 1))
            have d52 : (((x33.toInt - 1)) : Int) < (v2.toInt) := cl_lt (tl_i2l e50) (tl_i2l rfl) c49
            refine ⟨Or.inl rfl, ?_⟩
            intro o53
            refine ⟨fun c54 => ?_, fun c54 => ?_⟩
            · skip
              refine w_X12_refuse ?_
              have hB55 : Bd (uI I34 97 0 8) := Bd.o0 hB36 io9_112_97_12 (by decide) bd9_12_0
              have f56 : Fr pT I (uI I34 97 0 8) := Fr.o f40 (by decide) (by decide)
              exact hQ _ _ _ _ hB55 f56
            · exact absurd c54 (by decide)
          · skip
            rw [lg_cmp_gt] at c49
            have e57 : ((x33 - 1) : Int32).toInt = (x33.toInt) - (1) := ti_sub rfl rfl (by first | (clear d12 e25 e26 i27 d28 e32 d48; omega) | omega)
            have i58 := i32 ((x33 - 1))
            have d59 : ((v2.toInt) : Int) ≤ ((x33.toInt - 1)) := cl_nlt (tl_i2l e57) (tl_i2l rfl) c49
            refine ⟨Or.inr rfl, ?_⟩
            intro o60
            refine ⟨fun c61 => ?_, fun c61 => ?_⟩
            · exact absurd c61 (by decide)
            · skip
              refine ⟨vp_of (a := v2.toInt) rfl (by first | (clear d12 e25 e26 i27 d28 e32 p37 i41 e57 i58; omega) | omega) (by first | (clear d12 e25 e26 i27 d28 e32 p37 i41 e57 i58; omega) | omega), ?_⟩
              exact hQ _ _ _ _ hB36 f40
      · exact absurd c31 (by decide)
