set_option maxHeartbeats 2000000 in
theorem sp_X11_status {d : Nat} {Q : Qt} {I : Im} {J : Jm} {R : Rm} (hB0 : Bd I) (hR0 : RI R) (hQ : ∀ (x : Int32) (y : Int64) (I2 : Im) (J2 : Jm), Bd I2 → (True) → Q x y I2 J2 R) : AM (d + 1) 100 112 [.ref 1] I J R Q := by
  refine w_X11_status ?_
  exact hQ _ _ _ _ hB0 trivial
set_option maxHeartbeats 2000000 in
theorem sp_X11_top {d : Nat} {Q : Qt} {I : Im} {J : Jm} {R : Rm} (hB0 : Bd I) (hR0 : RI R) (hQ : ∀ (x : Int32) (y : Int64) (I2 : Im) (J2 : Jm), Bd I2 → (True) → Q x y I2 J2 R) : AM (d + 1) 101 112 [.ref 1] I J R Q := by
  refine w_X11_top ?_
  exact hQ _ _ _ _ hB0 trivial
set_option maxHeartbeats 2000000 in
theorem sp_X11_bottom {d : Nat} {Q : Qt} {I : Im} {J : Jm} {R : Rm} (hB0 : Bd I) (hR0 : RI R) (hQ : ∀ (x : Int32) (y : Int64) (I2 : Im) (J2 : Jm), Bd I2 → (True) → Q x y I2 J2 R) : AM (d + 1) 102 112 [.ref 1] I J R Q := by
  refine w_X11_bottom ?_
  exact hQ _ _ _ _ hB0 trivial
set_option maxHeartbeats 2000000 in
theorem sp_X11_tray {d : Nat} {Q : Qt} {v1 : Int32} {v2 : Int32} {v3 : Int32} {I : Im} {J : Jm} {R : Rm} (hB0 : Bd I) (hR0 : RI R) (hQ : ∀ (x : Int32) (y : Int64) (I2 : Im) (J2 : Jm), Bd I2 → (((0 ≤ x.toInt ∧ x.toInt ≤ 1 ∧ (x.toInt = 1 → 0 ≤ v1.toInt ∧ v1.toInt ≤ 3 ∧ 0 ≤ v2.toInt ∧ v2.toInt ≤ 3 ∧ 0 ≤ v3.toInt ∧ v3.toInt ≤ 60) ∧ (0 ≤ v1.toInt ∧ v1.toInt ≤ 3 ∧ 0 ≤ v2.toInt ∧ v2.toInt ≤ 3 ∧ 0 ≤ v3.toInt ∧ v3.toInt ≤ 60 → x.toInt = 1)) ∧ ((x.toInt = 1 ∧ TL I I2 (R 2 (Int32.toNatClampNeg v1)) v2 v3) ∨ (x.toInt = 0 ∧ KT I I2)))) → Q x y I2 J2 R) : AM (d + 3) 103 112 [.ref 1, .int v1, .int v2, .int v3] I J R Q := by
  have i_v1 := i32 v1
  have i_v2 := i32 v2
  have i_v3 := i32 v3
  refine w_X11_tray ?_
  refine w_X11_isTray ?_
  refine ⟨fun c1 => ?_, fun c1 => ?_⟩
  · skip
    have d2 : ((v1.toInt) : Int) < (0) := ci_lt rfl rfl c1
    refine ⟨Or.inl rfl, ?_⟩
    intro o3
    refine ⟨fun c4 => ?_, fun c4 => ?_⟩
    · skip
      refine w_X11_deny ?_
      have hB5 : Bd (uI I 1 0 1) := Bd.o0 hB0 io9_112_1_11 (by omega) bd9_11_0
      refine ⟨Or.inl rfl, ?_⟩
      intro o6
      refine ⟨Or.inl rfl, ?_⟩
      exact hQ _ _ _ _ hB5 ⟨(by have q0 : (0 : Int32).toInt = 0 := rfl; omega), Or.inr ⟨rfl, fun c hc => uI_ne (TC1 c hc)⟩⟩
    · exact absurd c4 (by decide)
  · skip
    have d7 : ((0) : Int) ≤ (v1.toInt) := ci_nlt rfl rfl c1
    refine ⟨fun c8 => ?_, fun c8 => ?_⟩
    · skip
      have d9 : ((4) : Int) ≤ (v1.toInt) := ci_le rfl rfl c8
      refine ⟨Or.inl rfl, ?_⟩
      intro o10
      refine ⟨fun c11 => ?_, fun c11 => ?_⟩
      · skip
        refine w_X11_deny ?_
        have hB12 : Bd (uI I 1 0 1) := Bd.o0 hB0 io9_112_1_11 (by omega) bd9_11_0
        refine ⟨Or.inl rfl, ?_⟩
        intro o13
        refine ⟨Or.inl rfl, ?_⟩
        exact hQ _ _ _ _ hB12 ⟨(by have q0 : (0 : Int32).toInt = 0 := rfl; omega), Or.inr ⟨rfl, fun c hc => uI_ne (TC1 c hc)⟩⟩
      · exact absurd c11 (by decide)
    · skip
      have d14 : ((v1.toInt) : Int) < (4) := ci_nle rfl rfl c8
      refine ⟨Or.inr rfl, ?_⟩
      intro o15
      refine ⟨fun c16 => ?_, fun c16 => ?_⟩
      · exact absurd c16 (by decide)
      · skip
        refine ⟨fun c17 => ?_, fun c17 => ?_⟩
        · skip
          have d18 : ((v2.toInt) : Int) < (0) := ci_lt rfl rfl c17
          refine w_X11_deny ?_
          have hB19 : Bd (uI I 1 0 1) := Bd.o0 hB0 io9_112_1_11 (by omega) bd9_11_0
          refine ⟨Or.inl rfl, ?_⟩
          intro o20
          refine ⟨Or.inl rfl, ?_⟩
          exact hQ _ _ _ _ hB19 ⟨(by have q0 : (0 : Int32).toInt = 0 := rfl; omega), Or.inr ⟨rfl, fun c hc => uI_ne (TC1 c hc)⟩⟩
        · skip
          have d21 : ((0) : Int) ≤ (v2.toInt) := ci_nlt rfl rfl c17
          refine ⟨fun c22 => ?_, fun c22 => ?_⟩
          · skip
            have d23 : ((v2.toInt) : Int) ≤ (3) := ci_le rfl rfl c22
            refine ⟨fun c24 => ?_, fun c24 => ?_⟩
            · skip
              have d25 : ((v3.toInt) : Int) ≤ (60) := ci_le rfl rfl c24
              refine ⟨fun c26 => ?_, fun c26 => ?_⟩
              · skip
                have d27 : ((0) : Int) ≤ (v3.toInt) := ci_le rfl rfl c26
                refine ⟨vp_of (a := v1.toInt) rfl (by omega) (by omega), ?_⟩
                have hr28 := RI.tray hR0 (Int32.toNatClampNeg v1) (by rw [tn_of rfl (by omega)]; omega)
                refine ⟨hr28.1, ?_⟩
                refine bif_t hr28.2 ?_
                refine sp_X10_lay hB0 hR0 hr28.2 (by have z : (v3 : Int32).toInt = v3.toInt := rfl; omega) (fun x29 y34 I30 J31 hB32 p33 => ?_)
                refine w_X11_allow ?_
                have hB35 : Bd (uI I30 1 0 0) := Bd.o0 hB32 io9_112_1_11 (by omega) bd9_11_0
                refine ⟨Or.inr rfl, ?_⟩
                intro o36
                refine ⟨Or.inr rfl, ?_⟩
                exact hQ _ _ _ _ hB35 ⟨(by have q0 : (1 : Int32).toInt = 1 := rfl; omega), Or.inl ⟨rfl, fun c hc => (uI_ne (TC1 c hc)).trans (p33 c hc)⟩⟩
              · skip
                have d37 : ((v3.toInt) : Int) < (0) := ci_nle rfl rfl c26
                refine w_X11_deny ?_
                have hB38 : Bd (uI I 1 0 6) := Bd.o0 hB0 io9_112_1_11 (by omega) bd9_11_0
                refine ⟨Or.inl rfl, ?_⟩
                intro o39
                refine ⟨Or.inl rfl, ?_⟩
                exact hQ _ _ _ _ hB38 ⟨(by have q0 : (0 : Int32).toInt = 0 := rfl; omega), Or.inr ⟨rfl, fun c hc => uI_ne (TC1 c hc)⟩⟩
            · skip
              have d40 : ((60) : Int) < (v3.toInt) := ci_nle rfl rfl c24
              refine w_X11_deny ?_
              have hB41 : Bd (uI I 1 0 5) := Bd.o0 hB0 io9_112_1_11 (by omega) bd9_11_0
              refine ⟨Or.inl rfl, ?_⟩
              intro o42
              refine ⟨Or.inl rfl, ?_⟩
              exact hQ _ _ _ _ hB41 ⟨(by have q0 : (0 : Int32).toInt = 0 := rfl; omega), Or.inr ⟨rfl, fun c hc => uI_ne (TC1 c hc)⟩⟩
          · skip
            have d43 : ((3) : Int) < (v2.toInt) := ci_nle rfl rfl c22
            refine w_X11_deny ?_
            have hB44 : Bd (uI I 1 0 1) := Bd.o0 hB0 io9_112_1_11 (by omega) bd9_11_0
            refine ⟨Or.inl rfl, ?_⟩
            intro o45
            refine ⟨Or.inl rfl, ?_⟩
            exact hQ _ _ _ _ hB44 ⟨(by have q0 : (0 : Int32).toInt = 0 := rfl; omega), Or.inr ⟨rfl, fun c hc => uI_ne (TC1 c hc)⟩⟩
set_option maxHeartbeats 2000000 in
theorem sp_X11_write {d : Nat} {Q : Qt} {v1 : Int32} {v2 : Int32} {v3 : Int64} {I : Im} {J : Jm} {R : Rm} (hB0 : Bd I) (hR0 : RI R) (hQ : ∀ (x : Int32) (y : Int64) (I2 : Im) (J2 : Jm), Bd I2 → (((x.toInt = 1 ∧ 0 ≤ v1.toInt ∧ v1.toInt ≤ 3 ∧ 0 ≤ v2.toInt ∧ v2.toInt < (I (R 2 (Int32.toNatClampNeg v1)) 1).toInt) ∨ (x.toInt = 0 ∧ (v1.toInt < 0 ∨ 3 < v1.toInt ∨ v2.toInt < 0 ∨ (I (R 2 (Int32.toNatClampNeg v1)) 1).toInt ≤ v2.toInt)))) → Q x y I2 J2 R) : AM (d + 4) 104 112 [.ref 1, .int v1, .int v2, .long v3] I J R Q := by
  have i_v1 := i32 v1
  have i_v2 := i32 v2
  have i_v3 := i64 v3
  refine w_X11_write ?_
  refine w_X11_placeStatus ?_
  refine w_X11_trayStatus ?_
  refine w_X11_isTray ?_
  refine ⟨fun c1 => ?_, fun c1 => ?_⟩
  · skip
    have d2 : ((v1.toInt) : Int) < (0) := ci_lt rfl rfl c1
    refine ⟨Or.inl rfl, ?_⟩
    intro o3
    refine ⟨fun c4 => ?_, fun c4 => ?_⟩
    · exact absurd c4 (by decide)
    · skip
      refine ⟨fun c5 => ?_, fun c5 => ?_⟩
      · exact absurd c5 (by decide)
      · skip
        refine ⟨fun c6 => ?_, fun c6 => ?_⟩
        · exact absurd c6 (by decide)
        · skip
          refine w_X11_deny ?_
          have hB7 : Bd (uI I 1 0 1) := Bd.o0 hB0 io9_112_1_11 (by omega) bd9_11_0
          refine ⟨Or.inl rfl, ?_⟩
          intro o8
          refine ⟨Or.inl rfl, ?_⟩
          exact hQ _ _ _ _ hB7 (by have q0 : (0 : Int32).toInt = 0 := rfl; omega)
  · skip
    have d9 : ((0) : Int) ≤ (v1.toInt) := ci_nlt rfl rfl c1
    refine ⟨fun c10 => ?_, fun c10 => ?_⟩
    · skip
      have d11 : ((4) : Int) ≤ (v1.toInt) := ci_le rfl rfl c10
      refine ⟨Or.inl rfl, ?_⟩
      intro o12
      refine ⟨fun c13 => ?_, fun c13 => ?_⟩
      · exact absurd c13 (by decide)
      · skip
        refine ⟨fun c14 => ?_, fun c14 => ?_⟩
        · exact absurd c14 (by decide)
        · skip
          refine ⟨fun c15 => ?_, fun c15 => ?_⟩
          · exact absurd c15 (by decide)
          · skip
            refine w_X11_deny ?_
            have hB16 : Bd (uI I 1 0 1) := Bd.o0 hB0 io9_112_1_11 (by omega) bd9_11_0
            refine ⟨Or.inl rfl, ?_⟩
            intro o17
            refine ⟨Or.inl rfl, ?_⟩
            exact hQ _ _ _ _ hB16 (by have q0 : (0 : Int32).toInt = 0 := rfl; omega)
    · skip
      have d18 : ((v1.toInt) : Int) < (4) := ci_nle rfl rfl c10
      refine ⟨Or.inr rfl, ?_⟩
      intro o19
      refine ⟨fun c20 => ?_, fun c20 => ?_⟩
      · skip
        refine ⟨vp_of (a := v1.toInt) rfl (by omega) (by omega), ?_⟩
        have hr21 := RI.tray hR0 (Int32.toNatClampNeg v1) (by rw [tn_of rfl (by omega)]; omega)
        refine ⟨hr21.1, ?_⟩
        refine bif_t hr21.2 ?_
        refine w_X10_isMissing ?_
        refine bif_t hr21.2 ?_
        refine ⟨fun c22 => ?_, fun c22 => ?_⟩
        · skip
          have b23 := Bd.o hB0 hr21.2 bd9_10_1
          have d24 : ((0) : Int) ≤ ((I (R 2 (Int32.toNatClampNeg v1)) 1).toInt) := ci_le rfl rfl c22
          refine ⟨Or.inl rfl, ?_⟩
          intro o25
          refine ⟨fun c26 => ?_, fun c26 => ?_⟩
          · skip
            refine ⟨fun c27 => ?_, fun c27 => ?_⟩
            · skip
              refine ⟨vp_of (a := v1.toInt) rfl (by omega) (by omega), ?_⟩
              have hr28 := RI.tray hR0 (Int32.toNatClampNeg v1) (by rw [tn_of rfl (by omega)]; omega)
              refine ⟨hr28.1, ?_⟩
              refine bif_t hr28.2 ?_
              refine w_X10_hasPlaces ?_
              refine ⟨fun c29 => ?_, fun c29 => ?_⟩
              · skip
                have d30 : ((v2.toInt) : Int) < (0) := ci_lt rfl rfl c29
                refine ⟨Or.inl rfl, ?_⟩
                intro o31
                refine ⟨fun c32 => ?_, fun c32 => ?_⟩
                · skip
                  refine ⟨fun c33 => ?_, fun c33 => ?_⟩
                  · exact absurd c33 (by decide)
                  · skip
                    refine w_X11_deny ?_
                    have hB34 : Bd (uI I 1 0 4) := Bd.o0 hB0 io9_112_1_11 (by omega) bd9_11_0
                    refine ⟨Or.inl rfl, ?_⟩
                    intro o35
                    refine ⟨Or.inl rfl, ?_⟩
                    exact hQ _ _ _ _ hB34 (by have q0 : (0 : Int32).toInt = 0 := rfl; omega)
                · exact absurd c32 (by decide)
              · skip
                have d36 : ((0) : Int) ≤ (v2.toInt) := ci_nlt rfl rfl c29
                refine ⟨fun c37 => ?_, fun c37 => ?_⟩
                · exact absurd c37 (by decide)
                · skip
                  refine bif_t hr28.2 ?_
                  refine ⟨fun c38 => ?_, fun c38 => ?_⟩
                  · skip
                    rw [lg_cmp_gt] at c38
                    have e39 : (((Int32.toInt64 v2) + (Int32.toInt64 1)) : Int64).toInt = (v2.toInt) + (1) := tl_add (tl_i2l rfl) (tl_i2l rfl) (by omega)
                    have i40 := i32 ((I (R 2 (Int32.toNatClampNeg v1)) 1))
                    have d41 : (((I (R 2 (Int32.toNatClampNeg v1)) 1).toInt) : Int) < ((v2.toInt + 1)) := cl_lt (tl_i2l rfl) e39 c38
                    refine ⟨Or.inl rfl, ?_⟩
                    intro o42
                    refine ⟨fun c43 => ?_, fun c43 => ?_⟩
                    · skip
                      refine ⟨fun c44 => ?_, fun c44 => ?_⟩
                      · exact absurd c44 (by decide)
                      · skip
                        refine w_X11_deny ?_
                        have hB45 : Bd (uI I 1 0 4) := Bd.o0 hB0 io9_112_1_11 (by omega) bd9_11_0
                        refine ⟨Or.inl rfl, ?_⟩
                        intro o46
                        refine ⟨Or.inl rfl, ?_⟩
                        exact hQ _ _ _ _ hB45 (by have q0 : (0 : Int32).toInt = 0 := rfl; omega)
                    · exact absurd c43 (by decide)
                  · skip
                    rw [lg_cmp_gt] at c38
                    have e47 : (((Int32.toInt64 v2) + (Int32.toInt64 1)) : Int64).toInt = (v2.toInt) + (1) := tl_add (tl_i2l rfl) (tl_i2l rfl) (by omega)
                    have i48 := i32 ((I (R 2 (Int32.toNatClampNeg v1)) 1))
                    have d49 : (((v2.toInt + 1)) : Int) ≤ ((I (R 2 (Int32.toNatClampNeg v1)) 1).toInt) := cl_nlt (tl_i2l rfl) e47 c38
                    refine ⟨Or.inr rfl, ?_⟩
                    intro o50
                    refine ⟨fun c51 => ?_, fun c51 => ?_⟩
                    · exact absurd c51 (by decide)
                    · skip
                      refine ⟨fun c52 => ?_, fun c52 => ?_⟩
                      · skip
                        refine ⟨vp_of (a := v1.toInt) rfl (by omega) (by omega), ?_⟩
                        have hr53 := RI.tray hR0 (Int32.toNatClampNeg v1) (by rw [tn_of rfl (by omega)]; omega)
                        refine ⟨hr53.1, ?_⟩
                        refine bif_t hr53.2 ?_
                        refine sp_X10_put hB0 hR0 hr53.2 (fun x54 y59 I55 J56 hB57 p58 => ?_)
                        refine w_X11_allow ?_
                        have hB60 : Bd (uI I55 1 0 0) := Bd.o0 hB57 io9_112_1_11 (by omega) bd9_11_0
                        refine ⟨Or.inr rfl, ?_⟩
                        intro o61
                        refine ⟨Or.inr rfl, ?_⟩
                        exact hQ _ _ _ _ hB60 (by have q0 : (1 : Int32).toInt = 1 := rfl; omega)
                      · exact absurd c52 (by decide)
            · exact absurd c27 (by decide)
          · exact absurd c26 (by decide)
        · skip
          have b62 := Bd.o hB0 hr21.2 bd9_10_1
          have d63 : (((I (R 2 (Int32.toNatClampNeg v1)) 1).toInt) : Int) < (0) := ci_nle rfl rfl c22
          refine ⟨Or.inr rfl, ?_⟩
          intro o64
          refine ⟨fun c65 => ?_, fun c65 => ?_⟩
          · exact absurd c65 (by decide)
          · skip
            refine ⟨fun c66 => ?_, fun c66 => ?_⟩
            · exact absurd c66 (by decide)
            · skip
              refine ⟨fun c67 => ?_, fun c67 => ?_⟩
              · exact absurd c67 (by decide)
              · skip
                refine w_X11_deny ?_
                have hB68 : Bd (uI I 1 0 3) := Bd.o0 hB0 io9_112_1_11 (by omega) bd9_11_0
                refine ⟨Or.inl rfl, ?_⟩
                intro o69
                refine ⟨Or.inl rfl, ?_⟩
                exact hQ _ _ _ _ hB68 (by have q0 : (0 : Int32).toInt = 0 := rfl; omega)
      · exact absurd c20 (by decide)
set_option maxHeartbeats 2000000 in
theorem sp_X11_read {d : Nat} {Q : Qt} {v1 : Int32} {v2 : Int32} {I : Im} {J : Jm} {R : Rm} (hB0 : Bd I) (hR0 : RI R) (hQ : ∀ (x : Int32) (y : Int64) (I2 : Im) (J2 : Jm), Bd I2 → (True) → Q x y I2 J2 R) : AM (d + 4) 105 112 [.ref 1, .int v1, .int v2] I J R Q := by
  have i_v1 := i32 v1
  have i_v2 := i32 v2
  refine w_X11_read ?_
  refine w_X11_placeStatus ?_
  refine w_X11_trayStatus ?_
  refine w_X11_isTray ?_
  refine ⟨fun c1 => ?_, fun c1 => ?_⟩
  · skip
    have d2 : ((v1.toInt) : Int) < (0) := ci_lt rfl rfl c1
    refine ⟨Or.inl rfl, ?_⟩
    intro o3
    refine ⟨fun c4 => ?_, fun c4 => ?_⟩
    · exact absurd c4 (by decide)
    · skip
      refine ⟨fun c5 => ?_, fun c5 => ?_⟩
      · exact absurd c5 (by decide)
      · skip
        refine ⟨fun c6 => ?_, fun c6 => ?_⟩
        · exact absurd c6 (by decide)
        · skip
          refine w_X11_refuse ?_
          have hB7 : Bd (uI I 1 0 1) := Bd.o0 hB0 io9_112_1_11 (by omega) bd9_11_0
          exact hQ _ _ _ _ hB7 trivial
  · skip
    have d8 : ((0) : Int) ≤ (v1.toInt) := ci_nlt rfl rfl c1
    refine ⟨fun c9 => ?_, fun c9 => ?_⟩
    · skip
      have d10 : ((4) : Int) ≤ (v1.toInt) := ci_le rfl rfl c9
      refine ⟨Or.inl rfl, ?_⟩
      intro o11
      refine ⟨fun c12 => ?_, fun c12 => ?_⟩
      · exact absurd c12 (by decide)
      · skip
        refine ⟨fun c13 => ?_, fun c13 => ?_⟩
        · exact absurd c13 (by decide)
        · skip
          refine ⟨fun c14 => ?_, fun c14 => ?_⟩
          · exact absurd c14 (by decide)
          · skip
            refine w_X11_refuse ?_
            have hB15 : Bd (uI I 1 0 1) := Bd.o0 hB0 io9_112_1_11 (by omega) bd9_11_0
            exact hQ _ _ _ _ hB15 trivial
    · skip
      have d16 : ((v1.toInt) : Int) < (4) := ci_nle rfl rfl c9
      refine ⟨Or.inr rfl, ?_⟩
      intro o17
      refine ⟨fun c18 => ?_, fun c18 => ?_⟩
      · skip
        refine ⟨vp_of (a := v1.toInt) rfl (by omega) (by omega), ?_⟩
        have hr19 := RI.tray hR0 (Int32.toNatClampNeg v1) (by rw [tn_of rfl (by omega)]; omega)
        refine ⟨hr19.1, ?_⟩
        refine bif_t hr19.2 ?_
        refine w_X10_isMissing ?_
        refine bif_t hr19.2 ?_
        refine ⟨fun c20 => ?_, fun c20 => ?_⟩
        · skip
          have b21 := Bd.o hB0 hr19.2 bd9_10_1
          have d22 : ((0) : Int) ≤ ((I (R 2 (Int32.toNatClampNeg v1)) 1).toInt) := ci_le rfl rfl c20
          refine ⟨Or.inl rfl, ?_⟩
          intro o23
          refine ⟨fun c24 => ?_, fun c24 => ?_⟩
          · skip
            refine ⟨fun c25 => ?_, fun c25 => ?_⟩
            · skip
              refine ⟨vp_of (a := v1.toInt) rfl (by omega) (by omega), ?_⟩
              have hr26 := RI.tray hR0 (Int32.toNatClampNeg v1) (by rw [tn_of rfl (by omega)]; omega)
              refine ⟨hr26.1, ?_⟩
              refine bif_t hr26.2 ?_
              refine w_X10_hasPlaces ?_
              refine ⟨fun c27 => ?_, fun c27 => ?_⟩
              · skip
                have d28 : ((v2.toInt) : Int) < (0) := ci_lt rfl rfl c27
                refine ⟨Or.inl rfl, ?_⟩
                intro o29
                refine ⟨fun c30 => ?_, fun c30 => ?_⟩
                · skip
                  refine ⟨fun c31 => ?_, fun c31 => ?_⟩
                  · exact absurd c31 (by decide)
                  · skip
                    refine w_X11_refuse ?_
                    have hB32 : Bd (uI I 1 0 4) := Bd.o0 hB0 io9_112_1_11 (by omega) bd9_11_0
                    exact hQ _ _ _ _ hB32 trivial
                · exact absurd c30 (by decide)
              · skip
                have d33 : ((0) : Int) ≤ (v2.toInt) := ci_nlt rfl rfl c27
                refine ⟨fun c34 => ?_, fun c34 => ?_⟩
                · exact absurd c34 (by decide)
                · skip
                  refine bif_t hr26.2 ?_
                  refine ⟨fun c35 => ?_, fun c35 => ?_⟩
                  · skip
                    rw [lg_cmp_gt] at c35
                    have e36 : (((Int32.toInt64 v2) + (Int32.toInt64 1)) : Int64).toInt = (v2.toInt) + (1) := tl_add (tl_i2l rfl) (tl_i2l rfl) (by omega)
                    have i37 := i32 ((I (R 2 (Int32.toNatClampNeg v1)) 1))
                    have d38 : (((I (R 2 (Int32.toNatClampNeg v1)) 1).toInt) : Int) < ((v2.toInt + 1)) := cl_lt (tl_i2l rfl) e36 c35
                    refine ⟨Or.inl rfl, ?_⟩
                    intro o39
                    refine ⟨fun c40 => ?_, fun c40 => ?_⟩
                    · skip
                      refine ⟨fun c41 => ?_, fun c41 => ?_⟩
                      · exact absurd c41 (by decide)
                      · skip
                        refine w_X11_refuse ?_
                        have hB42 : Bd (uI I 1 0 4) := Bd.o0 hB0 io9_112_1_11 (by omega) bd9_11_0
                        exact hQ _ _ _ _ hB42 trivial
                    · exact absurd c40 (by decide)
                  · skip
                    rw [lg_cmp_gt] at c35
                    have e43 : (((Int32.toInt64 v2) + (Int32.toInt64 1)) : Int64).toInt = (v2.toInt) + (1) := tl_add (tl_i2l rfl) (tl_i2l rfl) (by omega)
                    have i44 := i32 ((I (R 2 (Int32.toNatClampNeg v1)) 1))
                    have d45 : (((v2.toInt + 1)) : Int) ≤ ((I (R 2 (Int32.toNatClampNeg v1)) 1).toInt) := cl_nlt (tl_i2l rfl) e43 c35
                    refine ⟨Or.inr rfl, ?_⟩
                    intro o46
                    refine ⟨fun c47 => ?_, fun c47 => ?_⟩
                    · exact absurd c47 (by decide)
                    · skip
                      refine ⟨fun c48 => ?_, fun c48 => ?_⟩
                      · skip
                        have hB49 : Bd (uI I 1 0 0) := Bd.o0 hB0 io9_112_1_11 (by omega) bd9_11_0
                        refine ⟨vp_of (a := v1.toInt) rfl (by omega) (by omega), ?_⟩
                        have hr50 := RI.tray hR0 (Int32.toNatClampNeg v1) (by rw [tn_of rfl (by omega)]; omega)
                        refine ⟨hr50.1, ?_⟩
                        refine bif_t hr50.2 ?_
                        refine bif_t (fa_10_2 hr50.2).1 ?_
                        refine ⟨by rw [(fa_10_2 hr50.2).2.1]; exact vp_of (a := v2.toInt) rfl (by omega) (by omega), ?_⟩
                        exact hQ _ _ _ _ hB49 trivial
                      · exact absurd c48 (by decide)
            · exact absurd c25 (by decide)
          · exact absurd c24 (by decide)
        · skip
          have b51 := Bd.o hB0 hr19.2 bd9_10_1
          have d52 : (((I (R 2 (Int32.toNatClampNeg v1)) 1).toInt) : Int) < (0) := ci_nle rfl rfl c20
          refine ⟨Or.inr rfl, ?_⟩
          intro o53
          refine ⟨fun c54 => ?_, fun c54 => ?_⟩
          · exact absurd c54 (by decide)
          · skip
            refine ⟨fun c55 => ?_, fun c55 => ?_⟩
            · exact absurd c55 (by decide)
            · skip
              refine ⟨fun c56 => ?_, fun c56 => ?_⟩
              · exact absurd c56 (by decide)
              · skip
                refine w_X11_refuse ?_
                have hB57 : Bd (uI I 1 0 3) := Bd.o0 hB0 io9_112_1_11 (by omega) bd9_11_0
                exact hQ _ _ _ _ hB57 trivial
      · exact absurd c18 (by decide)
set_option maxHeartbeats 2000000 in
theorem sp_X11_pour {d : Nat} {Q : Qt} {v1 : Int32} {v2 : Int32} {v3 : Int32} {v4 : Int32} {v5 : Int32} {I : Im} {J : Jm} {R : Rm} (hB0 : Bd I) (hR0 : RI R) (hQ : ∀ (x : Int32) (y : Int64) (I2 : Im) (J2 : Jm), Bd I2 → (((x.toInt = 1 ∧ 0 ≤ v1.toInt ∧ v1.toInt ≤ 3 ∧ 0 ≤ v3.toInt ∧ v3.toInt ≤ 3 ∧ 0 ≤ (I (R 2 (Int32.toNatClampNeg v1)) 1).toInt ∧ 0 ≤ (I (R 2 (Int32.toNatClampNeg v3)) 1).toInt ∧ (I (R 2 (Int32.toNatClampNeg v1)) 0).toInt = (I (R 2 (Int32.toNatClampNeg v3)) 0).toInt ∧ 0 ≤ v5.toInt ∧ 0 ≤ v2.toInt ∧ 0 ≤ v4.toInt ∧ v2.toInt + v5.toInt ≤ (I (R 2 (Int32.toNatClampNeg v1)) 1).toInt ∧ v4.toInt + v5.toInt ≤ (I (R 2 (Int32.toNatClampNeg v3)) 1).toInt) ∨ (x.toInt = 0 ∧ (v1.toInt < 0 ∨ 3 < v1.toInt ∨ v3.toInt < 0 ∨ 3 < v3.toInt ∨ (I (R 2 (Int32.toNatClampNeg v1)) 1).toInt < 0 ∨ (I (R 2 (Int32.toNatClampNeg v3)) 1).toInt < 0 ∨ ¬ (I (R 2 (Int32.toNatClampNeg v1)) 0).toInt = (I (R 2 (Int32.toNatClampNeg v3)) 0).toInt ∨ v5.toInt < 0 ∨ v2.toInt < 0 ∨ v4.toInt < 0 ∨ (I (R 2 (Int32.toNatClampNeg v1)) 1).toInt < v2.toInt + v5.toInt ∨ (I (R 2 (Int32.toNatClampNeg v3)) 1).toInt < v4.toInt + v5.toInt)))) → Q x y I2 J2 R) : AM (d + 2) 106 112 [.ref 1, .int v1, .int v2, .int v3, .int v4, .int v5] I J R Q := by
  have i_v1 := i32 v1
  have i_v2 := i32 v2
  have i_v3 := i32 v3
  have i_v4 := i32 v4
  have i_v5 := i32 v5
  refine w_X11_pour ?_
  refine w_X11_isTray ?_
  refine ⟨fun c1 => ?_, fun c1 => ?_⟩
  · skip
    have d2 : ((v1.toInt) : Int) < (0) := ci_lt rfl rfl c1
    refine ⟨Or.inl rfl, ?_⟩
    intro o3
    refine ⟨fun c4 => ?_, fun c4 => ?_⟩
    · skip
      refine w_X11_deny ?_
      have hB5 : Bd (uI I 1 0 1) := Bd.o0 hB0 io9_112_1_11 (by omega) bd9_11_0
      refine ⟨Or.inl rfl, ?_⟩
      intro o6
      refine ⟨Or.inl rfl, ?_⟩
      exact hQ _ _ _ _ hB5 (by have q0 : (0 : Int32).toInt = 0 := rfl; omega)
    · exact absurd c4 (by decide)
  · skip
    have d7 : ((0) : Int) ≤ (v1.toInt) := ci_nlt rfl rfl c1
    refine ⟨fun c8 => ?_, fun c8 => ?_⟩
    · skip
      have d9 : ((4) : Int) ≤ (v1.toInt) := ci_le rfl rfl c8
      refine ⟨Or.inl rfl, ?_⟩
      intro o10
      refine ⟨fun c11 => ?_, fun c11 => ?_⟩
      · skip
        refine w_X11_deny ?_
        have hB12 : Bd (uI I 1 0 1) := Bd.o0 hB0 io9_112_1_11 (by omega) bd9_11_0
        refine ⟨Or.inl rfl, ?_⟩
        intro o13
        refine ⟨Or.inl rfl, ?_⟩
        exact hQ _ _ _ _ hB12 (by have q0 : (0 : Int32).toInt = 0 := rfl; omega)
      · exact absurd c11 (by decide)
    · skip
      have d14 : ((v1.toInt) : Int) < (4) := ci_nle rfl rfl c8
      refine ⟨Or.inr rfl, ?_⟩
      intro o15
      refine ⟨fun c16 => ?_, fun c16 => ?_⟩
      · exact absurd c16 (by decide)
      · skip
        refine w_X11_isTray ?_
        refine ⟨fun c17 => ?_, fun c17 => ?_⟩
        · skip
          have d18 : ((v3.toInt) : Int) < (0) := ci_lt rfl rfl c17
          refine ⟨Or.inl rfl, ?_⟩
          intro o19
          refine ⟨fun c20 => ?_, fun c20 => ?_⟩
          · exact absurd c20 (by decide)
          · skip
            refine w_X11_deny ?_
            have hB21 : Bd (uI I 1 0 1) := Bd.o0 hB0 io9_112_1_11 (by omega) bd9_11_0
            refine ⟨Or.inl rfl, ?_⟩
            intro o22
            refine ⟨Or.inl rfl, ?_⟩
            exact hQ _ _ _ _ hB21 (by have q0 : (0 : Int32).toInt = 0 := rfl; omega)
        · skip
          have d23 : ((0) : Int) ≤ (v3.toInt) := ci_nlt rfl rfl c17
          refine ⟨fun c24 => ?_, fun c24 => ?_⟩
          · skip
            have d25 : ((4) : Int) ≤ (v3.toInt) := ci_le rfl rfl c24
            refine ⟨Or.inl rfl, ?_⟩
            intro o26
            refine ⟨fun c27 => ?_, fun c27 => ?_⟩
            · exact absurd c27 (by decide)
            · skip
              refine w_X11_deny ?_
              have hB28 : Bd (uI I 1 0 1) := Bd.o0 hB0 io9_112_1_11 (by omega) bd9_11_0
              refine ⟨Or.inl rfl, ?_⟩
              intro o29
              refine ⟨Or.inl rfl, ?_⟩
              exact hQ _ _ _ _ hB28 (by have q0 : (0 : Int32).toInt = 0 := rfl; omega)
          · skip
            have d30 : ((v3.toInt) : Int) < (4) := ci_nle rfl rfl c24
            refine ⟨Or.inr rfl, ?_⟩
            intro o31
            refine ⟨fun c32 => ?_, fun c32 => ?_⟩
            · skip
              refine ⟨vp_of (a := v1.toInt) rfl (by omega) (by omega), ?_⟩
              have hr33 := RI.tray hR0 (Int32.toNatClampNeg v1) (by rw [tn_of rfl (by omega)]; omega)
              refine ⟨hr33.1, ?_⟩
              refine ⟨vp_of (a := v3.toInt) rfl (by omega) (by omega), ?_⟩
              have hr34 := RI.tray hR0 (Int32.toNatClampNeg v3) (by rw [tn_of rfl (by omega)]; omega)
              refine ⟨hr34.1, ?_⟩
              refine bif_t hr33.2 ?_
              refine w_X10_isMissing ?_
              refine bif_t hr33.2 ?_
              refine ⟨fun c35 => ?_, fun c35 => ?_⟩
              · skip
                have b36 := Bd.o hB0 hr33.2 bd9_10_1
                have d37 : ((0) : Int) ≤ ((I (R 2 (Int32.toNatClampNeg v1)) 1).toInt) := ci_le rfl rfl c35
                refine ⟨Or.inl rfl, ?_⟩
                intro o38
                refine ⟨fun c39 => ?_, fun c39 => ?_⟩
                · exact absurd c39 (by decide)
                · skip
                  refine bif_t hr34.2 ?_
                  refine w_X10_isMissing ?_
                  refine bif_t hr34.2 ?_
                  refine ⟨fun c40 => ?_, fun c40 => ?_⟩
                  · skip
                    have b41 := Bd.o hB0 hr34.2 bd9_10_1
                    have d42 : ((0) : Int) ≤ ((I (R 2 (Int32.toNatClampNeg v3)) 1).toInt) := ci_le rfl rfl c40
                    refine ⟨Or.inl rfl, ?_⟩
                    intro o43
                    refine ⟨fun c44 => ?_, fun c44 => ?_⟩
                    · skip
                      refine bif_t hr33.2 ?_
                      refine bif_t hr34.2 ?_
                      refine ⟨fun c45 => ?_, fun c45 => ?_⟩
                      · skip
                        have d46 : (((I (R 2 (Int32.toNatClampNeg v1)) 0).toInt) : Int) = ((I (R 2 (Int32.toNatClampNeg v3)) 0).toInt) := ci_eq rfl rfl c45
                        refine ⟨fun c47 => ?_, fun c47 => ?_⟩
                        · skip
                          have d48 : ((0) : Int) ≤ (v5.toInt) := ci_le rfl rfl c47
                          refine bif_t hr33.2 ?_
                          refine w_X10_hasPlaces ?_
                          refine ⟨fun c49 => ?_, fun c49 => ?_⟩
                          · skip
                            have d50 : ((v2.toInt) : Int) < (0) := ci_lt rfl rfl c49
                            refine ⟨Or.inl rfl, ?_⟩
                            intro o51
                            refine ⟨fun c52 => ?_, fun c52 => ?_⟩
                            · skip
                              refine w_X11_deny ?_
                              have hB53 : Bd (uI I 1 0 4) := Bd.o0 hB0 io9_112_1_11 (by omega) bd9_11_0
                              refine ⟨Or.inl rfl, ?_⟩
                              intro o54
                              refine ⟨Or.inl rfl, ?_⟩
                              exact hQ _ _ _ _ hB53 (by have q0 : (0 : Int32).toInt = 0 := rfl; omega)
                            · exact absurd c52 (by decide)
                          · skip
                            have d55 : ((0) : Int) ≤ (v2.toInt) := ci_nlt rfl rfl c49
                            refine ⟨fun c56 => ?_, fun c56 => ?_⟩
                            · skip
                              have d57 : ((v5.toInt) : Int) < (0) := ci_lt rfl rfl c56
                              refine ⟨Or.inl rfl, ?_⟩
                              intro o58
                              refine ⟨fun c59 => ?_, fun c59 => ?_⟩
                              · skip
                                refine w_X11_deny ?_
                                have hB60 : Bd (uI I 1 0 4) := Bd.o0 hB0 io9_112_1_11 (by omega) bd9_11_0
                                refine ⟨Or.inl rfl, ?_⟩
                                intro o61
                                refine ⟨Or.inl rfl, ?_⟩
                                exact hQ _ _ _ _ hB60 (by have q0 : (0 : Int32).toInt = 0 := rfl; omega)
                              · exact absurd c59 (by decide)
                            · skip
                              have d62 : ((0) : Int) ≤ (v5.toInt) := ci_nlt rfl rfl c56
                              refine bif_t hr33.2 ?_
                              refine ⟨fun c63 => ?_, fun c63 => ?_⟩
                              · skip
                                rw [lg_cmp_gt] at c63
                                have e64 : (((Int32.toInt64 v2) + (Int32.toInt64 v5)) : Int64).toInt = (v2.toInt) + (v5.toInt) := tl_add (tl_i2l rfl) (tl_i2l rfl) (by omega)
                                have i65 := i32 ((I (R 2 (Int32.toNatClampNeg v1)) 1))
                                have d66 : (((I (R 2 (Int32.toNatClampNeg v1)) 1).toInt) : Int) < ((v2.toInt + v5.toInt)) := cl_lt (tl_i2l rfl) e64 c63
                                refine ⟨Or.inl rfl, ?_⟩
                                intro o67
                                refine ⟨fun c68 => ?_, fun c68 => ?_⟩
                                · skip
                                  refine w_X11_deny ?_
                                  have hB69 : Bd (uI I 1 0 4) := Bd.o0 hB0 io9_112_1_11 (by omega) bd9_11_0
                                  refine ⟨Or.inl rfl, ?_⟩
                                  intro o70
                                  refine ⟨Or.inl rfl, ?_⟩
                                  exact hQ _ _ _ _ hB69 (by have q0 : (0 : Int32).toInt = 0 := rfl; omega)
                                · exact absurd c68 (by decide)
                              · skip
                                rw [lg_cmp_gt] at c63
                                have e71 : (((Int32.toInt64 v2) + (Int32.toInt64 v5)) : Int64).toInt = (v2.toInt) + (v5.toInt) := tl_add (tl_i2l rfl) (tl_i2l rfl) (by omega)
                                have i72 := i32 ((I (R 2 (Int32.toNatClampNeg v1)) 1))
                                have d73 : (((v2.toInt + v5.toInt)) : Int) ≤ ((I (R 2 (Int32.toNatClampNeg v1)) 1).toInt) := cl_nlt (tl_i2l rfl) e71 c63
                                refine ⟨Or.inr rfl, ?_⟩
                                intro o74
                                refine ⟨fun c75 => ?_, fun c75 => ?_⟩
                                · exact absurd c75 (by decide)
                                · skip
                                  refine bif_t hr34.2 ?_
                                  refine w_X10_hasPlaces ?_
                                  refine ⟨fun c76 => ?_, fun c76 => ?_⟩
                                  · skip
                                    have d77 : ((v4.toInt) : Int) < (0) := ci_lt rfl rfl c76
                                    refine ⟨Or.inl rfl, ?_⟩
                                    intro o78
                                    refine ⟨fun c79 => ?_, fun c79 => ?_⟩
                                    · exact absurd c79 (by decide)
                                    · skip
                                      refine w_X11_deny ?_
                                      have hB80 : Bd (uI I 1 0 4) := Bd.o0 hB0 io9_112_1_11 (by omega) bd9_11_0
                                      refine ⟨Or.inl rfl, ?_⟩
                                      intro o81
                                      refine ⟨Or.inl rfl, ?_⟩
                                      exact hQ _ _ _ _ hB80 (by have q0 : (0 : Int32).toInt = 0 := rfl; omega)
                                  · skip
                                    have d82 : ((0) : Int) ≤ (v4.toInt) := ci_nlt rfl rfl c76
                                    refine ⟨fun c83 => ?_, fun c83 => ?_⟩
                                    · skip
                                      have d84 : ((v5.toInt) : Int) < (0) := ci_lt rfl rfl c83
                                      refine ⟨Or.inl rfl, ?_⟩
                                      intro o85
                                      refine ⟨fun c86 => ?_, fun c86 => ?_⟩
                                      · exact absurd c86 (by decide)
                                      · skip
                                        refine w_X11_deny ?_
                                        have hB87 : Bd (uI I 1 0 4) := Bd.o0 hB0 io9_112_1_11 (by omega) bd9_11_0
                                        refine ⟨Or.inl rfl, ?_⟩
                                        intro o88
                                        refine ⟨Or.inl rfl, ?_⟩
                                        exact hQ _ _ _ _ hB87 (by have q0 : (0 : Int32).toInt = 0 := rfl; omega)
                                    · skip
                                      have d89 : ((0) : Int) ≤ (v5.toInt) := ci_nlt rfl rfl c83
                                      refine bif_t hr34.2 ?_
                                      refine ⟨fun c90 => ?_, fun c90 => ?_⟩
                                      · skip
                                        rw [lg_cmp_gt] at c90
                                        have e91 : (((Int32.toInt64 v4) + (Int32.toInt64 v5)) : Int64).toInt = (v4.toInt) + (v5.toInt) := tl_add (tl_i2l rfl) (tl_i2l rfl) (by omega)
                                        have i92 := i32 ((I (R 2 (Int32.toNatClampNeg v3)) 1))
                                        have d93 : (((I (R 2 (Int32.toNatClampNeg v3)) 1).toInt) : Int) < ((v4.toInt + v5.toInt)) := cl_lt (tl_i2l rfl) e91 c90
                                        refine ⟨Or.inl rfl, ?_⟩
                                        intro o94
                                        refine ⟨fun c95 => ?_, fun c95 => ?_⟩
                                        · exact absurd c95 (by decide)
                                        · skip
                                          refine w_X11_deny ?_
                                          have hB96 : Bd (uI I 1 0 4) := Bd.o0 hB0 io9_112_1_11 (by omega) bd9_11_0
                                          refine ⟨Or.inl rfl, ?_⟩
                                          intro o97
                                          refine ⟨Or.inl rfl, ?_⟩
                                          exact hQ _ _ _ _ hB96 (by have q0 : (0 : Int32).toInt = 0 := rfl; omega)
                                      · skip
                                        rw [lg_cmp_gt] at c90
                                        have e98 : (((Int32.toInt64 v4) + (Int32.toInt64 v5)) : Int64).toInt = (v4.toInt) + (v5.toInt) := tl_add (tl_i2l rfl) (tl_i2l rfl) (by omega)
                                        have i99 := i32 ((I (R 2 (Int32.toNatClampNeg v3)) 1))
                                        have d100 : (((v4.toInt + v5.toInt)) : Int) ≤ ((I (R 2 (Int32.toNatClampNeg v3)) 1).toInt) := cl_nlt (tl_i2l rfl) e98 c90
                                        refine ⟨Or.inr rfl, ?_⟩
                                        intro o101
                                        refine ⟨fun c102 => ?_, fun c102 => ?_⟩
                                        · skip
                                          refine bif_t hr33.2 ?_
                                          refine bif_t hr34.2 ?_
                                          refine bif_t2 (fa_10_2 hr33.2).1 (fa_10_2 hr34.2).1 ?_
                                          refine ⟨⟨(fun z => by have z2 : (v2.toInt : Int) < 0 := ci_lt rfl rfl z; omega), (fun z => by have z2 : (v4.toInt : Int) < 0 := ci_lt rfl rfl z; omega), (fun z => by have z2 : (v5.toInt : Int) < 0 := ci_lt rfl rfl z; omega), (by (try rw [(fa_10_2 hr33.2).2.1]); have z1 := tn_of (show (v5 : Int32).toInt = v5.toInt from rfl) (by omega); have z2 := tn_of (show (v2 : Int32).toInt = v2.toInt from rfl) (by omega); omega), (by (try rw [(fa_10_2 hr34.2).2.1]); have z1 := tn_of (show (v5 : Int32).toInt = v5.toInt from rfl) (by omega); have z2 := tn_of (show (v4 : Int32).toInt = v4.toInt from rfl) (by omega); omega)⟩, ?_⟩
                                          refine w_X11_allow ?_
                                          have hB103 : Bd (uI I 1 0 0) := Bd.o0 hB0 io9_112_1_11 (by omega) bd9_11_0
                                          refine ⟨Or.inr rfl, ?_⟩
                                          intro o104
                                          refine ⟨Or.inr rfl, ?_⟩
                                          exact hQ _ _ _ _ hB103 (by have q0 : (1 : Int32).toInt = 1 := rfl; omega)
                                        · exact absurd c102 (by decide)
                        · skip
                          have d105 : ((v5.toInt) : Int) < (0) := ci_nle rfl rfl c47
                          refine w_X11_deny ?_
                          have hB106 : Bd (uI I 1 0 6) := Bd.o0 hB0 io9_112_1_11 (by omega) bd9_11_0
                          refine ⟨Or.inl rfl, ?_⟩
                          intro o107
                          refine ⟨Or.inl rfl, ?_⟩
                          exact hQ _ _ _ _ hB106 (by have q0 : (0 : Int32).toInt = 0 := rfl; omega)
                      · skip
                        have d108 : ¬ (((I (R 2 (Int32.toNatClampNeg v1)) 0).toInt) : Int) = ((I (R 2 (Int32.toNatClampNeg v3)) 0).toInt) := ci_ne rfl rfl c45
                        refine w_X11_deny ?_
                        have hB109 : Bd (uI I 1 0 11) := Bd.o0 hB0 io9_112_1_11 (by omega) bd9_11_0
                        refine ⟨Or.inl rfl, ?_⟩
                        intro o110
                        refine ⟨Or.inl rfl, ?_⟩
                        exact hQ _ _ _ _ hB109 (by have q0 : (0 : Int32).toInt = 0 := rfl; omega)
                    · exact absurd c44 (by decide)
                  · skip
                    have b111 := Bd.o hB0 hr34.2 bd9_10_1
                    have d112 : (((I (R 2 (Int32.toNatClampNeg v3)) 1).toInt) : Int) < (0) := ci_nle rfl rfl c40
                    refine ⟨Or.inr rfl, ?_⟩
                    intro o113
                    refine ⟨fun c114 => ?_, fun c114 => ?_⟩
                    · exact absurd c114 (by decide)
                    · skip
                      refine w_X11_deny ?_
                      have hB115 : Bd (uI I 1 0 3) := Bd.o0 hB0 io9_112_1_11 (by omega) bd9_11_0
                      refine ⟨Or.inl rfl, ?_⟩
                      intro o116
                      refine ⟨Or.inl rfl, ?_⟩
                      exact hQ _ _ _ _ hB115 (by have q0 : (0 : Int32).toInt = 0 := rfl; omega)
              · skip
                have b117 := Bd.o hB0 hr33.2 bd9_10_1
                have d118 : (((I (R 2 (Int32.toNatClampNeg v1)) 1).toInt) : Int) < (0) := ci_nle rfl rfl c35
                refine ⟨Or.inr rfl, ?_⟩
                intro o119
                refine ⟨fun c120 => ?_, fun c120 => ?_⟩
                · skip
                  refine w_X11_deny ?_
                  have hB121 : Bd (uI I 1 0 3) := Bd.o0 hB0 io9_112_1_11 (by omega) bd9_11_0
                  refine ⟨Or.inl rfl, ?_⟩
                  intro o122
                  refine ⟨Or.inl rfl, ?_⟩
                  exact hQ _ _ _ _ hB121 (by have q0 : (0 : Int32).toInt = 0 := rfl; omega)
                · exact absurd c120 (by decide)
            · exact absurd c32 (by decide)
set_option maxHeartbeats 2000000 in
theorem sp_X11_feed {d : Nat} {Q : Qt} {v1 : Int32} {v2 : Int32} {v3 : Int32} {v4 : Int32} {v5 : Int32} {I : Im} {J : Jm} {R : Rm} (hB0 : Bd I) (hR0 : RI R) (hQ : ∀ (x : Int32) (y : Int64) (I2 : Im) (J2 : Jm), Bd I2 → ((((I 3 1).toInt ≤ 880 ∧ x.toInt = (I 3 1).toInt + 20 ∧ (I2 3 1).toInt = (I 3 1).toInt + 20) ∨ (880 < (I 3 1).toInt ∧ x.toInt = -1 ∧ (I2 3 1).toInt = (I 3 1).toInt))) → Q x y I2 J2 R) : AM (d + 3) 107 112 [.ref 1, .int v1, .int v2, .int v3, .int v4, .int v5] I J R Q := by
  have i_v1 := i32 v1
  have i_v2 := i32 v2
  have i_v3 := i32 v3
  have i_v4 := i32 v4
  have i_v5 := i32 v5
  refine w_X11_feed ?_
  refine w_X6_hasRoom ?_
  refine ⟨fun c1 => ?_, fun c1 => ?_⟩
  · skip
    have b2 := Bd.o hB0 io9_112_3_6 bd9_6_1
    have e3 : (((I 3 1) + 20) : Int32).toInt = ((I 3 1).toInt) + (20) := ti_add rfl rfl (by omega)
    have d4 : ((900) : Int) < (((I 3 1).toInt + 20)) := ci_lt rfl e3 c1
    refine ⟨Or.inl rfl, ?_⟩
    intro o5
    refine ⟨fun c6 => ?_, fun c6 => ?_⟩
    · exact absurd c6 (by decide)
    · skip
      exact hQ _ _ _ _ hB0 (by have q2 : ((I 3 1) : Int32).toInt = (I 3 1).toInt := rfl; have q0 : ((-1) : Int32).toInt = (-1) := rfl; omega)
  · skip
    have b7 := Bd.o hB0 io9_112_3_6 bd9_6_1
    have e8 : (((I 3 1) + 20) : Int32).toInt = ((I 3 1).toInt) + (20) := ti_add rfl rfl (by omega)
    have d9 : ((((I 3 1).toInt + 20)) : Int) ≤ (900) := ci_nlt rfl e8 c1
    refine ⟨Or.inr rfl, ?_⟩
    intro o10
    refine ⟨fun c11 => ?_, fun c11 => ?_⟩
    · skip
      refine sp_X6_append hB0 hR0 (by have z : ((I 3 1) : Int32).toInt = (I 3 1).toInt := rfl; omega) (fun x12 y17 I13 J14 hB15 p16 => ?_)
      have b18 := Bd.o hB15 io9_112_3_6 bd9_6_1
      refine sp_X6_append hB15 hR0 (by have z : ((I13 3 1) : Int32).toInt = (I13 3 1).toInt := rfl; omega) (fun x19 y24 I20 J21 hB22 p23 => ?_)
      have b25 := Bd.o hB22 io9_112_3_6 bd9_6_1
      refine sp_X6_append hB22 hR0 (by have z : ((I20 3 1) : Int32).toInt = (I20 3 1).toInt := rfl; omega) (fun x26 y31 I27 J28 hB29 p30 => ?_)
      have b32 := Bd.o hB29 io9_112_3_6 bd9_6_1
      refine sp_X6_append hB29 hR0 (by have z : ((I27 3 1) : Int32).toInt = (I27 3 1).toInt := rfl; omega) (fun x33 y38 I34 J35 hB36 p37 => ?_)
      have b39 := Bd.o hB36 io9_112_3_6 bd9_6_1
      refine sp_X6_append hB36 hR0 (by have z : ((I34 3 1) : Int32).toInt = (I34 3 1).toInt := rfl; omega) (fun x40 y45 I41 J42 hB43 p44 => ?_)
      have b46 := Bd.o hB43 io9_112_3_6 bd9_6_1
      exact hQ _ _ _ _ hB43 (by have q2 : ((I41 3 1) : Int32).toInt = (I41 3 1).toInt := rfl; have q0 : ((I41 3 1) : Int32).toInt = (I41 3 1).toInt := rfl; omega)
    · exact absurd c11 (by decide)
set_option maxHeartbeats 2000000 in
theorem sp_X11_fault {d : Nat} {Q : Qt} {v1 : Int32} {I : Im} {J : Jm} {R : Rm} (hB0 : Bd I) (hR0 : RI R) (hQ : ∀ (x : Int32) (y : Int64) (I2 : Im) (J2 : Jm), Bd I2 → (True) → Q x y I2 J2 R) : AM (d + 1) 110 112 [.ref 1, .int v1] I J R Q := by
  have i_v1 := i32 v1
  refine w_X11_fault ?_
  refine ⟨fun c1 => ?_, fun c1 => ?_⟩
  · skip
    have b2 := Bd.o hB0 io9_112_3_6 bd9_6_3
    have d3 : ¬ (((I 3 3).toInt) : Int) = (0) := ci_ne rfl rfl c1
    refine ⟨fun c4 => ?_, fun c4 => ?_⟩
    · skip
      have d5 : ¬ ((v1.toInt) : Int) = (0) := ci_ne rfl rfl c4
      refine ⟨fun c6 => ?_, fun c6 => ?_⟩
      · skip
        have d7 : ¬ ((v1.toInt) : Int) = (1) := ci_ne rfl rfl c6
        exact hQ _ _ _ _ hB0 trivial
      · skip
        have d8 : ((v1.toInt) : Int) = (1) := ci_eq rfl rfl c6
        exact hQ _ _ _ _ hB0 trivial
    · skip
      have d9 : ((v1.toInt) : Int) = (0) := ci_eq rfl rfl c4
      exact hQ _ _ _ _ hB0 trivial
  · skip
    have b10 := Bd.o hB0 io9_112_3_6 bd9_6_3
    have d11 : (((I 3 3).toInt) : Int) = (0) := ci_eq rfl rfl c1
    exact hQ _ _ _ _ hB0 trivial
set_option maxHeartbeats 2000000 in
theorem sp_X11_many {d : Nat} {Q : Qt} {v1 : Int32} {I : Im} {J : Jm} {R : Rm} (hB0 : Bd I) (hR0 : RI R) (hQ : ∀ (x : Int32) (y : Int64) (I2 : Im) (J2 : Jm), Bd I2 → (True) → Q x y I2 J2 R) : AM (d + 5) 111 112 [.ref 1, .int v1] I J R Q := by
  have i_v1 := i32 v1
  refine w_X11_many ?_
  refine ⟨fun c1 => ?_, fun c1 => ?_⟩
  · skip
    have d2 : ((v1.toInt) : Int) = (0) := ci_eq rfl rfl c1
    refine ⟨(RI.now hR0).2, ?_⟩
    refine bif_t (RI.now hR0).1 ?_
    refine w_X11_answer ?_
    have hB3 : Bd (uI I 1 0 0) := Bd.o0 hB0 io9_112_1_11 (by omega) bd9_11_0
    exact hQ _ _ _ _ hB3 trivial
  · skip
    have d4 : ¬ ((v1.toInt) : Int) = (0) := ci_ne rfl rfl c1
    refine ⟨fun c5 => ?_, fun c5 => ?_⟩
    · skip
      have d6 : ((v1.toInt) : Int) = (1) := ci_eq rfl rfl c5
      refine ⟨(RI.now hR0).2, ?_⟩
      refine bif_t (RI.now hR0).1 ?_
      refine sp_X0_pieces hB0 hR0 (RI.now hR0).1 (fun x7 y12 I8 J9 hB10 p11 => ?_)
      have i13 := i32 x7
      refine w_X11_answer ?_
      have hB14 : Bd (uI I8 1 0 0) := Bd.o0 hB10 io9_112_1_11 (by omega) bd9_11_0
      exact hQ _ _ _ _ hB14 trivial
    · skip
      have d15 : ¬ ((v1.toInt) : Int) = (1) := ci_ne rfl rfl c5
      refine ⟨fun c16 => ?_, fun c16 => ?_⟩
      · skip
        have d17 : ((v1.toInt) : Int) = (2) := ci_eq rfl rfl c16
        refine ⟨(RI.now hR0).2, ?_⟩
        refine bif_t (RI.now hR0).1 ?_
        refine sp_X0_stockSet hB0 hR0 (RI.now hR0).1 (fun x18 y23 I19 J20 hB21 p22 => ?_)
        have i24 := i32 x18
        refine sp_J6_bitCount_0f7a4 hB21 hR0 (fun x25 y30 I26 J27 hB28 p29 => ?_)
        obtain ⟨heI26, p29⟩ := p29
        subst heI26
        have i31 := i32 x25
        refine w_X11_answer ?_
        have hB32 : Bd (uI I19 1 0 0) := Bd.o0 hB21 io9_112_1_11 (by omega) bd9_11_0
        exact hQ _ _ _ _ hB32 trivial
      · skip
        have d33 : ¬ ((v1.toInt) : Int) = (2) := ci_ne rfl rfl c16
        refine ⟨fun c34 => ?_, fun c34 => ?_⟩
        · skip
          have d35 : ((v1.toInt) : Int) = (3) := ci_eq rfl rfl c34
          refine ⟨(RI.now hR0).2, ?_⟩
          refine bif_t (RI.now hR0).1 ?_
          refine w_X11_answer ?_
          have hB36 : Bd (uI I 1 0 0) := Bd.o0 hB0 io9_112_1_11 (by omega) bd9_11_0
          exact hQ _ _ _ _ hB36 trivial
        · skip
          have d37 : ¬ ((v1.toInt) : Int) = (3) := ci_ne rfl rfl c34
          refine ⟨fun c38 => ?_, fun c38 => ?_⟩
          · skip
            have d39 : ((v1.toInt) : Int) = (4) := ci_eq rfl rfl c38
            refine ⟨(RI.now hR0).2, ?_⟩
            refine bif_t (RI.now hR0).1 ?_
            refine w_X11_answer ?_
            have hB40 : Bd (uI I 1 0 0) := Bd.o0 hB0 io9_112_1_11 (by omega) bd9_11_0
            exact hQ _ _ _ _ hB40 trivial
          · skip
            have d41 : ¬ ((v1.toInt) : Int) = (4) := ci_ne rfl rfl c38
            refine ⟨fun c42 => ?_, fun c42 => ?_⟩
            · skip
              have d43 : ((v1.toInt) : Int) = (5) := ci_eq rfl rfl c42
              refine ⟨(RI.now hR0).2, ?_⟩
              refine bif_t (RI.now hR0).1 ?_
              refine w_X11_answer ?_
              have hB44 : Bd (uI I 1 0 0) := Bd.o0 hB0 io9_112_1_11 (by omega) bd9_11_0
              exact hQ _ _ _ _ hB44 trivial
            · skip
              have d45 : ¬ ((v1.toInt) : Int) = (5) := ci_ne rfl rfl c42
              refine ⟨fun c46 => ?_, fun c46 => ?_⟩
              · skip
                have d47 : ((v1.toInt) : Int) = (6) := ci_eq rfl rfl c46
                refine ⟨(RI.now hR0).2, ?_⟩
                refine bif_t (RI.now hR0).1 ?_
                refine sp_X0_evenMen hB0 hR0 (RI.now hR0).1 (fun x48 y53 I49 J50 hB51 p52 => ?_)
                have i54 := i32 x48
                refine w_X11_answer ?_
                have hB55 : Bd (uI I49 1 0 0) := Bd.o0 hB51 io9_112_1_11 (by omega) bd9_11_0
                exact hQ _ _ _ _ hB55 trivial
              · skip
                have d56 : ¬ ((v1.toInt) : Int) = (6) := ci_ne rfl rfl c46
                refine w_X11_refuse ?_
                have hB57 : Bd (uI I 1 0 5) := Bd.o0 hB0 io9_112_1_11 (by omega) bd9_11_0
                exact hQ _ _ _ _ hB57 trivial
set_option maxHeartbeats 2000000 in
theorem sp_X11_store {d : Nat} {Q : Qt} {v1 : Int32} {I : Im} {J : Jm} {R : Rm} (hB0 : Bd I) (hR0 : RI R) (hQ : ∀ (x : Int32) (y : Int64) (I2 : Im) (J2 : Jm), Bd I2 → (True) → Q x y I2 J2 R) : AM (d + 2) 112 112 [.ref 1, .int v1] I J R Q := by
  have i_v1 := i32 v1
  refine w_X11_store ?_
  refine w_X11_isSlice ?_
  refine ⟨fun c1 => ?_, fun c1 => ?_⟩
  · skip
    have d2 : ((v1.toInt) : Int) < (1) := ci_lt rfl rfl c1
    refine ⟨Or.inl rfl, ?_⟩
    intro o3
    refine ⟨fun c4 => ?_, fun c4 => ?_⟩
    · exact absurd c4 (by decide)
    · skip
      refine w_X11_refuse ?_
      have hB5 : Bd (uI I 1 0 2) := Bd.o0 hB0 io9_112_1_11 (by omega) bd9_11_0
      exact hQ _ _ _ _ hB5 trivial
  · skip
    have d6 : ((1) : Int) ≤ (v1.toInt) := ci_nlt rfl rfl c1
    refine ⟨fun c7 => ?_, fun c7 => ?_⟩
    · skip
      have d8 : ((30) : Int) < (v1.toInt) := ci_lt rfl rfl c7
      refine ⟨Or.inl rfl, ?_⟩
      intro o9
      refine ⟨fun c10 => ?_, fun c10 => ?_⟩
      · exact absurd c10 (by decide)
      · skip
        refine w_X11_refuse ?_
        have hB11 : Bd (uI I 1 0 2) := Bd.o0 hB0 io9_112_1_11 (by omega) bd9_11_0
        exact hQ _ _ _ _ hB11 trivial
    · skip
      have d12 : ((v1.toInt) : Int) ≤ (30) := ci_nlt rfl rfl c7
      refine ⟨Or.inr rfl, ?_⟩
      intro o13
      refine ⟨fun c14 => ?_, fun c14 => ?_⟩
      · skip
        refine ⟨(RI.now hR0).2, ?_⟩
        refine bif_t (RI.now hR0).1 ?_
        refine bif_t (fa_0_0 (RI.now hR0).1).1 ?_
        refine ⟨by rw [(fa_0_0 (RI.now hR0).1).2.1]; exact vp_of (a := v1.toInt) rfl (by omega) (by omega), ?_⟩
        refine w_X11_answer ?_
        have hB15 : Bd (uI I 1 0 0) := Bd.o0 hB0 io9_112_1_11 (by omega) bd9_11_0
        exact hQ _ _ _ _ hB15 trivial
      · exact absurd c14 (by decide)
set_option maxHeartbeats 2000000 in
theorem sp_X11_man {d : Nat} {Q : Qt} {v1 : Int32} {v2 : Int32} {I : Im} {J : Jm} {R : Rm} (hB0 : Bd I) (hR0 : RI R) (hQ : ∀ (x : Int32) (y : Int64) (I2 : Im) (J2 : Jm), Bd I2 → (True) → Q x y I2 J2 R) : AM (d + 2) 113 112 [.ref 1, .int v1, .int v2] I J R Q := by
  have i_v1 := i32 v1
  have i_v2 := i32 v2
  refine w_X11_man ?_
  refine ⟨(RI.now hR0).2, ?_⟩
  refine bif_t (RI.now hR0).1 ?_
  refine w_X0_isMan ?_
  refine ⟨fun c1 => ?_, fun c1 => ?_⟩
  · skip
    have d2 : ((v1.toInt) : Int) < (0) := ci_lt rfl rfl c1
    refine ⟨Or.inl rfl, ?_⟩
    intro o3
    refine ⟨fun c4 => ?_, fun c4 => ?_⟩
    · exact absurd c4 (by decide)
    · skip
      refine w_X11_refuse ?_
      have hB5 : Bd (uI I 1 0 2) := Bd.o0 hB0 io9_112_1_11 (by omega) bd9_11_0
      exact hQ _ _ _ _ hB5 trivial
  · skip
    have d6 : ((0) : Int) ≤ (v1.toInt) := ci_nlt rfl rfl c1
    refine bif_t (RI.now hR0).1 ?_
    refine ⟨fun c7 => ?_, fun c7 => ?_⟩
    · skip
      have b8 := Bd.o hB0 (RI.now hR0).1 bd9_0_4
      have d9 : (((I (R 1 7) 4).toInt) : Int) ≤ (v1.toInt) := ci_le rfl rfl c7
      refine ⟨Or.inl rfl, ?_⟩
      intro o10
      refine ⟨fun c11 => ?_, fun c11 => ?_⟩
      · exact absurd c11 (by decide)
      · skip
        refine w_X11_refuse ?_
        have hB12 : Bd (uI I 1 0 2) := Bd.o0 hB0 io9_112_1_11 (by omega) bd9_11_0
        exact hQ _ _ _ _ hB12 trivial
    · skip
      have b13 := Bd.o hB0 (RI.now hR0).1 bd9_0_4
      have d14 : ((v1.toInt) : Int) < ((I (R 1 7) 4).toInt) := ci_nle rfl rfl c7
      refine ⟨Or.inr rfl, ?_⟩
      intro o15
      refine ⟨fun c16 => ?_, fun c16 => ?_⟩
      · skip
        refine ⟨fun c17 => ?_, fun c17 => ?_⟩
        · skip
          have d18 : ((v2.toInt) : Int) = (0) := ci_eq rfl rfl c17
          refine ⟨(RI.now hR0).2, ?_⟩
          refine bif_t (RI.now hR0).1 ?_
          refine bif_t (fa_0_6 (RI.now hR0).1).1 ?_
          refine ⟨by rw [(fa_0_6 (RI.now hR0).1).2.1]; exact vp_of (a := v1.toInt) rfl (by omega) (by omega), ?_⟩
          refine w_X11_answer ?_
          have hB19 : Bd (uI I 1 0 0) := Bd.o0 hB0 io9_112_1_11 (by omega) bd9_11_0
          exact hQ _ _ _ _ hB19 trivial
        · skip
          have d20 : ¬ ((v2.toInt) : Int) = (0) := ci_ne rfl rfl c17
          refine ⟨fun c21 => ?_, fun c21 => ?_⟩
          · skip
            have d22 : ((v2.toInt) : Int) = (1) := ci_eq rfl rfl c21
            refine ⟨(RI.now hR0).2, ?_⟩
            refine bif_t (RI.now hR0).1 ?_
            refine bif_t (fa_0_7 (RI.now hR0).1).1 ?_
            refine ⟨by rw [(fa_0_7 (RI.now hR0).1).2.1]; exact vp_of (a := v1.toInt) rfl (by omega) (by omega), ?_⟩
            refine w_X11_answer ?_
            have hB23 : Bd (uI I 1 0 0) := Bd.o0 hB0 io9_112_1_11 (by omega) bd9_11_0
            exact hQ _ _ _ _ hB23 trivial
          · skip
            have d24 : ¬ ((v2.toInt) : Int) = (1) := ci_ne rfl rfl c21
            refine ⟨fun c25 => ?_, fun c25 => ?_⟩
            · skip
              have d26 : ((v2.toInt) : Int) = (2) := ci_eq rfl rfl c25
              refine ⟨(RI.now hR0).2, ?_⟩
              refine bif_t (RI.now hR0).1 ?_
              refine bif_t (fa_0_8 (RI.now hR0).1).1 ?_
              refine ⟨by rw [(fa_0_8 (RI.now hR0).1).2.1]; exact vp_of (a := v1.toInt) rfl (by omega) (by omega), ?_⟩
              refine w_X11_answer ?_
              have hB27 : Bd (uI I 1 0 0) := Bd.o0 hB0 io9_112_1_11 (by omega) bd9_11_0
              exact hQ _ _ _ _ hB27 trivial
            · skip
              have d28 : ¬ ((v2.toInt) : Int) = (2) := ci_ne rfl rfl c25
              refine w_X11_refuse ?_
              have hB29 : Bd (uI I 1 0 5) := Bd.o0 hB0 io9_112_1_11 (by omega) bd9_11_0
              exact hQ _ _ _ _ hB29 trivial
      · exact absurd c16 (by decide)
