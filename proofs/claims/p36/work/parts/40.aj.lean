set_option maxHeartbeats 2000000 in
theorem sp_X11_has {d : Nat} {Q : Qt} {v1 : Int32} {I : Im} {J : Jm} {R : Rm} (hB0 : Bd I) (hR0 : RI R) (hQ : ∀ (x : Int32) (y : Int64) (I2 : Im) (J2 : Jm), Bd I2 → (True) → Q x y I2 J2 R) : AM (d + 3) 114 112 [.ref 1, .int v1] I J R Q := by
  have i_v1 := i32 v1
  refine w_X11_has ?_
  refine ⟨(RI.now hR0).2, ?_⟩
  refine bif_t (RI.now hR0).1 ?_
  refine w_X0_isMan ?_
  refine ⟨fun c1 => ?_, fun c1 => ?_⟩
  · skip
    have d2 : ((v1.toInt) : Int) < (0) := ci_lt rfl rfl c1
    refine ⟨Or.inl rfl, ?_⟩
    intro o3
    refine ⟨fun c4 => ?_, fun c4 => ?_⟩
    · exact absurd c4 (by decide)
    · skip
      refine w_X11_deny ?_
      have hB5 : Bd (uI I 1 0 2) := Bd.o0 hB0 io9_112_1_11 (by omega) bd9_11_0
      refine ⟨Or.inl rfl, ?_⟩
      intro o6
      refine ⟨Or.inl rfl, ?_⟩
      exact hQ _ _ _ _ hB5 trivial
  · skip
    have d7 : ((0) : Int) ≤ (v1.toInt) := ci_nlt rfl rfl c1
    refine bif_t (RI.now hR0).1 ?_
    refine ⟨fun c8 => ?_, fun c8 => ?_⟩
    · skip
      have b9 := Bd.o hB0 (RI.now hR0).1 bd9_0_4
      have d10 : (((I (R 1 7) 4).toInt) : Int) ≤ (v1.toInt) := ci_le rfl rfl c8
      refine ⟨Or.inl rfl, ?_⟩
      intro o11
      refine ⟨fun c12 => ?_, fun c12 => ?_⟩
      · exact absurd c12 (by decide)
      · skip
        refine w_X11_deny ?_
        have hB13 : Bd (uI I 1 0 2) := Bd.o0 hB0 io9_112_1_11 (by omega) bd9_11_0
        refine ⟨Or.inl rfl, ?_⟩
        intro o14
        refine ⟨Or.inl rfl, ?_⟩
        exact hQ _ _ _ _ hB13 trivial
    · skip
      have b15 := Bd.o hB0 (RI.now hR0).1 bd9_0_4
      have d16 : ((v1.toInt) : Int) < ((I (R 1 7) 4).toInt) := ci_nle rfl rfl c8
      refine ⟨Or.inr rfl, ?_⟩
      intro o17
      refine ⟨fun c18 => ?_, fun c18 => ?_⟩
      · skip
        refine ⟨(RI.now hR0).2, ?_⟩
        refine bif_t (RI.now hR0).1 ?_
        refine sp_X0_holding hB0 hR0 (RI.now hR0).1 (by have z : (v1 : Int32).toInt = v1.toInt := rfl; omega) (fun x19 y24 I20 J21 hB22 p23 => ?_)
        refine sp_X11_tell hB22 hR0 (fun x25 y30 I26 J27 hB28 p29 => ?_)
        intro o31
        have i32 := i32 x25
        refine ⟨o31, ?_⟩
        exact hQ _ _ _ _ hB28 trivial
      · exact absurd c18 (by decide)
set_option maxHeartbeats 2000000 in
theorem sp_X11_lacks {d : Nat} {Q : Qt} {v1 : Int32} {I : Im} {J : Jm} {R : Rm} (hB0 : Bd I) (hR0 : RI R) (hQ : ∀ (x : Int32) (y : Int64) (I2 : Im) (J2 : Jm), Bd I2 → (True) → Q x y I2 J2 R) : AM (d + 4) 115 112 [.ref 1, .int v1] I J R Q := by
  have i_v1 := i32 v1
  refine w_X11_lacks ?_
  refine ⟨(RI.now hR0).2, ?_⟩
  refine bif_t (RI.now hR0).1 ?_
  refine w_X0_isMan ?_
  refine ⟨fun c1 => ?_, fun c1 => ?_⟩
  · skip
    have d2 : ((v1.toInt) : Int) < (0) := ci_lt rfl rfl c1
    refine ⟨Or.inl rfl, ?_⟩
    intro o3
    refine ⟨fun c4 => ?_, fun c4 => ?_⟩
    · exact absurd c4 (by decide)
    · skip
      refine w_X11_deny ?_
      have hB5 : Bd (uI I 1 0 2) := Bd.o0 hB0 io9_112_1_11 (by omega) bd9_11_0
      refine ⟨Or.inl rfl, ?_⟩
      intro o6
      refine ⟨Or.inl rfl, ?_⟩
      exact hQ _ _ _ _ hB5 trivial
  · skip
    have d7 : ((0) : Int) ≤ (v1.toInt) := ci_nlt rfl rfl c1
    refine bif_t (RI.now hR0).1 ?_
    refine ⟨fun c8 => ?_, fun c8 => ?_⟩
    · skip
      have b9 := Bd.o hB0 (RI.now hR0).1 bd9_0_4
      have d10 : (((I (R 1 7) 4).toInt) : Int) ≤ (v1.toInt) := ci_le rfl rfl c8
      refine ⟨Or.inl rfl, ?_⟩
      intro o11
      refine ⟨fun c12 => ?_, fun c12 => ?_⟩
      · exact absurd c12 (by decide)
      · skip
        refine w_X11_deny ?_
        have hB13 : Bd (uI I 1 0 2) := Bd.o0 hB0 io9_112_1_11 (by omega) bd9_11_0
        refine ⟨Or.inl rfl, ?_⟩
        intro o14
        refine ⟨Or.inl rfl, ?_⟩
        exact hQ _ _ _ _ hB13 trivial
    · skip
      have b15 := Bd.o hB0 (RI.now hR0).1 bd9_0_4
      have d16 : ((v1.toInt) : Int) < ((I (R 1 7) 4).toInt) := ci_nle rfl rfl c8
      refine ⟨Or.inr rfl, ?_⟩
      intro o17
      refine ⟨fun c18 => ?_, fun c18 => ?_⟩
      · skip
        refine ⟨(RI.now hR0).2, ?_⟩
        refine bif_t (RI.now hR0).1 ?_
        refine sp_X0_lacking hB0 hR0 (RI.now hR0).1 (by have z : (v1 : Int32).toInt = v1.toInt := rfl; omega) (fun x19 y24 I20 J21 hB22 p23 => ?_)
        refine sp_X11_tell hB22 hR0 (fun x25 y30 I26 J27 hB28 p29 => ?_)
        intro o31
        have i32 := i32 x25
        refine ⟨o31, ?_⟩
        exact hQ _ _ _ _ hB28 trivial
      · exact absurd c18 (by decide)
set_option maxHeartbeats 2000000 in
theorem sp_X11_worth {d : Nat} {Q : Qt} {I : Im} {J : Jm} {R : Rm} (hB0 : Bd I) (hR0 : RI R) (hQ : ∀ (x : Int32) (y : Int64) (I2 : Im) (J2 : Jm), Bd I2 → ((x.toInt = 1)) → Q x y I2 J2 R) : AM (d + 3) 116 112 [.ref 1] I J R Q := by
  refine w_X11_worth ?_
  refine ⟨(RI.now hR0).2, ?_⟩
  refine bif_t (RI.now hR0).1 ?_
  refine sp_X0_stockCrumbs hB0 hR0 (RI.now hR0).1 (fun x1 y6 I2 J3 hB4 p5 => ?_)
  refine sp_X11_tell hB4 hR0 (fun x7 y12 I8 J9 hB10 p11 => ?_)
  intro o13
  have i14 := i32 x7
  refine ⟨o13, ?_⟩
  exact hQ _ _ _ _ hB10 (by have q0 : (x7 : Int32).toInt = x7.toInt := rfl; omega)
set_option maxHeartbeats 2000000 in
theorem sp_X11_bake {d : Nat} {Q : Qt} {v1 : Int32} {I : Im} {J : Jm} {R : Rm} (hB0 : Bd I) (hR0 : RI R) (hQ : ∀ (x : Int32) (y : Int64) (I2 : Im) (J2 : Jm), Bd I2 → (True) → Q x y I2 J2 R) : AM (d + 2) 118 112 [.ref 1, .int v1] I J R Q := by
  have i_v1 := i32 v1
  refine w_X11_bake ?_
  refine ⟨(RI.now hR0).2, ?_⟩
  refine bif_t (RI.now hR0).1 ?_
  refine sp_X0_addLoaves hB0 hR0 (RI.now hR0).1 (fun x1 y6 I2 J3 hB4 p5 => ?_)
  have i7 := i32 x1
  refine ⟨fun c8 => ?_, fun c8 => ?_⟩
  · skip
    have d9 : ¬ ((x1.toInt) : Int) = (0) := ci_ne rfl rfl c8
    refine w_X11_refuse ?_
    have hB10 : Bd (uI I2 1 0 x1) := Bd.o0 hB4 io9_112_1_11 (by omega) bd9_11_0
    exact hQ _ _ _ _ hB10 trivial
  · skip
    have d11 : ((x1.toInt) : Int) = (0) := ci_eq rfl rfl c8
    refine ⟨(RI.now hR0).2, ?_⟩
    refine bif_t (RI.now hR0).1 ?_
    refine bif_t (fa_0_0 (RI.now hR0).1).1 ?_
    refine ⟨by rw [(fa_0_0 (RI.now hR0).1).2.1]; exact vp_of (a := 1) rfl (by omega) (by omega), ?_⟩
    refine w_X11_answer ?_
    have hB12 : Bd (uI I2 1 0 0) := Bd.o0 hB4 io9_112_1_11 (by omega) bd9_11_0
    exact hQ _ _ _ _ hB12 trivial
set_option maxHeartbeats 2000000 in
theorem sp_X11_cut {d : Nat} {Q : Qt} {v1 : Int32} {v2 : Int32} {v3 : Int32} {I : Im} {J : Jm} {R : Rm} (hB0 : Bd I) (hR0 : RI R) (hQ : ∀ (x : Int32) (y : Int64) (I2 : Im) (J2 : Jm), Bd I2 → (True) → Q x y I2 J2 R) : AM (d + 3) 119 112 [.ref 1, .int v1, .int v2, .int v3] I J R Q := by
  have i_v1 := i32 v1
  have i_v2 := i32 v2
  have i_v3 := i32 v3
  refine w_X11_cut ?_
  refine ⟨(RI.now hR0).2, ?_⟩
  refine bif_t (RI.now hR0).1 ?_
  refine sp_X0_cutUp hB0 hR0 (RI.now hR0).1 (fun x1 y6 I2 J3 hB4 p5 => ?_)
  have i7 := i32 x1
  refine ⟨fun c8 => ?_, fun c8 => ?_⟩
  · skip
    have d9 : ¬ ((x1.toInt) : Int) = (0) := ci_ne rfl rfl c8
    refine w_X11_refuse ?_
    have hB10 : Bd (uI I2 1 0 x1) := Bd.o0 hB4 io9_112_1_11 (by omega) bd9_11_0
    exact hQ _ _ _ _ hB10 trivial
  · skip
    have d11 : ((x1.toInt) : Int) = (0) := ci_eq rfl rfl c8
    refine ⟨(RI.now hR0).2, ?_⟩
    refine bif_t (RI.now hR0).1 ?_
    refine sp_X0_pieces hB4 hR0 (RI.now hR0).1 (fun x12 y17 I13 J14 hB15 p16 => ?_)
    have i18 := i32 x12
    refine w_X11_answer ?_
    have hB19 : Bd (uI I13 1 0 0) := Bd.o0 hB15 io9_112_1_11 (by omega) bd9_11_0
    exact hQ _ _ _ _ hB19 trivial
set_option maxHeartbeats 2000000 in
theorem sp_X11_split {d : Nat} {Q : Qt} {v1 : Int32} {v2 : Int32} {I : Im} {J : Jm} {R : Rm} (hB0 : Bd I) (hR0 : RI R) (hQ : ∀ (x : Int32) (y : Int64) (I2 : Im) (J2 : Jm), Bd I2 → (True) → Q x y I2 J2 R) : AM (d + 3) 120 112 [.ref 1, .int v1, .int v2] I J R Q := by
  have i_v1 := i32 v1
  have i_v2 := i32 v2
  refine w_X11_split ?_
  refine ⟨(RI.now hR0).2, ?_⟩
  refine bif_t (RI.now hR0).1 ?_
  refine sp_X0_splitUp hB0 hR0 (RI.now hR0).1 (fun x1 y6 I2 J3 hB4 p5 => ?_)
  have i7 := i32 x1
  refine ⟨fun c8 => ?_, fun c8 => ?_⟩
  · skip
    have d9 : ¬ ((x1.toInt) : Int) = (0) := ci_ne rfl rfl c8
    refine w_X11_refuse ?_
    have hB10 : Bd (uI I2 1 0 x1) := Bd.o0 hB4 io9_112_1_11 (by omega) bd9_11_0
    exact hQ _ _ _ _ hB10 trivial
  · skip
    have d11 : ((x1.toInt) : Int) = (0) := ci_eq rfl rfl c8
    refine ⟨(RI.now hR0).2, ?_⟩
    refine bif_t (RI.now hR0).1 ?_
    refine sp_X0_pieces hB4 hR0 (RI.now hR0).1 (fun x12 y17 I13 J14 hB15 p16 => ?_)
    have i18 := i32 x12
    refine w_X11_answer ?_
    have hB19 : Bd (uI I13 1 0 0) := Bd.o0 hB15 io9_112_1_11 (by omega) bd9_11_0
    exact hQ _ _ _ _ hB19 trivial
set_option maxHeartbeats 2000000 in
theorem sp_X11_give {d : Nat} {Q : Qt} {v1 : Int32} {v2 : Int32} {I : Im} {J : Jm} {R : Rm} (hB0 : Bd I) (hR0 : RI R) (hQ : ∀ (x : Int32) (y : Int64) (I2 : Im) (J2 : Jm), Bd I2 → (True) → Q x y I2 J2 R) : AM (d + 3) 121 112 [.ref 1, .int v1, .int v2] I J R Q := by
  have i_v1 := i32 v1
  have i_v2 := i32 v2
  refine w_X11_give ?_
  refine ⟨(RI.now hR0).2, ?_⟩
  refine bif_t (RI.now hR0).1 ?_
  refine sp_X0_handOver hB0 hR0 (RI.now hR0).1 (fun x1 y6 I2 J3 hB4 p5 => ?_)
  have i7 := i32 x1
  refine ⟨fun c8 => ?_, fun c8 => ?_⟩
  · skip
    have d9 : ¬ ((x1.toInt) : Int) = (0) := ci_ne rfl rfl c8
    refine w_X11_refuse ?_
    have hB10 : Bd (uI I2 1 0 x1) := Bd.o0 hB4 io9_112_1_11 (by omega) bd9_11_0
    exact hQ _ _ _ _ hB10 trivial
  · skip
    have d11 : ((x1.toInt) : Int) = (0) := ci_eq rfl rfl c8
    refine ⟨(RI.now hR0).2, ?_⟩
    refine bif_t (RI.now hR0).1 ?_
    refine bif_t (fa_0_8 (RI.now hR0).1).1 ?_
    refine ⟨by rw [(fa_0_8 (RI.now hR0).1).2.1]; exact vp_of (a := v1.toInt) rfl (by omega) (by omega), ?_⟩
    refine sp_J6_bitCount_0f7a4 hB4 hR0 (fun x12 y17 I13 J14 hB15 p16 => ?_)
    obtain ⟨heI13, p16⟩ := p16
    subst heI13
    have i18 := i32 x12
    refine w_X11_answer ?_
    have hB19 : Bd (uI I2 1 0 0) := Bd.o0 hB4 io9_112_1_11 (by omega) bd9_11_0
    exact hQ _ _ _ _ hB19 trivial
set_option maxHeartbeats 2000000 in
theorem sp_X11_take {d : Nat} {Q : Qt} {v1 : Int32} {v2 : Int32} {I : Im} {J : Jm} {R : Rm} (hB0 : Bd I) (hR0 : RI R) (hQ : ∀ (x : Int32) (y : Int64) (I2 : Im) (J2 : Jm), Bd I2 → (True) → Q x y I2 J2 R) : AM (d + 3) 122 112 [.ref 1, .int v1, .int v2] I J R Q := by
  have i_v1 := i32 v1
  have i_v2 := i32 v2
  refine w_X11_take ?_
  refine ⟨(RI.now hR0).2, ?_⟩
  refine bif_t (RI.now hR0).1 ?_
  refine sp_X0_handBack hB0 hR0 (RI.now hR0).1 (fun x1 y6 I2 J3 hB4 p5 => ?_)
  have i7 := i32 x1
  refine ⟨fun c8 => ?_, fun c8 => ?_⟩
  · skip
    have d9 : ¬ ((x1.toInt) : Int) = (0) := ci_ne rfl rfl c8
    refine w_X11_refuse ?_
    have hB10 : Bd (uI I2 1 0 x1) := Bd.o0 hB4 io9_112_1_11 (by omega) bd9_11_0
    exact hQ _ _ _ _ hB10 trivial
  · skip
    have d11 : ((x1.toInt) : Int) = (0) := ci_eq rfl rfl c8
    refine ⟨(RI.now hR0).2, ?_⟩
    refine bif_t (RI.now hR0).1 ?_
    refine bif_t (fa_0_8 (RI.now hR0).1).1 ?_
    refine ⟨by rw [(fa_0_8 (RI.now hR0).1).2.1]; exact vp_of (a := v1.toInt) rfl (by omega) (by omega), ?_⟩
    refine sp_J6_bitCount_0f7a4 hB4 hR0 (fun x12 y17 I13 J14 hB15 p16 => ?_)
    obtain ⟨heI13, p16⟩ := p16
    subst heI13
    have i18 := i32 x12
    refine w_X11_answer ?_
    have hB19 : Bd (uI I2 1 0 0) := Bd.o0 hB4 io9_112_1_11 (by omega) bd9_11_0
    exact hQ _ _ _ _ hB19 trivial
set_option maxHeartbeats 2000000 in
theorem sp_X11_owe {d : Nat} {Q : Qt} {v1 : Int32} {v2 : Int32} {v3 : Int32} {I : Im} {J : Jm} {R : Rm} (hB0 : Bd I) (hR0 : RI R) (hQ : ∀ (x : Int32) (y : Int64) (I2 : Im) (J2 : Jm), Bd I2 → (True) → Q x y I2 J2 R) : AM (d + 2) 123 112 [.ref 1, .int v1, .int v2, .int v3] I J R Q := by
  have i_v1 := i32 v1
  have i_v2 := i32 v2
  have i_v3 := i32 v3
  refine w_X11_owe ?_
  refine ⟨(RI.now hR0).2, ?_⟩
  refine bif_t (RI.now hR0).1 ?_
  refine w_X0_isMan ?_
  refine ⟨fun c1 => ?_, fun c1 => ?_⟩
  · skip
    have d2 : ((v1.toInt) : Int) < (0) := ci_lt rfl rfl c1
    refine ⟨Or.inl rfl, ?_⟩
    intro o3
    refine ⟨fun c4 => ?_, fun c4 => ?_⟩
    · exact absurd c4 (by decide)
    · skip
      refine w_X11_deny ?_
      have hB5 : Bd (uI I 1 0 2) := Bd.o0 hB0 io9_112_1_11 (by omega) bd9_11_0
      refine ⟨Or.inl rfl, ?_⟩
      intro o6
      refine ⟨Or.inl rfl, ?_⟩
      exact hQ _ _ _ _ hB5 trivial
  · skip
    have d7 : ((0) : Int) ≤ (v1.toInt) := ci_nlt rfl rfl c1
    refine bif_t (RI.now hR0).1 ?_
    refine ⟨fun c8 => ?_, fun c8 => ?_⟩
    · skip
      have b9 := Bd.o hB0 (RI.now hR0).1 bd9_0_4
      have d10 : (((I (R 1 7) 4).toInt) : Int) ≤ (v1.toInt) := ci_le rfl rfl c8
      refine ⟨Or.inl rfl, ?_⟩
      intro o11
      refine ⟨fun c12 => ?_, fun c12 => ?_⟩
      · exact absurd c12 (by decide)
      · skip
        refine w_X11_deny ?_
        have hB13 : Bd (uI I 1 0 2) := Bd.o0 hB0 io9_112_1_11 (by omega) bd9_11_0
        refine ⟨Or.inl rfl, ?_⟩
        intro o14
        refine ⟨Or.inl rfl, ?_⟩
        exact hQ _ _ _ _ hB13 trivial
    · skip
      have b15 := Bd.o hB0 (RI.now hR0).1 bd9_0_4
      have d16 : ((v1.toInt) : Int) < ((I (R 1 7) 4).toInt) := ci_nle rfl rfl c8
      refine ⟨Or.inr rfl, ?_⟩
      intro o17
      refine ⟨fun c18 => ?_, fun c18 => ?_⟩
      · skip
        refine w_X11_isShare ?_
        refine ⟨fun c19 => ?_, fun c19 => ?_⟩
        · skip
          have d20 : ((v2.toInt) : Int) < (1) := ci_lt rfl rfl c19
          refine ⟨Or.inl rfl, ?_⟩
          intro o21
          refine ⟨fun c22 => ?_, fun c22 => ?_⟩
          · exact absurd c22 (by decide)
          · skip
            refine w_X11_deny ?_
            have hB23 : Bd (uI I 1 0 5) := Bd.o0 hB0 io9_112_1_11 (by omega) bd9_11_0
            refine ⟨Or.inl rfl, ?_⟩
            intro o24
            refine ⟨Or.inl rfl, ?_⟩
            exact hQ _ _ _ _ hB23 trivial
        · skip
          have d25 : ((1) : Int) ≤ (v2.toInt) := ci_nlt rfl rfl c19
          refine ⟨fun c26 => ?_, fun c26 => ?_⟩
          · skip
            have d27 : ((99) : Int) < (v2.toInt) := ci_lt rfl rfl c26
            refine ⟨Or.inl rfl, ?_⟩
            intro o28
            refine ⟨fun c29 => ?_, fun c29 => ?_⟩
            · exact absurd c29 (by decide)
            · skip
              refine w_X11_deny ?_
              have hB30 : Bd (uI I 1 0 5) := Bd.o0 hB0 io9_112_1_11 (by omega) bd9_11_0
              refine ⟨Or.inl rfl, ?_⟩
              intro o31
              refine ⟨Or.inl rfl, ?_⟩
              exact hQ _ _ _ _ hB30 trivial
          · skip
            have d32 : ((v2.toInt) : Int) ≤ (99) := ci_nlt rfl rfl c26
            refine ⟨fun c33 => ?_, fun c33 => ?_⟩
            · skip
              have d34 : ((v3.toInt) : Int) < (1) := ci_lt rfl rfl c33
              refine ⟨Or.inl rfl, ?_⟩
              intro o35
              refine ⟨fun c36 => ?_, fun c36 => ?_⟩
              · exact absurd c36 (by decide)
              · skip
                refine w_X11_deny ?_
                have hB37 : Bd (uI I 1 0 5) := Bd.o0 hB0 io9_112_1_11 (by omega) bd9_11_0
                refine ⟨Or.inl rfl, ?_⟩
                intro o38
                refine ⟨Or.inl rfl, ?_⟩
                exact hQ _ _ _ _ hB37 trivial
            · skip
              have d39 : ((1) : Int) ≤ (v3.toInt) := ci_nlt rfl rfl c33
              refine ⟨fun c40 => ?_, fun c40 => ?_⟩
              · skip
                have d41 : ((30) : Int) < (v3.toInt) := ci_lt rfl rfl c40
                refine ⟨Or.inl rfl, ?_⟩
                intro o42
                refine ⟨fun c43 => ?_, fun c43 => ?_⟩
                · exact absurd c43 (by decide)
                · skip
                  refine w_X11_deny ?_
                  have hB44 : Bd (uI I 1 0 5) := Bd.o0 hB0 io9_112_1_11 (by omega) bd9_11_0
                  refine ⟨Or.inl rfl, ?_⟩
                  intro o45
                  refine ⟨Or.inl rfl, ?_⟩
                  exact hQ _ _ _ _ hB44 trivial
              · skip
                have d46 : ((v3.toInt) : Int) ≤ (30) := ci_nlt rfl rfl c40
                refine ⟨Or.inr rfl, ?_⟩
                intro o47
                refine ⟨fun c48 => ?_, fun c48 => ?_⟩
                · skip
                  refine ⟨(RI.now hR0).2, ?_⟩
                  refine bif_t (RI.now hR0).1 ?_
                  refine bif_t (fa_0_6 (RI.now hR0).1).1 ?_
                  refine ⟨by rw [(fa_0_6 (RI.now hR0).1).2.1]; exact vp_of (a := v1.toInt) rfl (by omega) (by omega), ?_⟩
                  have hB49 : Bd (uI I ((R 1 7) + 3) (Int32.toNatClampNeg v1) v2) := Bd.a0 hB0 (fa_0_6 (RI.now hR0).1).1 (fa_0_6 (RI.now hR0).1).2.2
                  refine ⟨(RI.now hR0).2, ?_⟩
                  refine bif_t (RI.now hR0).1 ?_
                  refine bif_t (fa_0_7 (RI.now hR0).1).1 ?_
                  refine ⟨by rw [(fa_0_7 (RI.now hR0).1).2.1]; exact vp_of (a := v1.toInt) rfl (by omega) (by omega), ?_⟩
                  have hB50 : Bd (uI (uI I ((R 1 7) + 3) (Int32.toNatClampNeg v1) v2) ((R 1 7) + 4) (Int32.toNatClampNeg v1) v3) := Bd.a0 hB49 (fa_0_7 (RI.now hR0).1).1 (fa_0_7 (RI.now hR0).1).2.2
                  refine w_X11_allow ?_
                  have hB51 : Bd (uI (uI (uI I ((R 1 7) + 3) (Int32.toNatClampNeg v1) v2) ((R 1 7) + 4) (Int32.toNatClampNeg v1) v3) 1 0 0) := Bd.o0 hB50 io9_112_1_11 (by omega) bd9_11_0
                  refine ⟨Or.inr rfl, ?_⟩
                  intro o52
                  refine ⟨Or.inr rfl, ?_⟩
                  exact hQ _ _ _ _ hB51 trivial
                · exact absurd c48 (by decide)
      · exact absurd c18 (by decide)
set_option maxHeartbeats 2000000 in
theorem sp_X11_come {d : Nat} {Q : Qt} {v1 : Int32} {v2 : Int32} {I : Im} {J : Jm} {R : Rm} (hB0 : Bd I) (hR0 : RI R) (hQ : ∀ (x : Int32) (y : Int64) (I2 : Im) (J2 : Jm), Bd I2 → (True) → Q x y I2 J2 R) : AM (d + 2) 124 112 [.ref 1, .int v1, .int v2] I J R Q := by
  have i_v1 := i32 v1
  have i_v2 := i32 v2
  refine w_X11_come ?_
  refine w_X11_isShare ?_
  refine ⟨fun c1 => ?_, fun c1 => ?_⟩
  · skip
    have d2 : ((v1.toInt) : Int) < (1) := ci_lt rfl rfl c1
    refine ⟨Or.inl rfl, ?_⟩
    intro o3
    refine ⟨fun c4 => ?_, fun c4 => ?_⟩
    · exact absurd c4 (by decide)
    · skip
      refine w_X11_refuse ?_
      have hB5 : Bd (uI I 1 0 5) := Bd.o0 hB0 io9_112_1_11 (by omega) bd9_11_0
      exact hQ _ _ _ _ hB5 trivial
  · skip
    have d6 : ((1) : Int) ≤ (v1.toInt) := ci_nlt rfl rfl c1
    refine ⟨fun c7 => ?_, fun c7 => ?_⟩
    · skip
      have d8 : ((99) : Int) < (v1.toInt) := ci_lt rfl rfl c7
      refine ⟨Or.inl rfl, ?_⟩
      intro o9
      refine ⟨fun c10 => ?_, fun c10 => ?_⟩
      · exact absurd c10 (by decide)
      · skip
        refine w_X11_refuse ?_
        have hB11 : Bd (uI I 1 0 5) := Bd.o0 hB0 io9_112_1_11 (by omega) bd9_11_0
        exact hQ _ _ _ _ hB11 trivial
    · skip
      have d12 : ((v1.toInt) : Int) ≤ (99) := ci_nlt rfl rfl c7
      refine ⟨fun c13 => ?_, fun c13 => ?_⟩
      · skip
        have d14 : ((v2.toInt) : Int) < (1) := ci_lt rfl rfl c13
        refine ⟨Or.inl rfl, ?_⟩
        intro o15
        refine ⟨fun c16 => ?_, fun c16 => ?_⟩
        · exact absurd c16 (by decide)
        · skip
          refine w_X11_refuse ?_
          have hB17 : Bd (uI I 1 0 5) := Bd.o0 hB0 io9_112_1_11 (by omega) bd9_11_0
          exact hQ _ _ _ _ hB17 trivial
      · skip
        have d18 : ((1) : Int) ≤ (v2.toInt) := ci_nlt rfl rfl c13
        refine ⟨fun c19 => ?_, fun c19 => ?_⟩
        · skip
          have d20 : ((30) : Int) < (v2.toInt) := ci_lt rfl rfl c19
          refine ⟨Or.inl rfl, ?_⟩
          intro o21
          refine ⟨fun c22 => ?_, fun c22 => ?_⟩
          · exact absurd c22 (by decide)
          · skip
            refine w_X11_refuse ?_
            have hB23 : Bd (uI I 1 0 5) := Bd.o0 hB0 io9_112_1_11 (by omega) bd9_11_0
            exact hQ _ _ _ _ hB23 trivial
        · skip
          have d24 : ((v2.toInt) : Int) ≤ (30) := ci_nlt rfl rfl c19
          refine ⟨Or.inr rfl, ?_⟩
          intro o25
          refine ⟨fun c26 => ?_, fun c26 => ?_⟩
          · skip
            refine ⟨(RI.now hR0).2, ?_⟩
            refine bif_t (RI.now hR0).1 ?_
            refine ⟨fun c27 => ?_, fun c27 => ?_⟩
            · skip
              have b28 := Bd.o hB0 (RI.now hR0).1 bd9_0_4
              have d29 : (((I (R 1 7) 4).toInt) : Int) < (6) := ci_lt rfl rfl c27
              refine ⟨(RI.now hR0).2, ?_⟩
              refine bif_t (RI.now hR0).1 ?_
              refine sp_X0_addMan hB0 hR0 (RI.now hR0).1 (fun x30 y35 I31 J32 hB33 p34 => ?_)
              have i36 := i32 x30
              refine w_X11_answer ?_
              have hB37 : Bd (uI I31 1 0 0) := Bd.o0 hB33 io9_112_1_11 (by omega) bd9_11_0
              exact hQ _ _ _ _ hB37 trivial
            · skip
              have b38 := Bd.o hB0 (RI.now hR0).1 bd9_0_4
              have d39 : ((6) : Int) ≤ ((I (R 1 7) 4).toInt) := ci_nlt rfl rfl c27
              refine w_X11_refuse ?_
              have hB40 : Bd (uI I 1 0 7) := Bd.o0 hB0 io9_112_1_11 (by omega) bd9_11_0
              exact hQ _ _ _ _ hB40 trivial
          · exact absurd c26 (by decide)
set_option maxHeartbeats 2000000 in
theorem sp_X11_learn {d : Nat} {Q : Qt} {v1 : Int32} {v2 : Int32} {I : Im} {J : Jm} {R : Rm} (hB0 : Bd I) (hR0 : RI R) (hQ : ∀ (x : Int32) (y : Int64) (I2 : Im) (J2 : Jm), Bd I2 → (True) → Q x y I2 J2 R) : AM (d + 2) 125 112 [.ref 1, .int v1, .int v2] I J R Q := by
  have i_v1 := i32 v1
  have i_v2 := i32 v2
  refine w_X11_learn ?_
  refine w_X11_isSlice ?_
  refine ⟨fun c1 => ?_, fun c1 => ?_⟩
  · skip
    have d2 : ((v1.toInt) : Int) < (1) := ci_lt rfl rfl c1
    refine ⟨Or.inl rfl, ?_⟩
    intro o3
    refine ⟨fun c4 => ?_, fun c4 => ?_⟩
    · exact absurd c4 (by decide)
    · skip
      refine w_X11_deny ?_
      have hB5 : Bd (uI I 1 0 2) := Bd.o0 hB0 io9_112_1_11 (by omega) bd9_11_0
      refine ⟨Or.inl rfl, ?_⟩
      intro o6
      refine ⟨Or.inl rfl, ?_⟩
      exact hQ _ _ _ _ hB5 trivial
  · skip
    have d7 : ((1) : Int) ≤ (v1.toInt) := ci_nlt rfl rfl c1
    refine ⟨fun c8 => ?_, fun c8 => ?_⟩
    · skip
      have d9 : ((30) : Int) < (v1.toInt) := ci_lt rfl rfl c8
      refine ⟨Or.inl rfl, ?_⟩
      intro o10
      refine ⟨fun c11 => ?_, fun c11 => ?_⟩
      · exact absurd c11 (by decide)
      · skip
        refine w_X11_deny ?_
        have hB12 : Bd (uI I 1 0 2) := Bd.o0 hB0 io9_112_1_11 (by omega) bd9_11_0
        refine ⟨Or.inl rfl, ?_⟩
        intro o13
        refine ⟨Or.inl rfl, ?_⟩
        exact hQ _ _ _ _ hB12 trivial
    · skip
      have d14 : ((v1.toInt) : Int) ≤ (30) := ci_nlt rfl rfl c8
      refine ⟨Or.inr rfl, ?_⟩
      intro o15
      refine ⟨fun c16 => ?_, fun c16 => ?_⟩
      · skip
        refine ⟨(RI.now hR0).2, ?_⟩
        refine bif_t (RI.now hR0).1 ?_
        refine w_X11_isIn ?_
        refine ⟨fun c17 => ?_, fun c17 => ?_⟩
        · skip
          have d18 : (((((I (R 1 7) 2) &&& (1 <<< ((v1 - 1) &&& 31))) : Int32).toInt) : Int) = (0) := ci_eq rfl rfl c17
          refine ⟨Or.inl rfl, ?_⟩
          intro o19
          refine ⟨fun c20 => ?_, fun c20 => ?_⟩
          · skip
            have d21 : ¬ ((0) : Int) = (v2.toInt) := ci_ne rfl rfl c20
            refine ⟨(RI.now hR0).2, ?_⟩
            refine bif_t (RI.now hR0).1 ?_
            refine w_X11_bit ?_
            refine bif_t (RI.now hR0).1 ?_
            have hB22 : Bd (uI I (R 1 7) 2 ((I (R 1 7) 2) ^^^ (1 <<< ((v1 - 1) &&& 31)))) := Bd.o0 hB0 (RI.now hR0).1 (by omega) bd9_0_2
            refine w_X11_allow ?_
            have hB23 : Bd (uI (uI I (R 1 7) 2 ((I (R 1 7) 2) ^^^ (1 <<< ((v1 - 1) &&& 31)))) 1 0 0) := Bd.o0 hB22 io9_112_1_11 (by omega) bd9_11_0
            refine ⟨Or.inr rfl, ?_⟩
            intro o24
            refine ⟨Or.inr rfl, ?_⟩
            exact hQ _ _ _ _ hB23 trivial
          · skip
            have d25 : ((0) : Int) = (v2.toInt) := ci_eq rfl rfl c20
            refine w_X11_deny ?_
            have hB26 : Bd (uI I 1 0 9) := Bd.o0 hB0 io9_112_1_11 (by omega) bd9_11_0
            refine ⟨Or.inl rfl, ?_⟩
            intro o27
            refine ⟨Or.inl rfl, ?_⟩
            exact hQ _ _ _ _ hB26 trivial
        · skip
          have d28 : ¬ (((((I (R 1 7) 2) &&& (1 <<< ((v1 - 1) &&& 31))) : Int32).toInt) : Int) = (0) := ci_ne rfl rfl c17
          refine ⟨Or.inr rfl, ?_⟩
          intro o29
          refine ⟨fun c30 => ?_, fun c30 => ?_⟩
          · skip
            have d31 : ¬ ((1) : Int) = (v2.toInt) := ci_ne rfl rfl c30
            refine ⟨(RI.now hR0).2, ?_⟩
            refine bif_t (RI.now hR0).1 ?_
            refine w_X11_bit ?_
            refine bif_t (RI.now hR0).1 ?_
            have hB32 : Bd (uI I (R 1 7) 2 ((I (R 1 7) 2) ^^^ (1 <<< ((v1 - 1) &&& 31)))) := Bd.o0 hB0 (RI.now hR0).1 (by omega) bd9_0_2
            refine w_X11_allow ?_
            have hB33 : Bd (uI (uI I (R 1 7) 2 ((I (R 1 7) 2) ^^^ (1 <<< ((v1 - 1) &&& 31)))) 1 0 0) := Bd.o0 hB32 io9_112_1_11 (by omega) bd9_11_0
            refine ⟨Or.inr rfl, ?_⟩
            intro o34
            refine ⟨Or.inr rfl, ?_⟩
            exact hQ _ _ _ _ hB33 trivial
          · skip
            have d35 : ((1) : Int) = (v2.toInt) := ci_eq rfl rfl c30
            refine w_X11_deny ?_
            have hB36 : Bd (uI I 1 0 9) := Bd.o0 hB0 io9_112_1_11 (by omega) bd9_11_0
            refine ⟨Or.inl rfl, ?_⟩
            intro o37
            refine ⟨Or.inl rfl, ?_⟩
            exact hQ _ _ _ _ hB36 trivial
      · exact absurd c16 (by decide)
set_option maxHeartbeats 2000000 in
theorem sp_X11_rule {d : Nat} {Q : Qt} {v1 : Int32} {I : Im} {J : Jm} {R : Rm} (hB0 : Bd I) (hR0 : RI R) (hQ : ∀ (x : Int32) (y : Int64) (I2 : Im) (J2 : Jm), Bd I2 → ((0 ≤ x.toInt ∧ x.toInt ≤ 1 ∧ (x.toInt = 1 → 0 ≤ v1.toInt ∧ v1.toInt ≤ 16) ∧ (0 ≤ v1.toInt ∧ v1.toInt ≤ 16 → x.toInt = 1))) → Q x y I2 J2 R) : AM (d + 2) 126 112 [.ref 1, .int v1] I J R Q := by
  have i_v1 := i32 v1
  refine w_X11_rule ?_
  refine ⟨fun c1 => ?_, fun c1 => ?_⟩
  · skip
    have d2 : ((v1.toInt) : Int) < (0) := ci_lt rfl rfl c1
    refine w_X11_deny ?_
    have hB3 : Bd (uI I 1 0 5) := Bd.o0 hB0 io9_112_1_11 (by omega) bd9_11_0
    refine ⟨Or.inl rfl, ?_⟩
    intro o4
    refine ⟨Or.inl rfl, ?_⟩
    exact hQ _ _ _ _ hB3 (by have q0 : (0 : Int32).toInt = 0 := rfl; omega)
  · skip
    have d5 : ((0) : Int) ≤ (v1.toInt) := ci_nlt rfl rfl c1
    refine ⟨fun c6 => ?_, fun c6 => ?_⟩
    · skip
      have d7 : ((v1.toInt) : Int) ≤ (16) := ci_le rfl rfl c6
      refine ⟨(RI.now hR0).2, ?_⟩
      refine bif_t (RI.now hR0).1 ?_
      have hB8 : Bd (uI I (R 1 7) 1 v1) := Bd.o0 hB0 (RI.now hR0).1 (by omega) bd9_0_1
      refine w_X11_allow ?_
      have hB9 : Bd (uI (uI I (R 1 7) 1 v1) 1 0 0) := Bd.o0 hB8 io9_112_1_11 (by omega) bd9_11_0
      refine ⟨Or.inr rfl, ?_⟩
      intro o10
      refine ⟨Or.inr rfl, ?_⟩
      exact hQ _ _ _ _ hB9 (by have q0 : (1 : Int32).toInt = 1 := rfl; omega)
    · skip
      have d11 : ((16) : Int) < (v1.toInt) := ci_nle rfl rfl c6
      refine w_X11_deny ?_
      have hB12 : Bd (uI I 1 0 5) := Bd.o0 hB0 io9_112_1_11 (by omega) bd9_11_0
      refine ⟨Or.inl rfl, ?_⟩
      intro o13
      refine ⟨Or.inl rfl, ?_⟩
      exact hQ _ _ _ _ hB12 (by have q0 : (0 : Int32).toInt = 0 := rfl; omega)
set_option maxHeartbeats 2000000 in
theorem sp_X11_fewest {d : Nat} {Q : Qt} {v1 : Int32} {v2 : Int32} {I : Im} {J : Jm} {R : Rm} (hB0 : Bd I) (hR0 : RI R) (hQ : ∀ (x : Int32) (y : Int64) (I2 : Im) (J2 : Jm), Bd I2 → (True) → Q x y I2 J2 R) : AM (d + 14) 127 112 [.ref 1, .int v1, .int v2] I J R Q := by
  have i_v1 := i32 v1
  have i_v2 := i32 v2
  refine w_X11_fewest ?_
  refine w_X11_isShare ?_
  refine ⟨fun c1 => ?_, fun c1 => ?_⟩
  · skip
    have d2 : ((v1.toInt) : Int) < (1) := ci_lt rfl rfl c1
    refine ⟨Or.inl rfl, ?_⟩
    intro o3
    refine ⟨fun c4 => ?_, fun c4 => ?_⟩
    · exact absurd c4 (by decide)
    · skip
      refine w_X11_refuse ?_
      have hB5 : Bd (uI I 1 0 5) := Bd.o0 hB0 io9_112_1_11 (by omega) bd9_11_0
      exact hQ _ _ _ _ hB5 trivial
  · skip
    have d6 : ((1) : Int) ≤ (v1.toInt) := ci_nlt rfl rfl c1
    refine ⟨fun c7 => ?_, fun c7 => ?_⟩
    · skip
      have d8 : ((99) : Int) < (v1.toInt) := ci_lt rfl rfl c7
      refine ⟨Or.inl rfl, ?_⟩
      intro o9
      refine ⟨fun c10 => ?_, fun c10 => ?_⟩
      · exact absurd c10 (by decide)
      · skip
        refine w_X11_refuse ?_
        have hB11 : Bd (uI I 1 0 5) := Bd.o0 hB0 io9_112_1_11 (by omega) bd9_11_0
        exact hQ _ _ _ _ hB11 trivial
    · skip
      have d12 : ((v1.toInt) : Int) ≤ (99) := ci_nlt rfl rfl c7
      refine ⟨fun c13 => ?_, fun c13 => ?_⟩
      · skip
        have d14 : ((v2.toInt) : Int) < (1) := ci_lt rfl rfl c13
        refine ⟨Or.inl rfl, ?_⟩
        intro o15
        refine ⟨fun c16 => ?_, fun c16 => ?_⟩
        · exact absurd c16 (by decide)
        · skip
          refine w_X11_refuse ?_
          have hB17 : Bd (uI I 1 0 5) := Bd.o0 hB0 io9_112_1_11 (by omega) bd9_11_0
          exact hQ _ _ _ _ hB17 trivial
      · skip
        have d18 : ((1) : Int) ≤ (v2.toInt) := ci_nlt rfl rfl c13
        refine ⟨fun c19 => ?_, fun c19 => ?_⟩
        · skip
          have d20 : ((30) : Int) < (v2.toInt) := ci_lt rfl rfl c19
          refine ⟨Or.inl rfl, ?_⟩
          intro o21
          refine ⟨fun c22 => ?_, fun c22 => ?_⟩
          · exact absurd c22 (by decide)
          · skip
            refine w_X11_refuse ?_
            have hB23 : Bd (uI I 1 0 5) := Bd.o0 hB0 io9_112_1_11 (by omega) bd9_11_0
            exact hQ _ _ _ _ hB23 trivial
        · skip
          have d24 : ((v2.toInt) : Int) ≤ (30) := ci_nlt rfl rfl c19
          refine ⟨Or.inr rfl, ?_⟩
          intro o25
          refine ⟨fun c26 => ?_, fun c26 => ?_⟩
          · skip
            refine ⟨(RI.now hR0).2, ?_⟩
            refine bif_t (RI.now hR0).1 ?_
            refine w_X11_crumbs ?_
            refine ⟨fun c27 => ?_, fun c27 => ?_⟩
            · skip
              have d28 : ((1) : Int) ≤ (v2.toInt) := ci_le rfl rfl c27
              refine ⟨(fun z => by have z2 : (v2.toInt : Int) = 0 := cl_eq (tl_i2l rfl) rfl z; omega), ?_⟩
              refine sp_X7_findFewest hB0 hR0 (fun x29 y34 I30 J31 hB32 p33 => ?_)
              intro o35
              have i36 := i32 x29
              refine w_X11_answerSize ?_
              refine ⟨fun c37 => ?_, fun c37 => ?_⟩
              · skip
                have d38 : ((x29.toInt) : Int) = (0) := ci_eq rfl rfl c37
                refine w_X11_refuse ?_
                have hB39 : Bd (uI I30 1 0 8) := Bd.o0 hB32 io9_112_1_11 (by omega) bd9_11_0
                exact hQ _ _ _ _ hB39 trivial
              · skip
                have d40 : ¬ ((x29.toInt) : Int) = (0) := ci_ne rfl rfl c37
                refine w_X11_answer ?_
                have hB41 : Bd (uI I30 1 0 0) := Bd.o0 hB32 io9_112_1_11 (by omega) bd9_11_0
                exact hQ _ _ _ _ hB41 trivial
            · skip
              have d42 : ((v2.toInt) : Int) < (1) := ci_nle rfl rfl c27
              refine sp_X7_findFewest hB0 hR0 (fun x43 y48 I44 J45 hB46 p47 => ?_)
              intro o49
              have i50 := i32 x43
              refine w_X11_answerSize ?_
              refine ⟨fun c51 => ?_, fun c51 => ?_⟩
              · skip
                have d52 : ((x43.toInt) : Int) = (0) := ci_eq rfl rfl c51
                refine w_X11_refuse ?_
                have hB53 : Bd (uI I44 1 0 8) := Bd.o0 hB46 io9_112_1_11 (by omega) bd9_11_0
                exact hQ _ _ _ _ hB53 trivial
              · skip
                have d54 : ¬ ((x43.toInt) : Int) = (0) := ci_ne rfl rfl c51
                refine w_X11_answer ?_
                have hB55 : Bd (uI I44 1 0 0) := Bd.o0 hB46 io9_112_1_11 (by omega) bd9_11_0
                exact hQ _ _ _ _ hB55 trivial
          · exact absurd c26 (by decide)
set_option maxHeartbeats 2000000 in
theorem sp_X11_fewestAt {d : Nat} {Q : Qt} {v1 : Int32} {v2 : Int32} {v3 : Int32} {I : Im} {J : Jm} {R : Rm} (hB0 : Bd I) (hR0 : RI R) (hQ : ∀ (x : Int32) (y : Int64) (I2 : Im) (J2 : Jm), Bd I2 → (True) → Q x y I2 J2 R) : AM (d + 14) 128 112 [.ref 1, .int v1, .int v2, .int v3] I J R Q := by
  have i_v1 := i32 v1
  have i_v2 := i32 v2
  have i_v3 := i32 v3
  refine w_X11_fewestAt ?_
  refine w_X11_isShare ?_
  refine ⟨fun c1 => ?_, fun c1 => ?_⟩
  · skip
    have d2 : ((v1.toInt) : Int) < (1) := ci_lt rfl rfl c1
    refine ⟨Or.inl rfl, ?_⟩
    intro o3
    refine ⟨fun c4 => ?_, fun c4 => ?_⟩
    · exact absurd c4 (by decide)
    · skip
      refine w_X11_refuse ?_
      have hB5 : Bd (uI I 1 0 5) := Bd.o0 hB0 io9_112_1_11 (by omega) bd9_11_0
      exact hQ _ _ _ _ hB5 trivial
  · skip
    have d6 : ((1) : Int) ≤ (v1.toInt) := ci_nlt rfl rfl c1
    refine ⟨fun c7 => ?_, fun c7 => ?_⟩
    · skip
      have d8 : ((99) : Int) < (v1.toInt) := ci_lt rfl rfl c7
      refine ⟨Or.inl rfl, ?_⟩
      intro o9
      refine ⟨fun c10 => ?_, fun c10 => ?_⟩
      · exact absurd c10 (by decide)
      · skip
        refine w_X11_refuse ?_
        have hB11 : Bd (uI I 1 0 5) := Bd.o0 hB0 io9_112_1_11 (by omega) bd9_11_0
        exact hQ _ _ _ _ hB11 trivial
    · skip
      have d12 : ((v1.toInt) : Int) ≤ (99) := ci_nlt rfl rfl c7
      refine ⟨fun c13 => ?_, fun c13 => ?_⟩
      · skip
        have d14 : ((v2.toInt) : Int) < (1) := ci_lt rfl rfl c13
        refine ⟨Or.inl rfl, ?_⟩
        intro o15
        refine ⟨fun c16 => ?_, fun c16 => ?_⟩
        · exact absurd c16 (by decide)
        · skip
          refine w_X11_refuse ?_
          have hB17 : Bd (uI I 1 0 5) := Bd.o0 hB0 io9_112_1_11 (by omega) bd9_11_0
          exact hQ _ _ _ _ hB17 trivial
      · skip
        have d18 : ((1) : Int) ≤ (v2.toInt) := ci_nlt rfl rfl c13
        refine ⟨fun c19 => ?_, fun c19 => ?_⟩
        · skip
          have d20 : ((30) : Int) < (v2.toInt) := ci_lt rfl rfl c19
          refine ⟨Or.inl rfl, ?_⟩
          intro o21
          refine ⟨fun c22 => ?_, fun c22 => ?_⟩
          · exact absurd c22 (by decide)
          · skip
            refine w_X11_refuse ?_
            have hB23 : Bd (uI I 1 0 5) := Bd.o0 hB0 io9_112_1_11 (by omega) bd9_11_0
            exact hQ _ _ _ _ hB23 trivial
        · skip
          have d24 : ((v2.toInt) : Int) ≤ (30) := ci_nlt rfl rfl c19
          refine ⟨Or.inr rfl, ?_⟩
          intro o25
          refine ⟨fun c26 => ?_, fun c26 => ?_⟩
          · skip
            refine ⟨(RI.now hR0).2, ?_⟩
            refine bif_t (RI.now hR0).1 ?_
            refine w_X11_crumbs ?_
            refine ⟨fun c27 => ?_, fun c27 => ?_⟩
            · skip
              have d28 : ((1) : Int) ≤ (v2.toInt) := ci_le rfl rfl c27
              refine ⟨(fun z => by have z2 : (v2.toInt : Int) = 0 := cl_eq (tl_i2l rfl) rfl z; omega), ?_⟩
              refine sp_X7_findFewest hB0 hR0 (fun x29 y34 I30 J31 hB32 p33 => ?_)
              intro o35
              have i36 := i32 x29
              refine w_X11_answerSlice ?_
              refine ⟨fun c37 => ?_, fun c37 => ?_⟩
              · skip
                have d38 : ((x29.toInt) : Int) = (0) := ci_eq rfl rfl c37
                refine w_X11_refuse ?_
                have hB39 : Bd (uI I30 1 0 8) := Bd.o0 hB32 io9_112_1_11 (by omega) bd9_11_0
                exact hQ _ _ _ _ hB39 trivial
              · skip
                have d40 : ¬ ((x29.toInt) : Int) = (0) := ci_ne rfl rfl c37
                refine w_X7_hasBest ?_
                refine ⟨fun c41 => ?_, fun c41 => ?_⟩
                · skip
                  have d42 : ((v3.toInt) : Int) < (0) := ci_lt rfl rfl c41
                  refine ⟨Or.inl rfl, ?_⟩
                  intro o43
                  refine ⟨fun c44 => ?_, fun c44 => ?_⟩
                  · skip
                    refine w_X11_refuse ?_
                    have hB45 : Bd (uI I30 1 0 8) := Bd.o0 hB32 io9_112_1_11 (by omega) bd9_11_0
                    exact hQ _ _ _ _ hB45 trivial
                  · exact absurd c44 (by decide)
                · skip
                  have d46 : ((0) : Int) ≤ (v3.toInt) := ci_nlt rfl rfl c41
                  refine ⟨fun c47 => ?_, fun c47 => ?_⟩
                  · skip
                    have b48 := Bd.o hB32 io9_112_35_7 bd9_7_5
                    have d49 : (((I30 35 5).toInt) : Int) ≤ (v3.toInt) := ci_le rfl rfl c47
                    refine ⟨Or.inl rfl, ?_⟩
                    intro o50
                    refine ⟨fun c51 => ?_, fun c51 => ?_⟩
                    · skip
                      refine w_X11_refuse ?_
                      have hB52 : Bd (uI I30 1 0 8) := Bd.o0 hB32 io9_112_1_11 (by omega) bd9_11_0
                      exact hQ _ _ _ _ hB52 trivial
                    · exact absurd c51 (by decide)
                  · skip
                    have b53 := Bd.o hB32 io9_112_35_7 bd9_7_5
                    have d54 : ((v3.toInt) : Int) < ((I30 35 5).toInt) := ci_nle rfl rfl c47
                    refine ⟨Or.inr rfl, ?_⟩
                    intro o55
                    refine ⟨fun c56 => ?_, fun c56 => ?_⟩
                    · exact absurd c56 (by decide)
                    · skip
                      refine ⟨vp_of (a := v3.toInt) rfl (by omega) (by omega), ?_⟩
                      refine w_X11_answer ?_
                      have hB57 : Bd (uI I30 1 0 0) := Bd.o0 hB32 io9_112_1_11 (by omega) bd9_11_0
                      exact hQ _ _ _ _ hB57 trivial
            · skip
              have d58 : ((v2.toInt) : Int) < (1) := ci_nle rfl rfl c27
              refine sp_X7_findFewest hB0 hR0 (fun x59 y64 I60 J61 hB62 p63 => ?_)
              intro o65
              have i66 := i32 x59
              refine w_X11_answerSlice ?_
              refine ⟨fun c67 => ?_, fun c67 => ?_⟩
              · skip
                have d68 : ((x59.toInt) : Int) = (0) := ci_eq rfl rfl c67
                refine w_X11_refuse ?_
                have hB69 : Bd (uI I60 1 0 8) := Bd.o0 hB62 io9_112_1_11 (by omega) bd9_11_0
                exact hQ _ _ _ _ hB69 trivial
              · skip
                have d70 : ¬ ((x59.toInt) : Int) = (0) := ci_ne rfl rfl c67
                refine w_X7_hasBest ?_
                refine ⟨fun c71 => ?_, fun c71 => ?_⟩
                · skip
                  have d72 : ((v3.toInt) : Int) < (0) := ci_lt rfl rfl c71
                  refine ⟨Or.inl rfl, ?_⟩
                  intro o73
                  refine ⟨fun c74 => ?_, fun c74 => ?_⟩
                  · skip
                    refine w_X11_refuse ?_
                    have hB75 : Bd (uI I60 1 0 8) := Bd.o0 hB62 io9_112_1_11 (by omega) bd9_11_0
                    exact hQ _ _ _ _ hB75 trivial
                  · exact absurd c74 (by decide)
                · skip
                  have d76 : ((0) : Int) ≤ (v3.toInt) := ci_nlt rfl rfl c71
                  refine ⟨fun c77 => ?_, fun c77 => ?_⟩
                  · skip
                    have b78 := Bd.o hB62 io9_112_35_7 bd9_7_5
                    have d79 : (((I60 35 5).toInt) : Int) ≤ (v3.toInt) := ci_le rfl rfl c77
                    refine ⟨Or.inl rfl, ?_⟩
                    intro o80
                    refine ⟨fun c81 => ?_, fun c81 => ?_⟩
                    · skip
                      refine w_X11_refuse ?_
                      have hB82 : Bd (uI I60 1 0 8) := Bd.o0 hB62 io9_112_1_11 (by omega) bd9_11_0
                      exact hQ _ _ _ _ hB82 trivial
                    · exact absurd c81 (by decide)
                  · skip
                    have b83 := Bd.o hB62 io9_112_35_7 bd9_7_5
                    have d84 : ((v3.toInt) : Int) < ((I60 35 5).toInt) := ci_nle rfl rfl c77
                    refine ⟨Or.inr rfl, ?_⟩
                    intro o85
                    refine ⟨fun c86 => ?_, fun c86 => ?_⟩
                    · exact absurd c86 (by decide)
                    · skip
                      refine ⟨vp_of (a := v3.toInt) rfl (by omega) (by omega), ?_⟩
                      refine w_X11_answer ?_
                      have hB87 : Bd (uI I60 1 0 0) := Bd.o0 hB62 io9_112_1_11 (by omega) bd9_11_0
                      exact hQ _ _ _ _ hB87 trivial
          · exact absurd c26 (by decide)
set_option maxHeartbeats 2000000 in
theorem sp_X11_ways {d : Nat} {Q : Qt} {v1 : Int32} {v2 : Int32} {v3 : Int32} {I : Im} {J : Jm} {R : Rm} (hB0 : Bd I) (hR0 : RI R) (hQ : ∀ (x : Int32) (y : Int64) (I2 : Im) (J2 : Jm), Bd I2 → (True) → Q x y I2 J2 R) : AM (d + 14) 129 112 [.ref 1, .int v1, .int v2, .int v3] I J R Q := by
  have i_v1 := i32 v1
  have i_v2 := i32 v2
  have i_v3 := i32 v3
  refine w_X11_ways ?_
  refine w_X11_isShare ?_
  refine ⟨fun c1 => ?_, fun c1 => ?_⟩
  · skip
    have d2 : ((v1.toInt) : Int) < (1) := ci_lt rfl rfl c1
    refine ⟨Or.inl rfl, ?_⟩
    intro o3
    refine ⟨fun c4 => ?_, fun c4 => ?_⟩
    · skip
      refine w_X11_refuse ?_
      have hB5 : Bd (uI I 1 0 5) := Bd.o0 hB0 io9_112_1_11 (by omega) bd9_11_0
      exact hQ _ _ _ _ hB5 trivial
    · exact absurd c4 (by decide)
  · skip
    have d6 : ((1) : Int) ≤ (v1.toInt) := ci_nlt rfl rfl c1
    refine ⟨fun c7 => ?_, fun c7 => ?_⟩
    · skip
      have d8 : ((99) : Int) < (v1.toInt) := ci_lt rfl rfl c7
      refine ⟨Or.inl rfl, ?_⟩
      intro o9
      refine ⟨fun c10 => ?_, fun c10 => ?_⟩
      · skip
        refine w_X11_refuse ?_
        have hB11 : Bd (uI I 1 0 5) := Bd.o0 hB0 io9_112_1_11 (by omega) bd9_11_0
        exact hQ _ _ _ _ hB11 trivial
      · exact absurd c10 (by decide)
    · skip
      have d12 : ((v1.toInt) : Int) ≤ (99) := ci_nlt rfl rfl c7
      refine ⟨fun c13 => ?_, fun c13 => ?_⟩
      · skip
        have d14 : ((v2.toInt) : Int) < (1) := ci_lt rfl rfl c13
        refine ⟨Or.inl rfl, ?_⟩
        intro o15
        refine ⟨fun c16 => ?_, fun c16 => ?_⟩
        · skip
          refine w_X11_refuse ?_
          have hB17 : Bd (uI I 1 0 5) := Bd.o0 hB0 io9_112_1_11 (by omega) bd9_11_0
          exact hQ _ _ _ _ hB17 trivial
        · exact absurd c16 (by decide)
      · skip
        have d18 : ((1) : Int) ≤ (v2.toInt) := ci_nlt rfl rfl c13
        refine ⟨fun c19 => ?_, fun c19 => ?_⟩
        · skip
          have d20 : ((30) : Int) < (v2.toInt) := ci_lt rfl rfl c19
          refine ⟨Or.inl rfl, ?_⟩
          intro o21
          refine ⟨fun c22 => ?_, fun c22 => ?_⟩
          · skip
            refine w_X11_refuse ?_
            have hB23 : Bd (uI I 1 0 5) := Bd.o0 hB0 io9_112_1_11 (by omega) bd9_11_0
            exact hQ _ _ _ _ hB23 trivial
          · exact absurd c22 (by decide)
        · skip
          have d24 : ((v2.toInt) : Int) ≤ (30) := ci_nlt rfl rfl c19
          refine ⟨Or.inr rfl, ?_⟩
          intro o25
          refine ⟨fun c26 => ?_, fun c26 => ?_⟩
          · exact absurd c26 (by decide)
          · skip
            refine w_X11_isRowSize ?_
            refine ⟨fun c27 => ?_, fun c27 => ?_⟩
            · skip
              have d28 : ((v3.toInt) : Int) < (1) := ci_lt rfl rfl c27
              refine ⟨Or.inl rfl, ?_⟩
              intro o29
              refine ⟨fun c30 => ?_, fun c30 => ?_⟩
              · exact absurd c30 (by decide)
              · skip
                refine w_X11_refuse ?_
                have hB31 : Bd (uI I 1 0 5) := Bd.o0 hB0 io9_112_1_11 (by omega) bd9_11_0
                exact hQ _ _ _ _ hB31 trivial
            · skip
              have d32 : ((1) : Int) ≤ (v3.toInt) := ci_nlt rfl rfl c27
              refine ⟨fun c33 => ?_, fun c33 => ?_⟩
              · skip
                have d34 : ((5) : Int) < (v3.toInt) := ci_lt rfl rfl c33
                refine ⟨Or.inl rfl, ?_⟩
                intro o35
                refine ⟨fun c36 => ?_, fun c36 => ?_⟩
                · exact absurd c36 (by decide)
                · skip
                  refine w_X11_refuse ?_
                  have hB37 : Bd (uI I 1 0 5) := Bd.o0 hB0 io9_112_1_11 (by omega) bd9_11_0
                  exact hQ _ _ _ _ hB37 trivial
              · skip
                have d38 : ((v3.toInt) : Int) ≤ (5) := ci_nlt rfl rfl c33
                refine ⟨Or.inr rfl, ?_⟩
                intro o39
                refine ⟨fun c40 => ?_, fun c40 => ?_⟩
                · skip
                  refine ⟨(RI.now hR0).2, ?_⟩
                  refine bif_t (RI.now hR0).1 ?_
                  refine w_X11_crumbs ?_
                  refine ⟨fun c41 => ?_, fun c41 => ?_⟩
                  · skip
                    have d42 : ((1) : Int) ≤ (v2.toInt) := ci_le rfl rfl c41
                    refine ⟨(fun z => by have z2 : (v2.toInt : Int) = 0 := cl_eq (tl_i2l rfl) rfl z; omega), ?_⟩
                    refine sp_X7_countAll hB0 hR0 (by have z : (v3 : Int32).toInt = v3.toInt := rfl; omega) (fun x43 y48 I44 J45 hB46 p47 => ?_)
                    refine w_X11_answer ?_
                    have hB49 : Bd (uI I44 1 0 0) := Bd.o0 hB46 io9_112_1_11 (by omega) bd9_11_0
                    exact hQ _ _ _ _ hB49 trivial
                  · skip
                    have d50 : ((v2.toInt) : Int) < (1) := ci_nle rfl rfl c41
                    refine sp_X7_countAll hB0 hR0 (by have z : (v3 : Int32).toInt = v3.toInt := rfl; omega) (fun x51 y56 I52 J53 hB54 p55 => ?_)
                    refine w_X11_answer ?_
                    have hB57 : Bd (uI I52 1 0 0) := Bd.o0 hB54 io9_112_1_11 (by omega) bd9_11_0
                    exact hQ _ _ _ _ hB57 trivial
                · exact absurd c40 (by decide)
set_option maxHeartbeats 2000000 in
theorem sp_X11_oddsThat {d : Nat} {Q : Qt} {v1 : Int32} {v2 : Int32} {v3 : Int32} {v4 : Int32} {I : Im} {J : Jm} {R : Rm} (hB0 : Bd I) (hR0 : RI R) (hQ : ∀ (x : Int32) (y : Int64) (I2 : Im) (J2 : Jm), Bd I2 → (True) → Q x y I2 J2 R) : AM (d + 14) 130 112 [.ref 1, .int v1, .int v2, .int v3, .int v4] I J R Q := by
  have i_v1 := i32 v1
  have i_v2 := i32 v2
  have i_v3 := i32 v3
  have i_v4 := i32 v4
  refine w_X11_oddsThat ?_
  refine w_X11_isSlice ?_
  refine ⟨fun c1 => ?_, fun c1 => ?_⟩
  · skip
    have d2 : ((v4.toInt) : Int) < (1) := ci_lt rfl rfl c1
    refine ⟨Or.inl rfl, ?_⟩
    intro o3
    refine ⟨fun c4 => ?_, fun c4 => ?_⟩
    · exact absurd c4 (by decide)
    · skip
      refine w_X11_deny ?_
      have hB5 : Bd (uI I 1 0 2) := Bd.o0 hB0 io9_112_1_11 (by omega) bd9_11_0
      refine ⟨Or.inl rfl, ?_⟩
      intro o6
      refine ⟨Or.inl rfl, ?_⟩
      exact hQ _ _ _ _ hB5 trivial
  · skip
    have d7 : ((1) : Int) ≤ (v4.toInt) := ci_nlt rfl rfl c1
    refine ⟨fun c8 => ?_, fun c8 => ?_⟩
    · skip
      have d9 : ((30) : Int) < (v4.toInt) := ci_lt rfl rfl c8
      refine ⟨Or.inl rfl, ?_⟩
      intro o10
      refine ⟨fun c11 => ?_, fun c11 => ?_⟩
      · exact absurd c11 (by decide)
      · skip
        refine w_X11_deny ?_
        have hB12 : Bd (uI I 1 0 2) := Bd.o0 hB0 io9_112_1_11 (by omega) bd9_11_0
        refine ⟨Or.inl rfl, ?_⟩
        intro o13
        refine ⟨Or.inl rfl, ?_⟩
        exact hQ _ _ _ _ hB12 trivial
    · skip
      have d14 : ((v4.toInt) : Int) ≤ (30) := ci_nlt rfl rfl c8
      refine ⟨Or.inr rfl, ?_⟩
      intro o15
      refine ⟨fun c16 => ?_, fun c16 => ?_⟩
      · skip
        refine w_X11_isShare ?_
        refine ⟨fun c17 => ?_, fun c17 => ?_⟩
        · skip
          have d18 : ((v1.toInt) : Int) < (1) := ci_lt rfl rfl c17
          refine ⟨Or.inl rfl, ?_⟩
          intro o19
          refine ⟨fun c20 => ?_, fun c20 => ?_⟩
          · skip
            refine w_X11_deny ?_
            have hB21 : Bd (uI I 1 0 5) := Bd.o0 hB0 io9_112_1_11 (by omega) bd9_11_0
            refine ⟨Or.inl rfl, ?_⟩
            intro o22
            refine ⟨Or.inl rfl, ?_⟩
            exact hQ _ _ _ _ hB21 trivial
          · exact absurd c20 (by decide)
        · skip
          have d23 : ((1) : Int) ≤ (v1.toInt) := ci_nlt rfl rfl c17
          refine ⟨fun c24 => ?_, fun c24 => ?_⟩
          · skip
            have d25 : ((99) : Int) < (v1.toInt) := ci_lt rfl rfl c24
            refine ⟨Or.inl rfl, ?_⟩
            intro o26
            refine ⟨fun c27 => ?_, fun c27 => ?_⟩
            · skip
              refine w_X11_deny ?_
              have hB28 : Bd (uI I 1 0 5) := Bd.o0 hB0 io9_112_1_11 (by omega) bd9_11_0
              refine ⟨Or.inl rfl, ?_⟩
              intro o29
              refine ⟨Or.inl rfl, ?_⟩
              exact hQ _ _ _ _ hB28 trivial
            · exact absurd c27 (by decide)
          · skip
            have d30 : ((v1.toInt) : Int) ≤ (99) := ci_nlt rfl rfl c24
            refine ⟨fun c31 => ?_, fun c31 => ?_⟩
            · skip
              have d32 : ((v2.toInt) : Int) < (1) := ci_lt rfl rfl c31
              refine ⟨Or.inl rfl, ?_⟩
              intro o33
              refine ⟨fun c34 => ?_, fun c34 => ?_⟩
              · skip
                refine w_X11_deny ?_
                have hB35 : Bd (uI I 1 0 5) := Bd.o0 hB0 io9_112_1_11 (by omega) bd9_11_0
                refine ⟨Or.inl rfl, ?_⟩
                intro o36
                refine ⟨Or.inl rfl, ?_⟩
                exact hQ _ _ _ _ hB35 trivial
              · exact absurd c34 (by decide)
            · skip
              have d37 : ((1) : Int) ≤ (v2.toInt) := ci_nlt rfl rfl c31
              refine ⟨fun c38 => ?_, fun c38 => ?_⟩
              · skip
                have d39 : ((30) : Int) < (v2.toInt) := ci_lt rfl rfl c38
                refine ⟨Or.inl rfl, ?_⟩
                intro o40
                refine ⟨fun c41 => ?_, fun c41 => ?_⟩
                · skip
                  refine w_X11_deny ?_
                  have hB42 : Bd (uI I 1 0 5) := Bd.o0 hB0 io9_112_1_11 (by omega) bd9_11_0
                  refine ⟨Or.inl rfl, ?_⟩
                  intro o43
                  refine ⟨Or.inl rfl, ?_⟩
                  exact hQ _ _ _ _ hB42 trivial
                · exact absurd c41 (by decide)
              · skip
                have d44 : ((v2.toInt) : Int) ≤ (30) := ci_nlt rfl rfl c38
                refine ⟨Or.inr rfl, ?_⟩
                intro o45
                refine ⟨fun c46 => ?_, fun c46 => ?_⟩
                · exact absurd c46 (by decide)
                · skip
                  refine w_X11_isRowSize ?_
                  refine ⟨fun c47 => ?_, fun c47 => ?_⟩
                  · skip
                    have d48 : ((v3.toInt) : Int) < (1) := ci_lt rfl rfl c47
                    refine ⟨Or.inl rfl, ?_⟩
                    intro o49
                    refine ⟨fun c50 => ?_, fun c50 => ?_⟩
                    · exact absurd c50 (by decide)
                    · skip
                      refine w_X11_deny ?_
                      have hB51 : Bd (uI I 1 0 5) := Bd.o0 hB0 io9_112_1_11 (by omega) bd9_11_0
                      refine ⟨Or.inl rfl, ?_⟩
                      intro o52
                      refine ⟨Or.inl rfl, ?_⟩
                      exact hQ _ _ _ _ hB51 trivial
                  · skip
                    have d53 : ((1) : Int) ≤ (v3.toInt) := ci_nlt rfl rfl c47
                    refine ⟨fun c54 => ?_, fun c54 => ?_⟩
                    · skip
                      have d55 : ((5) : Int) < (v3.toInt) := ci_lt rfl rfl c54
                      refine ⟨Or.inl rfl, ?_⟩
                      intro o56
                      refine ⟨fun c57 => ?_, fun c57 => ?_⟩
                      · exact absurd c57 (by decide)
                      · skip
                        refine w_X11_deny ?_
                        have hB58 : Bd (uI I 1 0 5) := Bd.o0 hB0 io9_112_1_11 (by omega) bd9_11_0
                        refine ⟨Or.inl rfl, ?_⟩
                        intro o59
                        refine ⟨Or.inl rfl, ?_⟩
                        exact hQ _ _ _ _ hB58 trivial
                    · skip
                      have d60 : ((v3.toInt) : Int) ≤ (5) := ci_nlt rfl rfl c54
                      refine ⟨Or.inr rfl, ?_⟩
                      intro o61
                      refine ⟨fun c62 => ?_, fun c62 => ?_⟩
                      · skip
                        refine ⟨(RI.now hR0).2, ?_⟩
                        refine bif_t (RI.now hR0).1 ?_
                        refine w_X11_crumbs ?_
                        refine ⟨fun c63 => ?_, fun c63 => ?_⟩
                        · skip
                          have d64 : ((1) : Int) ≤ (v2.toInt) := ci_le rfl rfl c63
                          refine ⟨(fun z => by have z2 : (v2.toInt : Int) = 0 := cl_eq (tl_i2l rfl) rfl z; omega), ?_⟩
                          refine sp_X7_countAll hB0 hR0 (by have z : (v3 : Int32).toInt = v3.toInt := rfl; omega) (fun x65 y70 I66 J67 hB68 p69 => ?_)
                          refine ⟨fun c71 => ?_, fun c71 => ?_⟩
                          · skip
                            have d72 : ¬ (((I66 35 6).toInt) : Int) = (0) := ci_ne rfl rfl c71
                            refine ⟨vp_of (a := v4.toInt) rfl (by omega) (by omega), ?_⟩
                            refine sp_X11_tell hB68 hR0 (fun x73 y78 I74 J75 hB76 p77 => ?_)
                            intro o79
                            have i80 := i32 x73
                            refine ⟨o79, ?_⟩
                            exact hQ _ _ _ _ hB76 trivial
                          · skip
                            have d81 : (((I66 35 6).toInt) : Int) = (0) := ci_eq rfl rfl c71
                            refine w_X11_deny ?_
                            have hB82 : Bd (uI I66 1 0 8) := Bd.o0 hB68 io9_112_1_11 (by omega) bd9_11_0
                            refine ⟨Or.inl rfl, ?_⟩
                            intro o83
                            refine ⟨Or.inl rfl, ?_⟩
                            exact hQ _ _ _ _ hB82 trivial
                        · skip
                          have d84 : ((v2.toInt) : Int) < (1) := ci_nle rfl rfl c63
                          refine sp_X7_countAll hB0 hR0 (by have z : (v3 : Int32).toInt = v3.toInt := rfl; omega) (fun x85 y90 I86 J87 hB88 p89 => ?_)
                          refine ⟨fun c91 => ?_, fun c91 => ?_⟩
                          · skip
                            have d92 : ¬ (((I86 35 6).toInt) : Int) = (0) := ci_ne rfl rfl c91
                            refine ⟨vp_of (a := v4.toInt) rfl (by omega) (by omega), ?_⟩
                            refine sp_X11_tell hB88 hR0 (fun x93 y98 I94 J95 hB96 p97 => ?_)
                            intro o99
                            have i100 := i32 x93
                            refine ⟨o99, ?_⟩
                            exact hQ _ _ _ _ hB96 trivial
                          · skip
                            have d101 : (((I86 35 6).toInt) : Int) = (0) := ci_eq rfl rfl c91
                            refine w_X11_deny ?_
                            have hB102 : Bd (uI I86 1 0 8) := Bd.o0 hB88 io9_112_1_11 (by omega) bd9_11_0
                            refine ⟨Or.inl rfl, ?_⟩
                            intro o103
                            refine ⟨Or.inl rfl, ?_⟩
                            exact hQ _ _ _ _ hB102 trivial
                      · exact absurd c62 (by decide)
      · exact absurd c16 (by decide)
