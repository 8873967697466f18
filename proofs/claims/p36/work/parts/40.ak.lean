set_option maxHeartbeats 2000000 in
theorem sp_X11_ask {d : Nat} {Q : Qt} {v1 : Int32} {v2 : Int32} {v3 : Int32} {I : Im} {J : Jm} {R : Rm} (hB0 : Bd I) (hR0 : RI R) (hQ : ∀ (x : Int32) (y : Int64) (I2 : Im) (J2 : Jm), Bd I2 → (True) → Q x y I2 J2 R) : AM (d + 14) 131 112 [.ref 1, .int v1, .int v2, .int v3] I J R Q := by
  have i_v1 := i32 v1
  have i_v2 := i32 v2
  have i_v3 := i32 v3
  refine w_X11_ask ?_
  refine w_X11_isShare ?_
  refine ⟨fun c1 => ?_, fun c1 => ?_⟩
  · skip
    have d2 : ((v1.toInt) : Int) < (1) := ci_lt rfl rfl c1
    refine ⟨Or.inl rfl, ?_⟩
    intro o3
    refine ⟨fun c4 => ?_, fun c4 => ?_⟩
    · skip
      refine w_X11_refuse ?_
      have hB5 : Bd (uI I 1 0 5) := Bd.o0 hB0 io9_112_1_11 (by omega) bd9_11_0
      exact hQ _ _ _ _ hB5 trivial
    · exact absurd c4 (by decide)
  · skip
    have d6 : ((1) : Int) ≤ (v1.toInt) := ci_nlt rfl rfl c1
    refine ⟨fun c7 => ?_, fun c7 => ?_⟩
    · skip
      have d8 : ((99) : Int) < (v1.toInt) := ci_lt rfl rfl c7
      refine ⟨Or.inl rfl, ?_⟩
      intro o9
      refine ⟨fun c10 => ?_, fun c10 => ?_⟩
      · skip
        refine w_X11_refuse ?_
        have hB11 : Bd (uI I 1 0 5) := Bd.o0 hB0 io9_112_1_11 (by omega) bd9_11_0
        exact hQ _ _ _ _ hB11 trivial
      · exact absurd c10 (by decide)
    · skip
      have d12 : ((v1.toInt) : Int) ≤ (99) := ci_nlt rfl rfl c7
      refine ⟨fun c13 => ?_, fun c13 => ?_⟩
      · skip
        have d14 : ((v2.toInt) : Int) < (1) := ci_lt rfl rfl c13
        refine ⟨Or.inl rfl, ?_⟩
        intro o15
        refine ⟨fun c16 => ?_, fun c16 => ?_⟩
        · skip
          refine w_X11_refuse ?_
          have hB17 : Bd (uI I 1 0 5) := Bd.o0 hB0 io9_112_1_11 (by omega) bd9_11_0
          exact hQ _ _ _ _ hB17 trivial
        · exact absurd c16 (by decide)
      · skip
        have d18 : ((1) : Int) ≤ (v2.toInt) := ci_nlt rfl rfl c13
        refine ⟨fun c19 => ?_, fun c19 => ?_⟩
        · skip
          have d20 : ((30) : Int) < (v2.toInt) := ci_lt rfl rfl c19
          refine ⟨Or.inl rfl, ?_⟩
          intro o21
          refine ⟨fun c22 => ?_, fun c22 => ?_⟩
          · skip
            refine w_X11_refuse ?_
            have hB23 : Bd (uI I 1 0 5) := Bd.o0 hB0 io9_112_1_11 (by omega) bd9_11_0
            exact hQ _ _ _ _ hB23 trivial
          · exact absurd c22 (by decide)
        · skip
          have d24 : ((v2.toInt) : Int) ≤ (30) := ci_nlt rfl rfl c19
          refine ⟨Or.inr rfl, ?_⟩
          intro o25
          refine ⟨fun c26 => ?_, fun c26 => ?_⟩
          · exact absurd c26 (by decide)
          · skip
            refine w_X11_isRowSize ?_
            refine ⟨fun c27 => ?_, fun c27 => ?_⟩
            · skip
              have d28 : ((v3.toInt) : Int) < (1) := ci_lt rfl rfl c27
              refine ⟨Or.inl rfl, ?_⟩
              intro o29
              refine ⟨fun c30 => ?_, fun c30 => ?_⟩
              · exact absurd c30 (by decide)
              · skip
                refine w_X11_refuse ?_
                have hB31 : Bd (uI I 1 0 5) := Bd.o0 hB0 io9_112_1_11 (by omega) bd9_11_0
                exact hQ _ _ _ _ hB31 trivial
            · skip
              have d32 : ((1) : Int) ≤ (v3.toInt) := ci_nlt rfl rfl c27
              refine ⟨fun c33 => ?_, fun c33 => ?_⟩
              · skip
                have d34 : ((5) : Int) < (v3.toInt) := ci_lt rfl rfl c33
                refine ⟨Or.inl rfl, ?_⟩
                intro o35
                refine ⟨fun c36 => ?_, fun c36 => ?_⟩
                · exact absurd c36 (by decide)
                · skip
                  refine w_X11_refuse ?_
                  have hB37 : Bd (uI I 1 0 5) := Bd.o0 hB0 io9_112_1_11 (by omega) bd9_11_0
                  exact hQ _ _ _ _ hB37 trivial
              · skip
                have d38 : ((v3.toInt) : Int) ≤ (5) := ci_nlt rfl rfl c33
                refine ⟨Or.inr rfl, ?_⟩
                intro o39
                refine ⟨fun c40 => ?_, fun c40 => ?_⟩
                · skip
                  refine ⟨(RI.now hR0).2, ?_⟩
                  refine bif_t (RI.now hR0).1 ?_
                  refine w_X11_crumbs ?_
                  refine ⟨fun c41 => ?_, fun c41 => ?_⟩
                  · skip
                    have d42 : ((1) : Int) ≤ (v2.toInt) := ci_le rfl rfl c41
                    refine ⟨(fun z => by have z2 : (v2.toInt : Int) = 0 := cl_eq (tl_i2l rfl) rfl z; omega), ?_⟩
                    refine sp_X7_countAll hB0 hR0 (by have z : (v3 : Int32).toInt = v3.toInt := rfl; omega) (fun x43 y48 I44 J45 hB46 p47 => ?_)
                    refine ⟨fun c49 => ?_, fun c49 => ?_⟩
                    · skip
                      have d50 : ((2) : Int) ≤ ((I44 35 6).toInt) := ci_le rfl rfl c49
                      refine ⟨(RI.now hR0).2, ?_⟩
                      refine bif_t (RI.now hR0).1 ?_
                      refine sp_X7_bestQuestion hB46 hR0 (fun x51 y56 I52 J53 hB54 p55 => ?_)
                      have i57 := i32 x51
                      refine w_X11_answer ?_
                      have hB58 : Bd (uI I52 1 0 0) := Bd.o0 hB54 io9_112_1_11 (by omega) bd9_11_0
                      exact hQ _ _ _ _ hB58 trivial
                    · skip
                      have d59 : (((I44 35 6).toInt) : Int) < (2) := ci_nle rfl rfl c49
                      refine w_X11_refuse ?_
                      have hB60 : Bd (uI I44 1 0 8) := Bd.o0 hB46 io9_112_1_11 (by omega) bd9_11_0
                      exact hQ _ _ _ _ hB60 trivial
                  · skip
                    have d61 : ((v2.toInt) : Int) < (1) := ci_nle rfl rfl c41
                    refine sp_X7_countAll hB0 hR0 (by have z : (v3 : Int32).toInt = v3.toInt := rfl; omega) (fun x62 y67 I63 J64 hB65 p66 => ?_)
                    refine ⟨fun c68 => ?_, fun c68 => ?_⟩
                    · skip
                      have d69 : ((2) : Int) ≤ ((I63 35 6).toInt) := ci_le rfl rfl c68
                      refine ⟨(RI.now hR0).2, ?_⟩
                      refine bif_t (RI.now hR0).1 ?_
                      refine sp_X7_bestQuestion hB65 hR0 (fun x70 y75 I71 J72 hB73 p74 => ?_)
                      have i76 := i32 x70
                      refine w_X11_answer ?_
                      have hB77 : Bd (uI I71 1 0 0) := Bd.o0 hB73 io9_112_1_11 (by omega) bd9_11_0
                      exact hQ _ _ _ _ hB77 trivial
                    · skip
                      have d78 : (((I63 35 6).toInt) : Int) < (2) := ci_nle rfl rfl c68
                      refine w_X11_refuse ?_
                      have hB79 : Bd (uI I63 1 0 8) := Bd.o0 hB65 io9_112_1_11 (by omega) bd9_11_0
                      exact hQ _ _ _ _ hB79 trivial
                · exact absurd c40 (by decide)
set_option maxHeartbeats 2000000 in
theorem sp_X11_kindestAt {d : Nat} {Q : Qt} {v1 : Int32} {v2 : Int32} {v3 : Int32} {I : Im} {J : Jm} {R : Rm} (hB0 : Bd I) (hR0 : RI R) (hQ : ∀ (x : Int32) (y : Int64) (I2 : Im) (J2 : Jm), Bd I2 → (True) → Q x y I2 J2 R) : AM (d + 14) 132 112 [.ref 1, .int v1, .int v2, .int v3] I J R Q := by
  have i_v1 := i32 v1
  have i_v2 := i32 v2
  have i_v3 := i32 v3
  refine w_X11_kindestAt ?_
  refine w_X11_isShare ?_
  refine ⟨fun c1 => ?_, fun c1 => ?_⟩
  · skip
    have d2 : ((v1.toInt) : Int) < (1) := ci_lt rfl rfl c1
    refine ⟨Or.inl rfl, ?_⟩
    intro o3
    refine ⟨fun c4 => ?_, fun c4 => ?_⟩
    · exact absurd c4 (by decide)
    · skip
      refine w_X11_refuse ?_
      have hB5 : Bd (uI I 1 0 5) := Bd.o0 hB0 io9_112_1_11 (by omega) bd9_11_0
      exact hQ _ _ _ _ hB5 trivial
  · skip
    have d6 : ((1) : Int) ≤ (v1.toInt) := ci_nlt rfl rfl c1
    refine ⟨fun c7 => ?_, fun c7 => ?_⟩
    · skip
      have d8 : ((99) : Int) < (v1.toInt) := ci_lt rfl rfl c7
      refine ⟨Or.inl rfl, ?_⟩
      intro o9
      refine ⟨fun c10 => ?_, fun c10 => ?_⟩
      · exact absurd c10 (by decide)
      · skip
        refine w_X11_refuse ?_
        have hB11 : Bd (uI I 1 0 5) := Bd.o0 hB0 io9_112_1_11 (by omega) bd9_11_0
        exact hQ _ _ _ _ hB11 trivial
    · skip
      have d12 : ((v1.toInt) : Int) ≤ (99) := ci_nlt rfl rfl c7
      refine ⟨fun c13 => ?_, fun c13 => ?_⟩
      · skip
        have d14 : ((v2.toInt) : Int) < (1) := ci_lt rfl rfl c13
        refine ⟨Or.inl rfl, ?_⟩
        intro o15
        refine ⟨fun c16 => ?_, fun c16 => ?_⟩
        · exact absurd c16 (by decide)
        · skip
          refine w_X11_refuse ?_
          have hB17 : Bd (uI I 1 0 5) := Bd.o0 hB0 io9_112_1_11 (by omega) bd9_11_0
          exact hQ _ _ _ _ hB17 trivial
      · skip
        have d18 : ((1) : Int) ≤ (v2.toInt) := ci_nlt rfl rfl c13
        refine ⟨fun c19 => ?_, fun c19 => ?_⟩
        · skip
          have d20 : ((30) : Int) < (v2.toInt) := ci_lt rfl rfl c19
          refine ⟨Or.inl rfl, ?_⟩
          intro o21
          refine ⟨fun c22 => ?_, fun c22 => ?_⟩
          · exact absurd c22 (by decide)
          · skip
            refine w_X11_refuse ?_
            have hB23 : Bd (uI I 1 0 5) := Bd.o0 hB0 io9_112_1_11 (by omega) bd9_11_0
            exact hQ _ _ _ _ hB23 trivial
        · skip
          have d24 : ((v2.toInt) : Int) ≤ (30) := ci_nlt rfl rfl c19
          refine ⟨Or.inr rfl, ?_⟩
          intro o25
          refine ⟨fun c26 => ?_, fun c26 => ?_⟩
          · skip
            refine ⟨(RI.now hR0).2, ?_⟩
            refine bif_t (RI.now hR0).1 ?_
            refine w_X11_crumbs ?_
            refine ⟨fun c27 => ?_, fun c27 => ?_⟩
            · skip
              have d28 : ((1) : Int) ≤ (v2.toInt) := ci_le rfl rfl c27
              refine ⟨(fun z => by have z2 : (v2.toInt : Int) = 0 := cl_eq (tl_i2l rfl) rfl z; omega), ?_⟩
              refine sp_X7_findKindest hB0 hR0 (fun x29 y34 I30 J31 hB32 p33 => ?_)
              intro o35
              have i36 := i32 x29
              refine w_X11_answerSlice ?_
              refine ⟨fun c37 => ?_, fun c37 => ?_⟩
              · skip
                have d38 : ((x29.toInt) : Int) = (0) := ci_eq rfl rfl c37
                refine w_X11_refuse ?_
                have hB39 : Bd (uI I30 1 0 8) := Bd.o0 hB32 io9_112_1_11 (by omega) bd9_11_0
                exact hQ _ _ _ _ hB39 trivial
              · skip
                have d40 : ¬ ((x29.toInt) : Int) = (0) := ci_ne rfl rfl c37
                refine w_X7_hasBest ?_
                refine ⟨fun c41 => ?_, fun c41 => ?_⟩
                · skip
                  have d42 : ((v3.toInt) : Int) < (0) := ci_lt rfl rfl c41
                  refine ⟨Or.inl rfl, ?_⟩
                  intro o43
                  refine ⟨fun c44 => ?_, fun c44 => ?_⟩
                  · skip
                    refine w_X11_refuse ?_
                    have hB45 : Bd (uI I30 1 0 8) := Bd.o0 hB32 io9_112_1_11 (by omega) bd9_11_0
                    exact hQ _ _ _ _ hB45 trivial
                  · exact absurd c44 (by decide)
                · skip
                  have d46 : ((0) : Int) ≤ (v3.toInt) := ci_nlt rfl rfl c41
                  refine ⟨fun c47 => ?_, fun c47 => ?_⟩
                  · skip
                    have b48 := Bd.o hB32 io9_112_35_7 bd9_7_5
                    have d49 : (((I30 35 5).toInt) : Int) ≤ (v3.toInt) := ci_le rfl rfl c47
                    refine ⟨Or.inl rfl, ?_⟩
                    intro o50
                    refine ⟨fun c51 => ?_, fun c51 => ?_⟩
                    · skip
                      refine w_X11_refuse ?_
                      have hB52 : Bd (uI I30 1 0 8) := Bd.o0 hB32 io9_112_1_11 (by omega) bd9_11_0
                      exact hQ _ _ _ _ hB52 trivial
                    · exact absurd c51 (by decide)
                  · skip
                    have b53 := Bd.o hB32 io9_112_35_7 bd9_7_5
                    have d54 : ((v3.toInt) : Int) < ((I30 35 5).toInt) := ci_nle rfl rfl c47
                    refine ⟨Or.inr rfl, ?_⟩
                    intro o55
                    refine ⟨fun c56 => ?_, fun c56 => ?_⟩
                    · exact absurd c56 (by decide)
                    · skip
                      refine ⟨vp_of (a := v3.toInt) rfl (by omega) (by omega), ?_⟩
                      refine w_X11_answer ?_
                      have hB57 : Bd (uI I30 1 0 0) := Bd.o0 hB32 io9_112_1_11 (by omega) bd9_11_0
                      exact hQ _ _ _ _ hB57 trivial
            · skip
              have d58 : ((v2.toInt) : Int) < (1) := ci_nle rfl rfl c27
              refine sp_X7_findKindest hB0 hR0 (fun x59 y64 I60 J61 hB62 p63 => ?_)
              intro o65
              have i66 := i32 x59
              refine w_X11_answerSlice ?_
              refine ⟨fun c67 => ?_, fun c67 => ?_⟩
              · skip
                have d68 : ((x59.toInt) : Int) = (0) := ci_eq rfl rfl c67
                refine w_X11_refuse ?_
                have hB69 : Bd (uI I60 1 0 8) := Bd.o0 hB62 io9_112_1_11 (by omega) bd9_11_0
                exact hQ _ _ _ _ hB69 trivial
              · skip
                have d70 : ¬ ((x59.toInt) : Int) = (0) := ci_ne rfl rfl c67
                refine w_X7_hasBest ?_
                refine ⟨fun c71 => ?_, fun c71 => ?_⟩
                · skip
                  have d72 : ((v3.toInt) : Int) < (0) := ci_lt rfl rfl c71
                  refine ⟨Or.inl rfl, ?_⟩
                  intro o73
                  refine ⟨fun c74 => ?_, fun c74 => ?_⟩
                  · skip
                    refine w_X11_refuse ?_
                    have hB75 : Bd (uI I60 1 0 8) := Bd.o0 hB62 io9_112_1_11 (by omega) bd9_11_0
                    exact hQ _ _ _ _ hB75 trivial
                  · exact absurd c74 (by decide)
                · skip
                  have d76 : ((0) : Int) ≤ (v3.toInt) := ci_nlt rfl rfl c71
                  refine ⟨fun c77 => ?_, fun c77 => ?_⟩
                  · skip
                    have b78 := Bd.o hB62 io9_112_35_7 bd9_7_5
                    have d79 : (((I60 35 5).toInt) : Int) ≤ (v3.toInt) := ci_le rfl rfl c77
                    refine ⟨Or.inl rfl, ?_⟩
                    intro o80
                    refine ⟨fun c81 => ?_, fun c81 => ?_⟩
                    · skip
                      refine w_X11_refuse ?_
                      have hB82 : Bd (uI I60 1 0 8) := Bd.o0 hB62 io9_112_1_11 (by omega) bd9_11_0
                      exact hQ _ _ _ _ hB82 trivial
                    · exact absurd c81 (by decide)
                  · skip
                    have b83 := Bd.o hB62 io9_112_35_7 bd9_7_5
                    have d84 : ((v3.toInt) : Int) < ((I60 35 5).toInt) := ci_nle rfl rfl c77
                    refine ⟨Or.inr rfl, ?_⟩
                    intro o85
                    refine ⟨fun c86 => ?_, fun c86 => ?_⟩
                    · exact absurd c86 (by decide)
                    · skip
                      refine ⟨vp_of (a := v3.toInt) rfl (by omega) (by omega), ?_⟩
                      refine w_X11_answer ?_
                      have hB87 : Bd (uI I60 1 0 0) := Bd.o0 hB62 io9_112_1_11 (by omega) bd9_11_0
                      exact hQ _ _ _ _ hB87 trivial
          · exact absurd c26 (by decide)
set_option maxHeartbeats 2000000 in
theorem sp_X11_greedyAt {d : Nat} {Q : Qt} {v1 : Int32} {v2 : Int32} {v3 : Int32} {I : Im} {J : Jm} {R : Rm} (hB0 : Bd I) (hR0 : RI R) (hQ : ∀ (x : Int32) (y : Int64) (I2 : Im) (J2 : Jm), Bd I2 → (True) → Q x y I2 J2 R) : AM (d + 3) 133 112 [.ref 1, .int v1, .int v2, .int v3] I J R Q := by
  have i_v1 := i32 v1
  have i_v2 := i32 v2
  have i_v3 := i32 v3
  refine w_X11_greedyAt ?_
  refine w_X11_isShare ?_
  refine ⟨fun c1 => ?_, fun c1 => ?_⟩
  · skip
    have d2 : ((v1.toInt) : Int) < (1) := ci_lt rfl rfl c1
    refine ⟨Or.inl rfl, ?_⟩
    intro o3
    refine ⟨fun c4 => ?_, fun c4 => ?_⟩
    · skip
      refine w_X11_refuse ?_
      have hB5 : Bd (uI I 1 0 5) := Bd.o0 hB0 io9_112_1_11 (by omega) bd9_11_0
      exact hQ _ _ _ _ hB5 trivial
    · exact absurd c4 (by decide)
  · skip
    have d6 : ((1) : Int) ≤ (v1.toInt) := ci_nlt rfl rfl c1
    refine ⟨fun c7 => ?_, fun c7 => ?_⟩
    · skip
      have d8 : ((99) : Int) < (v1.toInt) := ci_lt rfl rfl c7
      refine ⟨Or.inl rfl, ?_⟩
      intro o9
      refine ⟨fun c10 => ?_, fun c10 => ?_⟩
      · skip
        refine w_X11_refuse ?_
        have hB11 : Bd (uI I 1 0 5) := Bd.o0 hB0 io9_112_1_11 (by omega) bd9_11_0
        exact hQ _ _ _ _ hB11 trivial
      · exact absurd c10 (by decide)
    · skip
      have d12 : ((v1.toInt) : Int) ≤ (99) := ci_nlt rfl rfl c7
      refine ⟨fun c13 => ?_, fun c13 => ?_⟩
      · skip
        have d14 : ((v2.toInt) : Int) < (1) := ci_lt rfl rfl c13
        refine ⟨Or.inl rfl, ?_⟩
        intro o15
        refine ⟨fun c16 => ?_, fun c16 => ?_⟩
        · skip
          refine w_X11_refuse ?_
          have hB17 : Bd (uI I 1 0 5) := Bd.o0 hB0 io9_112_1_11 (by omega) bd9_11_0
          exact hQ _ _ _ _ hB17 trivial
        · exact absurd c16 (by decide)
      · skip
        have d18 : ((1) : Int) ≤ (v2.toInt) := ci_nlt rfl rfl c13
        refine ⟨fun c19 => ?_, fun c19 => ?_⟩
        · skip
          have d20 : ((30) : Int) < (v2.toInt) := ci_lt rfl rfl c19
          refine ⟨Or.inl rfl, ?_⟩
          intro o21
          refine ⟨fun c22 => ?_, fun c22 => ?_⟩
          · skip
            refine w_X11_refuse ?_
            have hB23 : Bd (uI I 1 0 5) := Bd.o0 hB0 io9_112_1_11 (by omega) bd9_11_0
            exact hQ _ _ _ _ hB23 trivial
          · exact absurd c22 (by decide)
        · skip
          have d24 : ((v2.toInt) : Int) ≤ (30) := ci_nlt rfl rfl c19
          refine ⟨Or.inr rfl, ?_⟩
          intro o25
          refine ⟨fun c26 => ?_, fun c26 => ?_⟩
          · exact absurd c26 (by decide)
          · skip
            refine ⟨fun c27 => ?_, fun c27 => ?_⟩
            · skip
              have d28 : ((v1.toInt) : Int) < (v2.toInt) := ci_lt rfl rfl c27
              refine ⟨fun c29 => ?_, fun c29 => ?_⟩
              · skip
                have d30 : ((0) : Int) ≤ (v3.toInt) := ci_le rfl rfl c29
                refine sp_X11_greedyNumber hB0 hR0 (fun x31 y36 I32 J33 hB34 p35 => ?_)
                refine ⟨fun c37 => ?_, fun c37 => ?_⟩
                · skip
                  rw [lg_cmp_eq] at c37
                  have d38 : ¬ (((y36 : Int64).toInt) : Int) = (0) := cl_ne rfl rfl c37
                  refine ⟨fun c39 => ?_, fun c39 => ?_⟩
                  · skip
                    rw [lg_cmp_le] at c39
                    have d40 : (((y36 : Int64).toInt) : Int) ≤ (100000000) := cl_le rfl rfl c39
                    refine w_X11_answer ?_
                    have hB41 : Bd (uI I32 1 0 0) := Bd.o0 hB34 io9_112_1_11 (by omega) bd9_11_0
                    exact hQ _ _ _ _ hB41 trivial
                  · skip
                    rw [lg_cmp_le] at c39
                    have d42 : ((100000000) : Int) < ((y36 : Int64).toInt) := cl_nle rfl rfl c39
                    refine w_X11_refuse ?_
                    have hB43 : Bd (uI I32 1 0 9) := Bd.o0 hB34 io9_112_1_11 (by omega) bd9_11_0
                    exact hQ _ _ _ _ hB43 trivial
                · skip
                  rw [lg_cmp_eq] at c37
                  have d44 : (((y36 : Int64).toInt) : Int) = (0) := cl_eq rfl rfl c37
                  refine w_X11_refuse ?_
                  have hB45 : Bd (uI I32 1 0 8) := Bd.o0 hB34 io9_112_1_11 (by omega) bd9_11_0
                  exact hQ _ _ _ _ hB45 trivial
              · skip
                have d46 : ((v3.toInt) : Int) < (0) := ci_nle rfl rfl c29
                refine ⟨fun c47 => ?_, fun c47 => ?_⟩
                · skip
                  rw [lg_cmp_eq] at c47
                  have d48 : ¬ ((0) : Int) = (0) := cl_ne rfl rfl c47
                  refine ⟨fun c49 => ?_, fun c49 => ?_⟩
                  · skip
                    rw [lg_cmp_le] at c49
                    have d50 : ((0) : Int) ≤ (100000000) := cl_le rfl rfl c49
                    refine w_X11_answer ?_
                    have hB51 : Bd (uI I 1 0 0) := Bd.o0 hB0 io9_112_1_11 (by omega) bd9_11_0
                    exact hQ _ _ _ _ hB51 trivial
                  · skip
                    rw [lg_cmp_le] at c49
                    have d52 : ((100000000) : Int) < (0) := cl_nle rfl rfl c49
                    refine w_X11_refuse ?_
                    have hB53 : Bd (uI I 1 0 9) := Bd.o0 hB0 io9_112_1_11 (by omega) bd9_11_0
                    exact hQ _ _ _ _ hB53 trivial
                · skip
                  rw [lg_cmp_eq] at c47
                  have d54 : ((0) : Int) = (0) := cl_eq rfl rfl c47
                  refine w_X11_refuse ?_
                  have hB55 : Bd (uI I 1 0 8) := Bd.o0 hB0 io9_112_1_11 (by omega) bd9_11_0
                  exact hQ _ _ _ _ hB55 trivial
            · skip
              have d56 : ((v2.toInt) : Int) ≤ (v1.toInt) := ci_nlt rfl rfl c27
              refine w_X11_refuse ?_
              have hB57 : Bd (uI I 1 0 5) := Bd.o0 hB0 io9_112_1_11 (by omega) bd9_11_0
              exact hQ _ _ _ _ hB57 trivial
set_option maxHeartbeats 2000000 in
theorem sp_X11_slips {d : Nat} {Q : Qt} {v1 : Int32} {v2 : Int32} {v3 : Int32} {v4 : Int32} {I : Im} {J : Jm} {R : Rm} (hB0 : Bd I) (hR0 : RI R) (hQ : ∀ (x : Int32) (y : Int64) (I2 : Im) (J2 : Jm), Bd I2 → (True) → Q x y I2 J2 R) : AM (d + 5) 134 112 [.ref 1, .int v1, .int v2, .int v3, .int v4] I J R Q := by
  have i_v1 := i32 v1
  have i_v2 := i32 v2
  have i_v3 := i32 v3
  have i_v4 := i32 v4
  refine w_X11_slips ?_
  refine sp_X11_slipStatus hB0 hR0 (fun x1 y6 I2 J3 hB4 p5 => ?_)
  have i7 := i32 x1
  refine ⟨fun c8 => ?_, fun c8 => ?_⟩
  · skip
    have d9 : ((x1.toInt) : Int) = (0) := ci_eq rfl rfl c8
    refine ⟨vp_of (a := v1.toInt) rfl (by omega) (by omega), ?_⟩
    have hr10 := RI.tray hR0 (Int32.toNatClampNeg v1) (by rw [tn_of rfl (by omega)]; omega)
    refine ⟨hr10.1, ?_⟩
    refine ⟨(RI.now hR0).2, ?_⟩
    refine bif_t (RI.now hR0).1 ?_
    refine w_X11_crumbs ?_
    refine ⟨fun c11 => ?_, fun c11 => ?_⟩
    · skip
      have d12 : ((1) : Int) ≤ (v4.toInt) := ci_le rfl rfl c11
      refine ⟨(fun z => by have z2 : (v4.toInt : Int) = 0 := cl_eq (tl_i2l rfl) rfl z; omega), ?_⟩
      refine sp_X8_findAll hB4 hR0 hr10.2 (fun x13 y18 I14 J15 hB16 p17 => ?_)
      refine w_X11_answer ?_
      have hB19 : Bd (uI I14 1 0 0) := Bd.o0 hB16 io9_112_1_11 (by omega) bd9_11_0
      exact hQ _ _ _ _ hB19 trivial
    · skip
      have d20 : ((v4.toInt) : Int) < (1) := ci_nle rfl rfl c11
      refine sp_X8_findAll hB4 hR0 hr10.2 (fun x21 y26 I22 J23 hB24 p25 => ?_)
      refine w_X11_answer ?_
      have hB27 : Bd (uI I22 1 0 0) := Bd.o0 hB24 io9_112_1_11 (by omega) bd9_11_0
      exact hQ _ _ _ _ hB27 trivial
  · skip
    have d28 : ¬ ((x1.toInt) : Int) = (0) := ci_ne rfl rfl c8
    refine w_X11_refuse ?_
    have hB29 : Bd (uI I2 1 0 x1) := Bd.o0 hB4 io9_112_1_11 (by omega) bd9_11_0
    exact hQ _ _ _ _ hB29 trivial
set_option maxHeartbeats 2000000 in
theorem sp_X11_reach {d : Nat} {Q : Qt} {v1 : Int32} {I : Im} {J : Jm} {R : Rm} (hB0 : Bd I) (hR0 : RI R) (hQ : ∀ (x : Int32) (y : Int64) (I2 : Im) (J2 : Jm), Bd I2 → (True) → Q x y I2 J2 R) : AM (d + 4) 136 112 [.ref 1, .int v1] I J R Q := by
  have i_v1 := i32 v1
  refine w_X11_reach ?_
  refine w_X11_isSlice ?_
  refine ⟨fun c1 => ?_, fun c1 => ?_⟩
  · skip
    have d2 : ((v1.toInt) : Int) < (1) := ci_lt rfl rfl c1
    refine ⟨Or.inl rfl, ?_⟩
    intro o3
    refine ⟨fun c4 => ?_, fun c4 => ?_⟩
    · exact absurd c4 (by decide)
    · skip
      refine w_X11_refuse ?_
      have hB5 : Bd (uI I 1 0 2) := Bd.o0 hB0 io9_112_1_11 (by omega) bd9_11_0
      exact hQ _ _ _ _ hB5 trivial
  · skip
    have d6 : ((1) : Int) ≤ (v1.toInt) := ci_nlt rfl rfl c1
    refine ⟨fun c7 => ?_, fun c7 => ?_⟩
    · skip
      have d8 : ((30) : Int) < (v1.toInt) := ci_lt rfl rfl c7
      refine ⟨Or.inl rfl, ?_⟩
      intro o9
      refine ⟨fun c10 => ?_, fun c10 => ?_⟩
      · exact absurd c10 (by decide)
      · skip
        refine w_X11_refuse ?_
        have hB11 : Bd (uI I 1 0 2) := Bd.o0 hB0 io9_112_1_11 (by omega) bd9_11_0
        exact hQ _ _ _ _ hB11 trivial
    · skip
      have d12 : ((v1.toInt) : Int) ≤ (30) := ci_nlt rfl rfl c7
      refine ⟨Or.inr rfl, ?_⟩
      intro o13
      refine ⟨fun c14 => ?_, fun c14 => ?_⟩
      · skip
        refine ⟨(RI.now hR0).2, ?_⟩
        refine bif_t (RI.now hR0).1 ?_
        refine sp_X0_stockSet hB0 hR0 (RI.now hR0).1 (fun x15 y20 I16 J17 hB18 p19 => ?_)
        have i21 := i32 x15
        refine sp_X5_find hB18 hR0 (by have z : (v1 : Int32).toInt = v1.toInt := rfl; omega) (fun x22 y27 I23 J24 hB25 p26 => ?_)
        intro o28
        have i29 := i32 x22
        refine ⟨fun c30 => ?_, fun c30 => ?_⟩
        · skip
          have d31 : ¬ ((x22.toInt) : Int) = (0) := ci_ne rfl rfl c30
          refine w_X11_answer ?_
          have hB32 : Bd (uI I23 1 0 0) := Bd.o0 hB25 io9_112_1_11 (by omega) bd9_11_0
          exact hQ _ _ _ _ hB32 trivial
        · skip
          have d33 : ((x22.toInt) : Int) = (0) := ci_eq rfl rfl c30
          refine w_X11_refuse ?_
          have hB34 : Bd (uI I23 1 0 8) := Bd.o0 hB25 io9_112_1_11 (by omega) bd9_11_0
          exact hQ _ _ _ _ hB34 trivial
      · exact absurd c14 (by decide)
set_option maxHeartbeats 2000000 in
theorem sp_X11_reachAt {d : Nat} {Q : Qt} {v1 : Int32} {v2 : Int32} {I : Im} {J : Jm} {R : Rm} (hB0 : Bd I) (hR0 : RI R) (hQ : ∀ (x : Int32) (y : Int64) (I2 : Im) (J2 : Jm), Bd I2 → (True) → Q x y I2 J2 R) : AM (d + 4) 137 112 [.ref 1, .int v1, .int v2] I J R Q := by
  have i_v1 := i32 v1
  have i_v2 := i32 v2
  refine w_X11_reachAt ?_
  refine w_X11_isSlice ?_
  refine ⟨fun c1 => ?_, fun c1 => ?_⟩
  · skip
    have d2 : ((v1.toInt) : Int) < (1) := ci_lt rfl rfl c1
    refine ⟨Or.inl rfl, ?_⟩
    intro o3
    refine ⟨fun c4 => ?_, fun c4 => ?_⟩
    · exact absurd c4 (by decide)
    · skip
      refine w_X11_refuse ?_
      have hB5 : Bd (uI I 1 0 2) := Bd.o0 hB0 io9_112_1_11 (by omega) bd9_11_0
      exact hQ _ _ _ _ hB5 trivial
  · skip
    have d6 : ((1) : Int) ≤ (v1.toInt) := ci_nlt rfl rfl c1
    refine ⟨fun c7 => ?_, fun c7 => ?_⟩
    · skip
      have d8 : ((30) : Int) < (v1.toInt) := ci_lt rfl rfl c7
      refine ⟨Or.inl rfl, ?_⟩
      intro o9
      refine ⟨fun c10 => ?_, fun c10 => ?_⟩
      · exact absurd c10 (by decide)
      · skip
        refine w_X11_refuse ?_
        have hB11 : Bd (uI I 1 0 2) := Bd.o0 hB0 io9_112_1_11 (by omega) bd9_11_0
        exact hQ _ _ _ _ hB11 trivial
    · skip
      have d12 : ((v1.toInt) : Int) ≤ (30) := ci_nlt rfl rfl c7
      refine ⟨Or.inr rfl, ?_⟩
      intro o13
      refine ⟨fun c14 => ?_, fun c14 => ?_⟩
      · skip
        refine ⟨(RI.now hR0).2, ?_⟩
        refine bif_t (RI.now hR0).1 ?_
        refine sp_X0_stockSet hB0 hR0 (RI.now hR0).1 (fun x15 y20 I16 J17 hB18 p19 => ?_)
        have i21 := i32 x15
        refine sp_X5_find hB18 hR0 (by have z : (v1 : Int32).toInt = v1.toInt := rfl; omega) (fun x22 y27 I23 J24 hB25 p26 => ?_)
        intro o28
        have i29 := i32 x22
        refine ⟨fun c30 => ?_, fun c30 => ?_⟩
        · skip
          have d31 : ((x22.toInt) : Int) = (0) := ci_eq rfl rfl c30
          refine w_X11_refuse ?_
          have hB32 : Bd (uI I23 1 0 8) := Bd.o0 hB25 io9_112_1_11 (by omega) bd9_11_0
          exact hQ _ _ _ _ hB32 trivial
        · skip
          have d33 : ¬ ((x22.toInt) : Int) = (0) := ci_ne rfl rfl c30
          refine ⟨fun c34 => ?_, fun c34 => ?_⟩
          · skip
            have d35 : ((v2.toInt) : Int) < (0) := ci_lt rfl rfl c34
            refine w_X11_refuse ?_
            have hB36 : Bd (uI I23 1 0 8) := Bd.o0 hB25 io9_112_1_11 (by omega) bd9_11_0
            exact hQ _ _ _ _ hB36 trivial
          · skip
            have d37 : ((0) : Int) ≤ (v2.toInt) := ci_nlt rfl rfl c34
            refine ⟨fun c38 => ?_, fun c38 => ?_⟩
            · skip
              have b39 := Bd.o hB25 io9_112_42_5 bd9_5_2
              have d40 : ((v2.toInt) : Int) < ((I23 42 2).toInt) := ci_lt rfl rfl c38
              refine ⟨vp_of (a := v2.toInt) rfl (by omega) (by omega), ?_⟩
              refine w_X11_answer ?_
              have hB41 : Bd (uI I23 1 0 0) := Bd.o0 hB25 io9_112_1_11 (by omega) bd9_11_0
              exact hQ _ _ _ _ hB41 trivial
            · skip
              have b42 := Bd.o hB25 io9_112_42_5 bd9_5_2
              have d43 : (((I23 42 2).toInt) : Int) ≤ (v2.toInt) := ci_nlt rfl rfl c38
              refine w_X11_refuse ?_
              have hB44 : Bd (uI I23 1 0 8) := Bd.o0 hB25 io9_112_1_11 (by omega) bd9_11_0
              exact hQ _ _ _ _ hB44 trivial
      · exact absurd c14 (by decide)
set_option maxHeartbeats 2000000 in
theorem sp_X11_fill {d : Nat} {Q : Qt} {v1 : Int32} {I : Im} {J : Jm} {R : Rm} (hB0 : Bd I) (hR0 : RI R) (hQ : ∀ (x : Int32) (y : Int64) (I2 : Im) (J2 : Jm), Bd I2 → (True) → Q x y I2 J2 R) : AM (d + 14) 138 112 [.ref 1, .int v1] I J R Q := by
  have i_v1 := i32 v1
  refine w_X11_fill ?_
  refine ⟨(RI.now hR0).2, ?_⟩
  refine bif_t (RI.now hR0).1 ?_
  refine w_X0_isMan ?_
  refine ⟨fun c1 => ?_, fun c1 => ?_⟩
  · skip
    have d2 : ((v1.toInt) : Int) < (0) := ci_lt rfl rfl c1
    refine ⟨Or.inl rfl, ?_⟩
    intro o3
    refine ⟨fun c4 => ?_, fun c4 => ?_⟩
    · exact absurd c4 (by decide)
    · skip
      refine w_X11_refuse ?_
      have hB5 : Bd (uI I 1 0 2) := Bd.o0 hB0 io9_112_1_11 (by omega) bd9_11_0
      exact hQ _ _ _ _ hB5 trivial
  · skip
    have d6 : ((0) : Int) ≤ (v1.toInt) := ci_nlt rfl rfl c1
    refine bif_t (RI.now hR0).1 ?_
    refine ⟨fun c7 => ?_, fun c7 => ?_⟩
    · skip
      have b8 := Bd.o hB0 (RI.now hR0).1 bd9_0_4
      have d9 : (((I (R 1 7) 4).toInt) : Int) ≤ (v1.toInt) := ci_le rfl rfl c7
      refine ⟨Or.inl rfl, ?_⟩
      intro o10
      refine ⟨fun c11 => ?_, fun c11 => ?_⟩
      · exact absurd c11 (by decide)
      · skip
        refine w_X11_refuse ?_
        have hB12 : Bd (uI I 1 0 2) := Bd.o0 hB0 io9_112_1_11 (by omega) bd9_11_0
        exact hQ _ _ _ _ hB12 trivial
    · skip
      have b13 := Bd.o hB0 (RI.now hR0).1 bd9_0_4
      have d14 : ((v1.toInt) : Int) < ((I (R 1 7) 4).toInt) := ci_nle rfl rfl c7
      refine ⟨Or.inr rfl, ?_⟩
      intro o15
      refine ⟨fun c16 => ?_, fun c16 => ?_⟩
      · skip
        refine ⟨(RI.now hR0).2, ?_⟩
        refine bif_t (RI.now hR0).1 ?_
        refine sp_X0_giftsFor hB0 hR0 (RI.now hR0).1 (by have z : (v1 : Int32).toInt = v1.toInt := rfl; omega) (fun x17 y22 I18 J19 hB20 p21 => ?_)
        have i23 := i32 x17
        refine ⟨(RI.now hR0).2, ?_⟩
        refine bif_t (RI.now hR0).1 ?_
        refine sp_X0_lacking hB20 hR0 (RI.now hR0).1 (by have z : (v1 : Int32).toInt = v1.toInt := rfl; omega) (fun x24 y29 I25 J26 hB27 p28 => ?_)
        refine sp_X7_findFewest hB27 hR0 (fun x30 y35 I31 J32 hB33 p34 => ?_)
        intro o36
        have i37 := i32 x30
        refine w_X11_answerSize ?_
        refine ⟨fun c38 => ?_, fun c38 => ?_⟩
        · skip
          have d39 : ((x30.toInt) : Int) = (0) := ci_eq rfl rfl c38
          refine w_X11_refuse ?_
          have hB40 : Bd (uI I31 1 0 8) := Bd.o0 hB33 io9_112_1_11 (by omega) bd9_11_0
          exact hQ _ _ _ _ hB40 trivial
        · skip
          have d41 : ¬ ((x30.toInt) : Int) = (0) := ci_ne rfl rfl c38
          refine w_X11_answer ?_
          have hB42 : Bd (uI I31 1 0 0) := Bd.o0 hB33 io9_112_1_11 (by omega) bd9_11_0
          exact hQ _ _ _ _ hB42 trivial
      · exact absurd c16 (by decide)
set_option maxHeartbeats 2000000 in
theorem sp_X11_fillAt {d : Nat} {Q : Qt} {v1 : Int32} {v2 : Int32} {I : Im} {J : Jm} {R : Rm} (hB0 : Bd I) (hR0 : RI R) (hQ : ∀ (x : Int32) (y : Int64) (I2 : Im) (J2 : Jm), Bd I2 → (True) → Q x y I2 J2 R) : AM (d + 14) 139 112 [.ref 1, .int v1, .int v2] I J R Q := by
  have i_v1 := i32 v1
  have i_v2 := i32 v2
  refine w_X11_fillAt ?_
  refine ⟨(RI.now hR0).2, ?_⟩
  refine bif_t (RI.now hR0).1 ?_
  refine w_X0_isMan ?_
  refine ⟨fun c1 => ?_, fun c1 => ?_⟩
  · skip
    have d2 : ((v1.toInt) : Int) < (0) := ci_lt rfl rfl c1
    refine ⟨Or.inl rfl, ?_⟩
    intro o3
    refine ⟨fun c4 => ?_, fun c4 => ?_⟩
    · exact absurd c4 (by decide)
    · skip
      refine w_X11_refuse ?_
      have hB5 : Bd (uI I 1 0 2) := Bd.o0 hB0 io9_112_1_11 (by omega) bd9_11_0
      exact hQ _ _ _ _ hB5 trivial
  · skip
    have d6 : ((0) : Int) ≤ (v1.toInt) := ci_nlt rfl rfl c1
    refine bif_t (RI.now hR0).1 ?_
    refine ⟨fun c7 => ?_, fun c7 => ?_⟩
    · skip
      have b8 := Bd.o hB0 (RI.now hR0).1 bd9_0_4
      have d9 : (((I (R 1 7) 4).toInt) : Int) ≤ (v1.toInt) := ci_le rfl rfl c7
      refine ⟨Or.inl rfl, ?_⟩
      intro o10
      refine ⟨fun c11 => ?_, fun c11 => ?_⟩
      · exact absurd c11 (by decide)
      · skip
        refine w_X11_refuse ?_
        have hB12 : Bd (uI I 1 0 2) := Bd.o0 hB0 io9_112_1_11 (by omega) bd9_11_0
        exact hQ _ _ _ _ hB12 trivial
    · skip
      have b13 := Bd.o hB0 (RI.now hR0).1 bd9_0_4
      have d14 : ((v1.toInt) : Int) < ((I (R 1 7) 4).toInt) := ci_nle rfl rfl c7
      refine ⟨Or.inr rfl, ?_⟩
      intro o15
      refine ⟨fun c16 => ?_, fun c16 => ?_⟩
      · skip
        refine ⟨(RI.now hR0).2, ?_⟩
        refine bif_t (RI.now hR0).1 ?_
        refine sp_X0_giftsFor hB0 hR0 (RI.now hR0).1 (by have z : (v1 : Int32).toInt = v1.toInt := rfl; omega) (fun x17 y22 I18 J19 hB20 p21 => ?_)
        have i23 := i32 x17
        refine ⟨(RI.now hR0).2, ?_⟩
        refine bif_t (RI.now hR0).1 ?_
        refine sp_X0_lacking hB20 hR0 (RI.now hR0).1 (by have z : (v1 : Int32).toInt = v1.toInt := rfl; omega) (fun x24 y29 I25 J26 hB27 p28 => ?_)
        refine sp_X7_findFewest hB27 hR0 (fun x30 y35 I31 J32 hB33 p34 => ?_)
        intro o36
        have i37 := i32 x30
        refine w_X11_answerSlice ?_
        refine ⟨fun c38 => ?_, fun c38 => ?_⟩
        · skip
          have d39 : ((x30.toInt) : Int) = (0) := ci_eq rfl rfl c38
          refine w_X11_refuse ?_
          have hB40 : Bd (uI I31 1 0 8) := Bd.o0 hB33 io9_112_1_11 (by omega) bd9_11_0
          exact hQ _ _ _ _ hB40 trivial
        · skip
          have d41 : ¬ ((x30.toInt) : Int) = (0) := ci_ne rfl rfl c38
          refine w_X7_hasBest ?_
          refine ⟨fun c42 => ?_, fun c42 => ?_⟩
          · skip
            have d43 : ((v2.toInt) : Int) < (0) := ci_lt rfl rfl c42
            refine ⟨Or.inl rfl, ?_⟩
            intro o44
            refine ⟨fun c45 => ?_, fun c45 => ?_⟩
            · skip
              refine w_X11_refuse ?_
              have hB46 : Bd (uI I31 1 0 8) := Bd.o0 hB33 io9_112_1_11 (by omega) bd9_11_0
              exact hQ _ _ _ _ hB46 trivial
            · exact absurd c45 (by decide)
          · skip
            have d47 : ((0) : Int) ≤ (v2.toInt) := ci_nlt rfl rfl c42
            refine ⟨fun c48 => ?_, fun c48 => ?_⟩
            · skip
              have b49 := Bd.o hB33 io9_112_35_7 bd9_7_5
              have d50 : (((I31 35 5).toInt) : Int) ≤ (v2.toInt) := ci_le rfl rfl c48
              refine ⟨Or.inl rfl, ?_⟩
              intro o51
              refine ⟨fun c52 => ?_, fun c52 => ?_⟩
              · skip
                refine w_X11_refuse ?_
                have hB53 : Bd (uI I31 1 0 8) := Bd.o0 hB33 io9_112_1_11 (by omega) bd9_11_0
                exact hQ _ _ _ _ hB53 trivial
              · exact absurd c52 (by decide)
            · skip
              have b54 := Bd.o hB33 io9_112_35_7 bd9_7_5
              have d55 : ((v2.toInt) : Int) < ((I31 35 5).toInt) := ci_nle rfl rfl c48
              refine ⟨Or.inr rfl, ?_⟩
              intro o56
              refine ⟨fun c57 => ?_, fun c57 => ?_⟩
              · exact absurd c57 (by decide)
              · skip
                refine ⟨vp_of (a := v2.toInt) rfl (by omega) (by omega), ?_⟩
                refine w_X11_answer ?_
                have hB58 : Bd (uI I31 1 0 0) := Bd.o0 hB33 io9_112_1_11 (by omega) bd9_11_0
                exact hQ _ _ _ _ hB58 trivial
      · exact absurd c16 (by decide)
set_option maxHeartbeats 2000000 in
theorem sp_X11_plate {d : Nat} {Q : Qt} {v1 : Int32} {I : Im} {J : Jm} {R : Rm} (hB0 : Bd I) (hR0 : RI R) (hQ : ∀ (x : Int32) (y : Int64) (I2 : Im) (J2 : Jm), Bd I2 → (True) → Q x y I2 J2 R) : AM (d + 4) 140 112 [.ref 1, .int v1] I J R Q := by
  have i_v1 := i32 v1
  refine w_X11_plate ?_
  refine sp_X11_isPlateSet hB0 hR0 (fun x1 y6 I2 J3 hB4 p5 => ?_)
  intro o7
  obtain ⟨heI2, p5⟩ := p5
  subst heI2
  have i8 := i32 x1
  refine ⟨fun c9 => ?_, fun c9 => ?_⟩
  · skip
    have d10 : ¬ ((x1.toInt) : Int) = (0) := ci_ne rfl rfl c9
    refine sp_X9_lay hB0 hR0 (fun x11 y16 I12 J13 hB14 p15 => ?_)
    refine sp_X9_firstWinning hB14 hR0 (fun x17 y22 I18 J19 hB20 p21 => ?_)
    have i23 := i32 x17
    refine ⟨fun c24 => ?_, fun c24 => ?_⟩
    · skip
      have d25 : ¬ ((x17.toInt) : Int) = ((-1)) := ci_ne rfl rfl c24
      refine w_X11_answer ?_
      have hB26 : Bd (uI I18 1 0 0) := Bd.o0 hB20 io9_112_1_11 (by omega) bd9_11_0
      exact hQ _ _ _ _ hB26 trivial
    · skip
      have d27 : ((x17.toInt) : Int) = ((-1)) := ci_eq rfl rfl c24
      refine w_X11_answer ?_
      have hB28 : Bd (uI I18 1 0 0) := Bd.o0 hB20 io9_112_1_11 (by omega) bd9_11_0
      exact hQ _ _ _ _ hB28 trivial
  · skip
    have d29 : ((x1.toInt) : Int) = (0) := ci_eq rfl rfl c9
    refine w_X11_refuse ?_
    have hB30 : Bd (uI I 1 0 5) := Bd.o0 hB0 io9_112_1_11 (by omega) bd9_11_0
    exact hQ _ _ _ _ hB30 trivial
set_option maxHeartbeats 2000000 in
theorem sp_X11_plateMove {d : Nat} {Q : Qt} {v1 : Int32} {I : Im} {J : Jm} {R : Rm} (hB0 : Bd I) (hR0 : RI R) (hQ : ∀ (x : Int32) (y : Int64) (I2 : Im) (J2 : Jm), Bd I2 → (True) → Q x y I2 J2 R) : AM (d + 4) 141 112 [.ref 1, .int v1] I J R Q := by
  have i_v1 := i32 v1
  refine w_X11_plateMove ?_
  refine sp_X11_isPlateSet hB0 hR0 (fun x1 y6 I2 J3 hB4 p5 => ?_)
  intro o7
  obtain ⟨heI2, p5⟩ := p5
  subst heI2
  have i8 := i32 x1
  refine ⟨fun c9 => ?_, fun c9 => ?_⟩
  · skip
    have d10 : ¬ ((x1.toInt) : Int) = (0) := ci_ne rfl rfl c9
    refine sp_X9_lay hB0 hR0 (fun x11 y16 I12 J13 hB14 p15 => ?_)
    refine sp_X9_firstWinning hB14 hR0 (fun x17 y22 I18 J19 hB20 p21 => ?_)
    have i23 := i32 x17
    refine ⟨fun c24 => ?_, fun c24 => ?_⟩
    · skip
      have d25 : ¬ ((x17.toInt) : Int) = ((-1)) := ci_ne rfl rfl c24
      refine ⟨vp_of (a := x17.toInt) rfl (by omega) (by omega), ?_⟩
      refine w_X11_answer ?_
      have hB26 : Bd (uI I18 1 0 0) := Bd.o0 hB20 io9_112_1_11 (by omega) bd9_11_0
      exact hQ _ _ _ _ hB26 trivial
    · skip
      have d27 : ((x17.toInt) : Int) = ((-1)) := ci_eq rfl rfl c24
      refine w_X11_refuse ?_
      have hB28 : Bd (uI I18 1 0 8) := Bd.o0 hB20 io9_112_1_11 (by omega) bd9_11_0
      exact hQ _ _ _ _ hB28 trivial
  · skip
    have d29 : ((x1.toInt) : Int) = (0) := ci_eq rfl rfl c9
    refine w_X11_refuse ?_
    have hB30 : Bd (uI I 1 0 5) := Bd.o0 hB0 io9_112_1_11 (by omega) bd9_11_0
    exact hQ _ _ _ _ hB30 trivial
set_option maxHeartbeats 2000000 in
theorem sp_X11_luck {d : Nat} {Q : Qt} {v1 : Int32} {v2 : Int32} {v3 : Int32} {v4 : Int32} {I : Im} {J : Jm} {R : Rm} (hB0 : Bd I) (hR0 : RI R) (hQ : ∀ (x : Int32) (y : Int64) (I2 : Im) (J2 : Jm), Bd I2 → ((0 ≤ x.toInt ∧ x.toInt ≤ 1 ∧ (x.toInt = 1 → 0 ≤ v1.toInt ∧ v1.toInt ≤ 1073741823 ∧ pcn v1 30 ≤ 12 ∧ 0 ≤ v2.toInt ∧ v2.toInt ≤ 12 ∧ 1 ≤ v3.toInt ∧ v3.toInt ≤ 99 ∧ 1 ≤ v4.toInt ∧ v4.toInt ≤ 30 ∧ v2.toInt ≤ pcn v1 30) ∧ (0 ≤ v1.toInt ∧ v1.toInt ≤ 1073741823 ∧ pcn v1 30 ≤ 12 ∧ 0 ≤ v2.toInt ∧ v2.toInt ≤ 12 ∧ 1 ≤ v3.toInt ∧ v3.toInt ≤ 99 ∧ 1 ≤ v4.toInt ∧ v4.toInt ≤ 30 ∧ v2.toInt ≤ pcn v1 30 → x.toInt = 1))) → Q x y I2 J2 R) : AM (d + 4) 142 112 [.ref 1, .int v1, .int v2, .int v3, .int v4] I J R Q := by
  have i_v1 := i32 v1
  have i_v2 := i32 v2
  have i_v3 := i32 v3
  have i_v4 := i32 v4
  refine w_X11_luck ?_
  refine sp_X11_isPlateSet hB0 hR0 (fun x1 y6 I2 J3 hB4 p5 => ?_)
  intro o7
  obtain ⟨heI2, p5⟩ := p5
  subst heI2
  have i8 := i32 x1
  refine ⟨fun c9 => ?_, fun c9 => ?_⟩
  · skip
    have d10 : ((x1.toInt) : Int) = (0) := ci_eq rfl rfl c9
    refine w_X11_deny ?_
    have hB11 : Bd (uI I 1 0 5) := Bd.o0 hB0 io9_112_1_11 (by omega) bd9_11_0
    refine ⟨Or.inl rfl, ?_⟩
    intro o12
    refine ⟨Or.inl rfl, ?_⟩
    exact hQ _ _ _ _ hB11 (by have q0 : (0 : Int32).toInt = 0 := rfl; omega)
  · skip
    have d13 : ¬ ((x1.toInt) : Int) = (0) := ci_ne rfl rfl c9
    refine ⟨fun c14 => ?_, fun c14 => ?_⟩
    · skip
      have d15 : ((v2.toInt) : Int) < (0) := ci_lt rfl rfl c14
      refine w_X11_deny ?_
      have hB16 : Bd (uI I 1 0 5) := Bd.o0 hB0 io9_112_1_11 (by omega) bd9_11_0
      refine ⟨Or.inl rfl, ?_⟩
      intro o17
      refine ⟨Or.inl rfl, ?_⟩
      exact hQ _ _ _ _ hB16 (by have q0 : (0 : Int32).toInt = 0 := rfl; omega)
    · skip
      have d18 : ((0) : Int) ≤ (v2.toInt) := ci_nlt rfl rfl c14
      refine ⟨fun c19 => ?_, fun c19 => ?_⟩
      · skip
        have d20 : ((12) : Int) < (v2.toInt) := ci_lt rfl rfl c19
        refine w_X11_deny ?_
        have hB21 : Bd (uI I 1 0 5) := Bd.o0 hB0 io9_112_1_11 (by omega) bd9_11_0
        refine ⟨Or.inl rfl, ?_⟩
        intro o22
        refine ⟨Or.inl rfl, ?_⟩
        exact hQ _ _ _ _ hB21 (by have q0 : (0 : Int32).toInt = 0 := rfl; omega)
      · skip
        have d23 : ((v2.toInt) : Int) ≤ (12) := ci_nlt rfl rfl c19
        refine w_X11_isShare ?_
        refine ⟨fun c24 => ?_, fun c24 => ?_⟩
        · skip
          have d25 : ((v3.toInt) : Int) < (1) := ci_lt rfl rfl c24
          refine ⟨Or.inl rfl, ?_⟩
          intro o26
          refine ⟨fun c27 => ?_, fun c27 => ?_⟩
          · exact absurd c27 (by decide)
          · skip
            refine w_X11_deny ?_
            have hB28 : Bd (uI I 1 0 5) := Bd.o0 hB0 io9_112_1_11 (by omega) bd9_11_0
            refine ⟨Or.inl rfl, ?_⟩
            intro o29
            refine ⟨Or.inl rfl, ?_⟩
            exact hQ _ _ _ _ hB28 (by have q0 : (0 : Int32).toInt = 0 := rfl; omega)
        · skip
          have d30 : ((1) : Int) ≤ (v3.toInt) := ci_nlt rfl rfl c24
          refine ⟨fun c31 => ?_, fun c31 => ?_⟩
          · skip
            have d32 : ((99) : Int) < (v3.toInt) := ci_lt rfl rfl c31
            refine ⟨Or.inl rfl, ?_⟩
            intro o33
            refine ⟨fun c34 => ?_, fun c34 => ?_⟩
            · exact absurd c34 (by decide)
            · skip
              refine w_X11_deny ?_
              have hB35 : Bd (uI I 1 0 5) := Bd.o0 hB0 io9_112_1_11 (by omega) bd9_11_0
              refine ⟨Or.inl rfl, ?_⟩
              intro o36
              refine ⟨Or.inl rfl, ?_⟩
              exact hQ _ _ _ _ hB35 (by have q0 : (0 : Int32).toInt = 0 := rfl; omega)
          · skip
            have d37 : ((v3.toInt) : Int) ≤ (99) := ci_nlt rfl rfl c31
            refine ⟨fun c38 => ?_, fun c38 => ?_⟩
            · skip
              have d39 : ((v4.toInt) : Int) < (1) := ci_lt rfl rfl c38
              refine ⟨Or.inl rfl, ?_⟩
              intro o40
              refine ⟨fun c41 => ?_, fun c41 => ?_⟩
              · exact absurd c41 (by decide)
              · skip
                refine w_X11_deny ?_
                have hB42 : Bd (uI I 1 0 5) := Bd.o0 hB0 io9_112_1_11 (by omega) bd9_11_0
                refine ⟨Or.inl rfl, ?_⟩
                intro o43
                refine ⟨Or.inl rfl, ?_⟩
                exact hQ _ _ _ _ hB42 (by have q0 : (0 : Int32).toInt = 0 := rfl; omega)
            · skip
              have d44 : ((1) : Int) ≤ (v4.toInt) := ci_nlt rfl rfl c38
              refine ⟨fun c45 => ?_, fun c45 => ?_⟩
              · skip
                have d46 : ((30) : Int) < (v4.toInt) := ci_lt rfl rfl c45
                refine ⟨Or.inl rfl, ?_⟩
                intro o47
                refine ⟨fun c48 => ?_, fun c48 => ?_⟩
                · exact absurd c48 (by decide)
                · skip
                  refine w_X11_deny ?_
                  have hB49 : Bd (uI I 1 0 5) := Bd.o0 hB0 io9_112_1_11 (by omega) bd9_11_0
                  refine ⟨Or.inl rfl, ?_⟩
                  intro o50
                  refine ⟨Or.inl rfl, ?_⟩
                  exact hQ _ _ _ _ hB49 (by have q0 : (0 : Int32).toInt = 0 := rfl; omega)
              · skip
                have d51 : ((v4.toInt) : Int) ≤ (30) := ci_nlt rfl rfl c45
                refine ⟨Or.inr rfl, ?_⟩
                intro o52
                refine ⟨fun c53 => ?_, fun c53 => ?_⟩
                · skip
                  refine sp_J6_bitCount_0f7a4 hB0 hR0 (fun x54 y59 I55 J56 hB57 p58 => ?_)
                  obtain ⟨heI55, p58⟩ := p58
                  subst heI55
                  have i60 := i32 x54
                  refine ⟨fun c61 => ?_, fun c61 => ?_⟩
                  · skip
                    have d62 : ((v2.toInt) : Int) ≤ (x54.toInt) := ci_le rfl rfl c61
                    refine sp_X9_lay hB0 hR0 (fun x63 y68 I64 J65 hB66 p67 => ?_)
                    refine w_X11_crumbs ?_
                    refine ⟨fun c69 => ?_, fun c69 => ?_⟩
                    · skip
                      have d70 : ((1) : Int) ≤ (v4.toInt) := ci_le rfl rfl c69
                      refine ⟨(fun z => by have z2 : (v4.toInt : Int) = 0 := cl_eq (tl_i2l rfl) rfl z; omega), ?_⟩
                      refine sp_X9_countWithin hB66 hR0 (fun x71 y76 I72 J73 hB74 p75 => ?_)
                      refine sp_X11_choices hB74 hR0 (by have z : (v2 : Int32).toInt = v2.toInt := rfl; omega) (fun x77 y82 I78 J79 hB80 p81 => ?_)
                      refine sp_X11_tell hB80 hR0 (fun x83 y88 I84 J85 hB86 p87 => ?_)
                      intro o89
                      have i90 := i32 x83
                      refine ⟨o89, ?_⟩
                      exact hQ _ _ _ _ hB86 (by have q0 : (x83 : Int32).toInt = x83.toInt := rfl; omega)
                    · skip
                      have d91 : ((v4.toInt) : Int) < (1) := ci_nle rfl rfl c69
                      refine sp_X9_countWithin hB66 hR0 (fun x92 y97 I93 J94 hB95 p96 => ?_)
                      refine sp_X11_choices hB95 hR0 (by have z : (v2 : Int32).toInt = v2.toInt := rfl; omega) (fun x98 y103 I99 J100 hB101 p102 => ?_)
                      refine sp_X11_tell hB101 hR0 (fun x104 y109 I105 J106 hB107 p108 => ?_)
                      intro o110
                      have i111 := i32 x104
                      refine ⟨o110, ?_⟩
                      exact hQ _ _ _ _ hB107 (by have q0 : (x104 : Int32).toInt = x104.toInt := rfl; omega)
                  · skip
                    have d112 : ((x54.toInt) : Int) < (v2.toInt) := ci_nle rfl rfl c61
                    refine w_X11_deny ?_
                    have hB113 : Bd (uI I 1 0 8) := Bd.o0 hB0 io9_112_1_11 (by omega) bd9_11_0
                    refine ⟨Or.inl rfl, ?_⟩
                    intro o114
                    refine ⟨Or.inl rfl, ?_⟩
                    exact hQ _ _ _ _ hB113 (by have q0 : (0 : Int32).toInt = 0 := rfl; omega)
                · exact absurd c53 (by decide)
set_option maxHeartbeats 2000000 in
theorem sp_X11_live {d : Nat} {Q : Qt} {v1 : Int32} {I : Im} {J : Jm} {R : Rm} (hB0 : Bd I) (hR0 : RI R) (hQ : ∀ (x : Int32) (y : Int64) (I2 : Im) (J2 : Jm), Bd I2 → (True) → Q x y I2 J2 R) : AM (d + 7) 144 112 [.ref 1, .int v1] I J R Q := by
  have i_v1 := i32 v1
  refine w_X11_live ?_
  refine ⟨fun c1 => ?_, fun c1 => ?_⟩
  · skip
    have d2 : ((v1.toInt) : Int) < (0) := ci_lt rfl rfl c1
    refine w_X11_refuse ?_
    have hB3 : Bd (uI I 1 0 5) := Bd.o0 hB0 io9_112_1_11 (by omega) bd9_11_0
    exact hQ _ _ _ _ hB3 trivial
  · skip
    have d4 : ((0) : Int) ≤ (v1.toInt) := ci_nlt rfl rfl c1
    refine ⟨fun c5 => ?_, fun c5 => ?_⟩
    · skip
      have d6 : ((v1.toInt) : Int) ≤ (9999) := ci_le rfl rfl c5
      refine ⟨(RI.plan hR0).2, ?_⟩
      refine bif_t (RI.plan hR0).1 ?_
      refine ⟨fun c7 => ?_, fun c7 => ?_⟩
      · skip
        have b8 := Bd.o hB0 (RI.plan hR0).1 bd9_2_0
        have d9 : ¬ (((I (R 1 9) 0).toInt) : Int) = (0) := ci_ne rfl rfl c7
        refine ⟨(RI.now hR0).2, ?_⟩
        refine ⟨(RI.plan hR0).2, ?_⟩
        refine sp_X4_run hB0 hR0 io9_112_49_4 (RI.now hR0).1 (RI.plan hR0).1 (fun x10 y15 I11 J12 hB13 p14 => ?_)
        refine w_X11_answer ?_
        have hB16 : Bd (uI I11 1 0 0) := Bd.o0 hB13 io9_112_1_11 (by omega) bd9_11_0
        exact hQ _ _ _ _ hB16 trivial
      · skip
        have b17 := Bd.o hB0 (RI.plan hR0).1 bd9_2_0
        have d18 : (((I (R 1 9) 0).toInt) : Int) = (0) := ci_eq rfl rfl c7
        refine w_X11_refuse ?_
        have hB19 : Bd (uI I 1 0 8) := Bd.o0 hB0 io9_112_1_11 (by omega) bd9_11_0
        exact hQ _ _ _ _ hB19 trivial
    · skip
      have d20 : ((9999) : Int) < (v1.toInt) := ci_nle rfl rfl c5
      refine w_X11_refuse ?_
      have hB21 : Bd (uI I 1 0 5) := Bd.o0 hB0 io9_112_1_11 (by omega) bd9_11_0
      exact hQ _ _ _ _ hB21 trivial
set_option maxHeartbeats 2000000 in
theorem sp_X11_lived {d : Nat} {Q : Qt} {v1 : Int32} {I : Im} {J : Jm} {R : Rm} (hB0 : Bd I) (hR0 : RI R) (hQ : ∀ (x : Int32) (y : Int64) (I2 : Im) (J2 : Jm), Bd I2 → (True) → Q x y I2 J2 R) : AM (d + 2) 145 112 [.ref 1, .int v1] I J R Q := by
  have i_v1 := i32 v1
  refine w_X11_lived ?_
  refine ⟨fun c1 => ?_, fun c1 => ?_⟩
  · skip
    have d2 : ((v1.toInt) : Int) < (0) := ci_lt rfl rfl c1
    refine w_X11_refuse ?_
    have hB3 : Bd (uI I 1 0 5) := Bd.o0 hB0 io9_112_1_11 (by omega) bd9_11_0
    exact hQ _ _ _ _ hB3 trivial
  · skip
    have d4 : ((0) : Int) ≤ (v1.toInt) := ci_nlt rfl rfl c1
    refine ⟨fun c5 => ?_, fun c5 => ?_⟩
    · skip
      have d6 : ((v1.toInt) : Int) ≤ (4) := ci_le rfl rfl c5
      refine ⟨fun c7 => ?_, fun c7 => ?_⟩
      · skip
        have b8 := Bd.o hB0 io9_112_49_4 bd9_4_0
        have d9 : ¬ (((I 49 0).toInt) : Int) = (0) := ci_ne rfl rfl c7
        refine ⟨fun c10 => ?_, fun c10 => ?_⟩
        · skip
          have d11 : ((v1.toInt) : Int) = (0) := ci_eq rfl rfl c10
          refine w_X11_answer ?_
          have hB12 : Bd (uI I 1 0 0) := Bd.o0 hB0 io9_112_1_11 (by omega) bd9_11_0
          exact hQ _ _ _ _ hB12 trivial
        · skip
          have d13 : ¬ ((v1.toInt) : Int) = (0) := ci_ne rfl rfl c10
          refine ⟨fun c14 => ?_, fun c14 => ?_⟩
          · skip
            have d15 : ((v1.toInt) : Int) = (1) := ci_eq rfl rfl c14
            refine w_X11_answer ?_
            have hB16 : Bd (uI I 1 0 0) := Bd.o0 hB0 io9_112_1_11 (by omega) bd9_11_0
            exact hQ _ _ _ _ hB16 trivial
          · skip
            have d17 : ¬ ((v1.toInt) : Int) = (1) := ci_ne rfl rfl c14
            refine ⟨fun c18 => ?_, fun c18 => ?_⟩
            · skip
              have d19 : ((v1.toInt) : Int) = (2) := ci_eq rfl rfl c18
              refine w_X11_answer ?_
              have hB20 : Bd (uI I 1 0 0) := Bd.o0 hB0 io9_112_1_11 (by omega) bd9_11_0
              exact hQ _ _ _ _ hB20 trivial
            · skip
              have d21 : ¬ ((v1.toInt) : Int) = (2) := ci_ne rfl rfl c18
              refine ⟨fun c22 => ?_, fun c22 => ?_⟩
              · skip
                have d23 : ((v1.toInt) : Int) = (3) := ci_eq rfl rfl c22
                refine w_X11_answer ?_
                have hB24 : Bd (uI I 1 0 0) := Bd.o0 hB0 io9_112_1_11 (by omega) bd9_11_0
                exact hQ _ _ _ _ hB24 trivial
              · skip
                have d25 : ¬ ((v1.toInt) : Int) = (3) := ci_ne rfl rfl c22
                refine w_X11_answer ?_
                have hB26 : Bd (uI I 1 0 0) := Bd.o0 hB0 io9_112_1_11 (by omega) bd9_11_0
                exact hQ _ _ _ _ hB26 trivial
      · skip
        have b27 := Bd.o hB0 io9_112_49_4 bd9_4_0
        have d28 : (((I 49 0).toInt) : Int) = (0) := ci_eq rfl rfl c7
        refine w_X11_refuse ?_
        have hB29 : Bd (uI I 1 0 8) := Bd.o0 hB0 io9_112_1_11 (by omega) bd9_11_0
        exact hQ _ _ _ _ hB29 trivial
    · skip
      have d30 : ((4) : Int) < (v1.toInt) := ci_nle rfl rfl c5
      refine w_X11_refuse ?_
      have hB31 : Bd (uI I 1 0 5) := Bd.o0 hB0 io9_112_1_11 (by omega) bd9_11_0
      exact hQ _ _ _ _ hB31 trivial
set_option maxHeartbeats 2000000 in
theorem sp_X11_mark {d : Nat} {Q : Qt} {I : Im} {J : Jm} {R : Rm} (hB0 : Bd I) (hR0 : RI R) (hQ : ∀ (x : Int32) (y : Int64) (I2 : Im) (J2 : Jm), Bd I2 → ((((I 1 13).toInt < 3 ∧ x.toInt = (I 1 13).toInt + 1 ∧ (I2 1 13).toInt = (I 1 13).toInt + 1) ∨ ((I 1 13).toInt = 3 ∧ x.toInt = -1 ∧ (I2 1 13).toInt = 3))) → Q x y I2 J2 R) : AM (d + 2) 147 112 [.ref 1] I J R Q := by
  refine w_X11_mark ?_
  refine ⟨fun c1 => ?_, fun c1 => ?_⟩
  · skip
    have b2 := Bd.o hB0 io9_112_1_11 bd9_11_13
    have d3 : (((I 1 13).toInt) : Int) < (3) := ci_lt rfl rfl c1
    refine ⟨vp_of (a := (I 1 13).toInt) rfl (by omega) (by omega), ?_⟩
    have hr4 := RI.kb hR0 (Int32.toNatClampNeg (I 1 13)) (by rw [tn_of rfl (by omega)]; omega)
    refine ⟨hr4.1, ?_⟩
    refine ⟨(RI.now hR0).2, ?_⟩
    refine bif_t hr4.2 ?_
    refine sp_X0_copyFrom hB0 hR0 hr4.2 (RI.now hR0).1 (fun x5 y10 I6 J7 hB8 p9 => ?_)
    have e11 : ((I6 1 13) : Int32).toInt = (I 1 13).toInt := Eq.trans (congrArg Int32.toInt p9) rfl
    refine ⟨vp_of (a := (I 1 13).toInt) e11 (by omega) (by omega), ?_⟩
    have hr12 := RI.kd hR0 (Int32.toNatClampNeg (I6 1 13)) (by rw [tn_of e11 (by omega)]; omega)
    refine ⟨hr12.1, ?_⟩
    refine ⟨(RI.plan hR0).2, ?_⟩
    refine bif_t hr12.2 ?_
    refine sp_X2_copyFrom hB8 hR0 hr12.2 (RI.plan hR0).1 (fun x13 y18 I14 J15 hB16 p17 => ?_)
    have e20 : ((I14 1 13) : Int32).toInt = (I 1 13).toInt := Eq.trans (congrArg Int32.toInt (Eq.trans p17 p9)) rfl
    have e21 : (((I14 1 13) + 1) : Int32).toInt = ((I 1 13).toInt) + (1) := ti_add e20 rfl (by omega)
    have hB19 : Bd (uI I14 1 13 ((I14 1 13) + 1)) := Bd.o1 hB16 io9_112_1_11 (by omega) bd9_11_13 (show (((I14 1 13) + 1) : Int32).toInt = ((I 1 13).toInt + 1) from e21) (by omega)
    refine w_X11_answer ?_
    have hB22 : Bd (uI (uI I14 1 13 ((I14 1 13) + 1)) 1 0 0) := Bd.o0 hB19 io9_112_1_11 (by omega) bd9_11_0
    have e23 : (((uI (uI I14 1 13 ((I14 1 13) + 1)) 1 0 0) 1 13) : Int32).toInt = ((I 1 13).toInt + 1) := Eq.trans (congrArg Int32.toInt (Eq.trans (rd_k (by decide)) rd_eq)) e21
    have e24 : (((uI I14 1 13 ((I14 1 13) + 1)) 1 13) : Int32).toInt = ((I 1 13).toInt + 1) := Eq.trans (congrArg Int32.toInt rd_eq) e21
    exact hQ _ _ _ _ hB22 (by have q2 : (((uI (uI I14 1 13 ((I14 1 13) + 1)) 1 0 0) 1 13) : Int32).toInt = ((I 1 13).toInt + 1) := e23; have q0 : (((uI I14 1 13 ((I14 1 13) + 1)) 1 13) : Int32).toInt = ((I 1 13).toInt + 1) := e24; omega)
  · skip
    have b25 := Bd.o hB0 io9_112_1_11 bd9_11_13
    have d26 : ((3) : Int) ≤ ((I 1 13).toInt) := ci_nlt rfl rfl c1
    refine w_X11_refuse ?_
    have hB27 : Bd (uI I 1 0 7) := Bd.o0 hB0 io9_112_1_11 (by omega) bd9_11_0
    have e28 : (((uI I 1 0 7) 1 13) : Int32).toInt = (I 1 13).toInt := Eq.trans (congrArg Int32.toInt (rd_k (by decide))) rfl
    exact hQ _ _ _ _ hB27 (by have q2 : (((uI I 1 0 7) 1 13) : Int32).toInt = (I 1 13).toInt := e28; have q0 : ((-1) : Int32).toInt = (-1) := rfl; omega)
