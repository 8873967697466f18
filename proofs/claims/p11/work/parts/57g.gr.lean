set_option maxHeartbeats 2000000 in
theorem gp_X11_commonDivisor {d : Nat} {Q : Qt} {v0 : Int64} {v2 : Int64} {I : Im} {J : Jm} {R : Rm} (hB0 : Bd I) (hR0 : RI R) (hQ : ∀ (x : Int32) (y : Int64) (I2 : Im) (J2 : Jm), Bd I2 → (y = gcf 1000 v0 v2) → Q x y I2 J2 R) : AM (d + 1) 168 112 [.long v0, .long v2] I J R Q := by
  have i_v0 := i64 v0
  have i_v2 := i64 v2
  refine am_X11_commonDivisor (fun P hc => ?_)
  have L : ∀ n : Nat, (∀ (v4 : Int64) (v6 : Int64) (v8 : Int32) (M : Im) (JM : Jm), Bd M → (0 ≤ v8.toInt ∧ v8.toInt ≤ 1000) → gcf (1000 - v8.toInt).toNat v4 v6 = gcf 1000 v0 v2 → 2000 - v8.toInt < (n : Int) → P 9 112 [(4, .long v4), (6, .long v6), (8, .int v8)] [] M JM R) := by
    intro n
    induction n with
    | zero =>
      exact fun v4 v6 v8 M J _ hi _ hm => absurd hm (by omega)
    | succ n ih =>
      intro v4 v6 v8 M JM hB hi hg hm
      have i_v4 := i64 v4
      have i_v6 := i64 v6
      have i_v8 := i32 v8
      refine sg_X11_commonDivisor_9 hc _ _ _ _ _ _ ?_
      refine ⟨fun c1 => ?_, fun c1 => ?_⟩
      · skip
        have d2 : ((1000) : Int) ≤ (v8.toInt) := ci_le rfl rfl c1
        exact hQ _ _ _ _ hB (gcf_e1 hg (by omega))
      · skip
        have d3 : ((v8.toInt) : Int) < (1000) := ci_nle rfl rfl c1
        refine ⟨fun c4 => ?_, fun c4 => ?_⟩
        · skip
          rw [lg_cmp_eq] at c4
          have d5 : (((v6 : Int64).toInt) : Int) = (0) := cl_eq rfl rfl c4
          exact hQ _ _ _ _ hB (gcf_e2 hg (by omega))
        · skip
          rw [lg_cmp_eq] at c4
          have d6 : ¬ (((v6 : Int64).toInt) : Int) = (0) := cl_ne rfl rfl c4
          refine ⟨c4, ?_⟩
          have e7 : ((v8 + 1) : Int32).toInt = (v8.toInt) + (1) := ti_add rfl rfl (by omega)
          exact ih _ _ _ _ _ hB (by have q0 : ((v8 + 1) : Int32).toInt = (v8.toInt + 1) := e7; omega) (gcf_s hg (by omega) (by omega) e7) (by have q0 : ((v8 + 1) : Int32).toInt = (v8.toInt + 1) := e7; omega)
  refine sg_X11_commonDivisor_0 hc _ _ _ _ _ ?_
  exact (L 1000000) _ _ _ _ _ hB0 (by have q0 : (0 : Int32).toInt = 0 := rfl; omega) (gcf_z) (by have q0 : (0 : Int32).toInt = 0 := rfl; omega)

set_option maxHeartbeats 2000000 in
theorem gp_X11_greedyNumber {d : Nat} {Q : Qt} {v0 : Int32} {v1 : Int32} {v2 : Int32} {I : Im} {J : Jm} {R : Rm} (hB0 : Bd I) (hR0 : RI R) (hk : 0 ≤ v2.toInt) (hQ : ∀ (x : Int32) (y : Int64) (I2 : Im) (J2 : Jm), Bd I2 → (y = grN 30 v2.toInt.toNat (Int32.toInt64 v0) (Int32.toInt64 v1)) → Q x y I2 J2 R) : AM (d + 2) 171 112 [.int v0, .int v1, .int v2] I J R Q := by
  have i_v0 := i32 v0
  have i_v1 := i32 v1
  have i_v2 := i32 v2
  refine am_X11_greedyNumber (fun P hc => ?_)
  have L : ∀ n : Nat, (∀ (v3 : Int64) (v5 : Int64) (v7 : Int32) (M : Im) (JM : Jm), Bd M → (0 ≤ v7.toInt ∧ v7.toInt ≤ 30 ∧ v7.toInt ≤ v2.toInt) → grN (30 - v7.toInt).toNat (v2.toInt - v7.toInt).toNat v3 v5 = grN 30 v2.toInt.toNat (Int32.toInt64 v0) (Int32.toInt64 v1) → 40 - v7.toInt < (n : Int) → P 10 112 [(2, .int v2), (3, .long v3), (5, .long v5), (7, .int v7)] [] M JM R) := by
    intro n
    induction n with
    | zero =>
      exact fun v3 v5 v7 M J _ hi _ hm => absurd hm (by omega)
    | succ n ih =>
      intro v3 v5 v7 M JM hB hi hg hm
      have i_v2 := i32 v2
      have i_v3 := i64 v3
      have i_v5 := i64 v5
      have i_v7 := i32 v7
      refine sg_X11_greedyNumber_10 hc _ _ _ _ _ _ _ ?_
      refine ⟨fun c1 => ?_, fun c1 => ?_⟩
      · skip
        have d2 : ((30) : Int) ≤ (v7.toInt) := ci_le rfl rfl c1
        exact hQ _ _ _ _ hB (gr_e0 hg (by omega))
      · skip
        have d3 : ((v7.toInt) : Int) < (30) := ci_nle rfl rfl c1
        refine ⟨fun c4 => ?_, fun c4 => ?_⟩
        · skip
          rw [lg_cmp_le] at c4
          have d5 : (((v3 : Int64).toInt) : Int) ≤ (0) := cl_le rfl rfl c4
          exact hQ _ _ _ _ hB (gr_e1 hg (by omega) (by omega))
        · skip
          rw [lg_cmp_le] at c4
          have d6 : ((0) : Int) < ((v3 : Int64).toInt) := cl_nle rfl rfl c4
          refine ⟨(fun z => by have z2 : ((v3 : Int64).toInt : Int) = 0 := cl_eq rfl rfl z; omega), ?_⟩
          refine ⟨fun c7 => ?_, fun c7 => ?_⟩
          · skip
            have d8 : ¬ ((v7.toInt) : Int) = (v2.toInt) := ci_ne rfl rfl c7
            refine ⟨fun c9 => ?_, fun c9 => ?_⟩
            · skip
              rw [lg_cmp_eq] at c9
              have d10 : ¬ (((((v3 * (((v5 + v3) - 1) / v3)) - v5) : Int64).toInt) : Int) = (0) := cl_ne rfl rfl c9
              refine gp_X11_commonDivisor hB hR0 (fun x11 y16 I12 J13 hB14 p15 => ?_)
              refine ⟨fun c17 => ?_, fun c17 => ?_⟩
              · skip
                rw [lg_cmp_ge] at c17
                have d18 : ((1) : Int) ≤ ((y16 : Int64).toInt) := cl_le rfl rfl c17
                refine ⟨(fun z => by have z2 : ((y16 : Int64).toInt : Int) = 0 := cl_eq rfl rfl z; omega), ?_⟩
                refine ⟨(fun z => by have z2 : ((y16 : Int64).toInt : Int) = 0 := cl_eq rfl rfl z; omega), ?_⟩
                have e19 : ((v7 + 1) : Int32).toInt = (v7.toInt) + (1) := ti_add rfl rfl (by omega)
                exact ih _ _ _ _ _ hB14 (by have q0 : ((v7 + 1) : Int32).toInt = (v7.toInt + 1) := e19; omega) (gr_s hg (by omega) (by omega) (by omega) d10 p15 (by omega) e19) (by have q0 : ((v7 + 1) : Int32).toInt = (v7.toInt + 1) := e19; omega)
              · skip
                rw [lg_cmp_ge] at c17
                have d20 : (((y16 : Int64).toInt) : Int) < (1) := cl_nle rfl rfl c17
                exact hQ _ _ _ _ hB14 (gr_e4 hg (by omega) (by omega) (by omega) d10 p15 (by omega))
            · skip
              rw [lg_cmp_eq] at c9
              have d21 : (((((v3 * (((v5 + v3) - 1) / v3)) - v5) : Int64).toInt) : Int) = (0) := cl_eq rfl rfl c9
              exact hQ _ _ _ _ hB (gr_e3 hg (by omega) (by omega) (by omega) d21)
          · skip
            have d22 : ((v7.toInt) : Int) = (v2.toInt) := ci_eq rfl rfl c7
            exact hQ _ _ _ _ hB (gr_e2 hg (by omega) (by omega) (by omega))
  refine sg_X11_greedyNumber_0 hc _ _ _ _ _ _ ?_
  exact (L 1000000) _ _ _ _ _ hB0 (by have q0 : (0 : Int32).toInt = 0 := rfl; omega) (gr_z) (by have q0 : (0 : Int32).toInt = 0 := rfl; omega)

set_option maxHeartbeats 2000000 in
theorem gp_X11_greedyAt {d : Nat} {Q : Qt} {v1 : Int32} {v2 : Int32} {v3 : Int32} {I : Im} {J : Jm} {R : Rm} (hB0 : Bd I) (hR0 : RI R) (hQ : ∀ (x : Int32) (y : Int64) (I2 : Im) (J2 : Jm), Bd I2 → (x.toInt = (gaC v1 v2 v3).toInt) → Q x y I2 J2 R) : AM (d + 3) 133 112 [.ref 1, .int v1, .int v2, .int v3] I J R Q := by
  have i_v1 := i32 v1
  have i_v2 := i32 v2
  have i_v3 := i32 v3
  refine am_X11_greedyAt (fun P hc => ?_)
  refine sg_X11_greedyAt_0 hc _ _ _ _ _ _ ?_
  refine w_X11_isShare ?_
  refine ⟨fun c1 => ?_, fun c1 => ?_⟩
  · skip
    have d2 : ((v1.toInt) : Int) < (1) := ci_lt rfl rfl c1
    refine ⟨Or.inl rfl, ?_⟩
    intro o3
    refine ⟨fun c4 => ?_, fun c4 => ?_⟩
    · skip
      refine w_X11_refuse ?_
      have hB5 : Bd (uI I 1 0 5) := Bd.o0 hB0 (show isO 112 1 11 = true from rfl) (by omega) (show bnd 11 0 = none from rfl)
      exact hQ _ _ _ _ hB5 (by first | exact gaC_n (by omega) | exact gaC_k (by omega) | omega)
    · exact absurd c4 (by decide)
  · skip
    have d6 : ((1) : Int) ≤ (v1.toInt) := ci_nlt rfl rfl c1
    refine ⟨fun c7 => ?_, fun c7 => ?_⟩
    · skip
      have d8 : ((99) : Int) < (v1.toInt) := ci_lt rfl rfl c7
      refine ⟨Or.inl rfl, ?_⟩
      intro o9
      refine ⟨fun c10 => ?_, fun c10 => ?_⟩
      · skip
        refine w_X11_refuse ?_
        have hB11 : Bd (uI I 1 0 5) := Bd.o0 hB0 (show isO 112 1 11 = true from rfl) (by omega) (show bnd 11 0 = none from rfl)
        exact hQ _ _ _ _ hB11 (by first | exact gaC_n (by omega) | exact gaC_k (by omega) | omega)
      · exact absurd c10 (by decide)
    · skip
      have d12 : ((v1.toInt) : Int) ≤ (99) := ci_nlt rfl rfl c7
      refine ⟨fun c13 => ?_, fun c13 => ?_⟩
      · skip
        have d14 : ((v2.toInt) : Int) < (1) := ci_lt rfl rfl c13
        refine ⟨Or.inl rfl, ?_⟩
        intro o15
        refine ⟨fun c16 => ?_, fun c16 => ?_⟩
        · skip
          refine w_X11_refuse ?_
          have hB17 : Bd (uI I 1 0 5) := Bd.o0 hB0 (show isO 112 1 11 = true from rfl) (by omega) (show bnd 11 0 = none from rfl)
          exact hQ _ _ _ _ hB17 (by first | exact gaC_n (by omega) | exact gaC_k (by omega) | omega)
        · exact absurd c16 (by decide)
      · skip
        have d18 : ((1) : Int) ≤ (v2.toInt) := ci_nlt rfl rfl c13
        refine ⟨fun c19 => ?_, fun c19 => ?_⟩
        · skip
          have d20 : ((30) : Int) < (v2.toInt) := ci_lt rfl rfl c19
          refine ⟨Or.inl rfl, ?_⟩
          intro o21
          refine ⟨fun c22 => ?_, fun c22 => ?_⟩
          · skip
            refine w_X11_refuse ?_
            have hB23 : Bd (uI I 1 0 5) := Bd.o0 hB0 (show isO 112 1 11 = true from rfl) (by omega) (show bnd 11 0 = none from rfl)
            exact hQ _ _ _ _ hB23 (by first | exact gaC_n (by omega) | exact gaC_k (by omega) | omega)
          · exact absurd c22 (by decide)
        · skip
          have d24 : ((v2.toInt) : Int) ≤ (30) := ci_nlt rfl rfl c19
          refine ⟨Or.inr rfl, ?_⟩
          intro o25
          refine ⟨fun c26 => ?_, fun c26 => ?_⟩
          · exact absurd c26 (by decide)
          · skip
            refine ⟨fun c27 => ?_, fun c27 => ?_⟩
            · skip
              have d28 : ((v1.toInt) : Int) < (v2.toInt) := ci_lt rfl rfl c27
              refine ⟨fun c29 => ?_, fun c29 => ?_⟩
              · skip
                have d30 : ((0) : Int) ≤ (v3.toInt) := ci_le rfl rfl c29
                refine gp_X11_greedyNumber hB0 hR0 (by omega) (fun x31 y36 I32 J33 hB34 p35 => ?_)
                refine ⟨fun c37 => ?_, fun c37 => ?_⟩
                · skip
                  rw [lg_cmp_eq] at c37
                  have d38 : ¬ (((y36 : Int64).toInt) : Int) = (0) := cl_ne rfl rfl c37
                  refine ⟨fun c39 => ?_, fun c39 => ?_⟩
                  · skip
                    rw [lg_cmp_le] at c39
                    have d40 : (((y36 : Int64).toInt) : Int) ≤ (100000000) := cl_le rfl rfl c39
                    refine w_X11_answer ?_
                    have hB41 : Bd (uI I32 1 0 0) := Bd.o0 hB34 (show isO 112 1 11 = true from rfl) (by omega) (show bnd 11 0 = none from rfl)
                    exact hQ _ _ _ _ hB41 (by first | exact gaC_y ⟨by omega, by omega, by omega⟩ (by omega) p35 (by omega) (by omega) | exact gaC_z ⟨by omega, by omega, by omega⟩ (by omega) p35 (by omega) | exact gaC_b ⟨by omega, by omega, by omega⟩ (by omega) p35 (by omega))
                  · skip
                    rw [lg_cmp_le] at c39
                    have d42 : ((100000000) : Int) < ((y36 : Int64).toInt) := cl_nle rfl rfl c39
                    refine w_X11_refuse ?_
                    have hB43 : Bd (uI I32 1 0 9) := Bd.o0 hB34 (show isO 112 1 11 = true from rfl) (by omega) (show bnd 11 0 = none from rfl)
                    exact hQ _ _ _ _ hB43 (by first | exact gaC_y ⟨by omega, by omega, by omega⟩ (by omega) p35 (by omega) (by omega) | exact gaC_z ⟨by omega, by omega, by omega⟩ (by omega) p35 (by omega) | exact gaC_b ⟨by omega, by omega, by omega⟩ (by omega) p35 (by omega))
                · skip
                  rw [lg_cmp_eq] at c37
                  have d44 : (((y36 : Int64).toInt) : Int) = (0) := cl_eq rfl rfl c37
                  refine w_X11_refuse ?_
                  have hB45 : Bd (uI I32 1 0 8) := Bd.o0 hB34 (show isO 112 1 11 = true from rfl) (by omega) (show bnd 11 0 = none from rfl)
                  exact hQ _ _ _ _ hB45 (by first | exact gaC_y ⟨by omega, by omega, by omega⟩ (by omega) p35 (by omega) (by omega) | exact gaC_z ⟨by omega, by omega, by omega⟩ (by omega) p35 (by omega) | exact gaC_b ⟨by omega, by omega, by omega⟩ (by omega) p35 (by omega))
              · skip
                have d46 : ((v3.toInt) : Int) < (0) := ci_nle rfl rfl c29
                refine ⟨fun c47 => ?_, fun c47 => ?_⟩
                · skip
                  rw [lg_cmp_eq] at c47
                  have d48 : ¬ ((0) : Int) = (0) := cl_ne rfl rfl c47
                  refine ⟨fun c49 => ?_, fun c49 => ?_⟩
                  · skip
                    rw [lg_cmp_le] at c49
                    have d50 : ((0) : Int) ≤ (100000000) := cl_le rfl rfl c49
                    refine w_X11_answer ?_
                    have hB51 : Bd (uI I 1 0 0) := Bd.o0 hB0 (show isO 112 1 11 = true from rfl) (by omega) (show bnd 11 0 = none from rfl)
                    exact hQ _ _ _ _ hB51 (by first | exact gaC_n (by omega) | exact gaC_k (by omega) | omega)
                  · skip
                    rw [lg_cmp_le] at c49
                    have d52 : ((100000000) : Int) < (0) := cl_nle rfl rfl c49
                    refine w_X11_refuse ?_
                    have hB53 : Bd (uI I 1 0 9) := Bd.o0 hB0 (show isO 112 1 11 = true from rfl) (by omega) (show bnd 11 0 = none from rfl)
                    exact hQ _ _ _ _ hB53 (by first | exact gaC_n (by omega) | exact gaC_k (by omega) | omega)
                · skip
                  rw [lg_cmp_eq] at c47
                  have d54 : ((0) : Int) = (0) := cl_eq rfl rfl c47
                  refine w_X11_refuse ?_
                  have hB55 : Bd (uI I 1 0 8) := Bd.o0 hB0 (show isO 112 1 11 = true from rfl) (by omega) (show bnd 11 0 = none from rfl)
                  exact hQ _ _ _ _ hB55 (by first | exact gaC_n (by omega) | exact gaC_k (by omega) | omega)
            · skip
              have d56 : ((v2.toInt) : Int) ≤ (v1.toInt) := ci_nlt rfl rfl c27
              refine w_X11_refuse ?_
              have hB57 : Bd (uI I 1 0 5) := Bd.o0 hB0 (show isO 112 1 11 = true from rfl) (by omega) (show bnd 11 0 = none from rfl)
              exact hQ _ _ _ _ hB57 (by first | exact gaC_n (by omega) | exact gaC_k (by omega) | omega)

set_option maxHeartbeats 2000000 in
theorem gp_X12_greedyAt {d : Nat} {Q : Qt} {v1 : Int32} {v2 : Int32} {v3 : Int32} {I : Im} {J : Jm} {R : Rm} (hB0 : Bd I) (hR0 : RI R) (hQ : ∀ (x : Int32) (y : Int64) (I2 : Im) (J2 : Jm), Bd I2 → (x.toInt = (gaR v1 v2 v3).toInt) → Q x y I2 J2 R) : AM (d + 3) 282 112 [.ref 97, .int v1, .int v2, .int v3] I J R Q := by
  have i_v1 := i32 v1
  have i_v2 := i32 v2
  have i_v3 := i32 v3
  refine am_X12_greedyAt (fun P hc => ?_)
  have L : ∀ n : Nat, (∀ (v4 : Int64) (v6 : Int64) (v8 : Int32) (M : Im) (JM : Jm), Bd M → (0 ≤ v4.toInt ∧ v4.toInt ≤ 29 ∧ 1 ≤ v6.toInt ∧ v6.toInt ≤ 300000000000000000 ∧ 0 ≤ v8.toInt ∧ v8.toInt + v4.toInt ≤ 29) → rgN v3 v8 v4 v6 = gaR v1 v2 v3 → v4.toInt < (n : Int) → P 40 112 [(0, .ref 97), (3, .int v3), (4, .long v4), (6, .long v6), (8, .int v8)] [] M JM R) := by
    intro n
    induction n with
    | zero =>
      exact fun v4 v6 v8 M J _ hi _ hm => absurd hm (by omega)
    | succ n ih =>
      intro v4 v6 v8 M JM hB hi hgg hm
      have i_v3 := i32 v3
      have i_v4 := i64 v4
      have i_v6 := i64 v6
      have i_v8 := i32 v8
      refine sg_X12_greedyAt_40 hc _ _ _ _ _ _ _ ?_
      refine ⟨fun c1 => ?_, fun c1 => ?_⟩
      · skip
        have d2 : ((v3.toInt) : Int) < (v8.toInt) := ci_lt rfl rfl c1
        refine w_X12_refuse ?_
        have hB3 : Bd (uI M 97 0 8) := Bd.o0 hB (show isO 112 97 12 = true from rfl) (by omega) (show bnd 12 0 = none from rfl)
        exact hQ _ _ _ _ hB3 (rg_e0 hgg (by omega))
      · skip
        have d4 : ((v8.toInt) : Int) ≤ (v3.toInt) := ci_nlt rfl rfl c1
        refine ⟨fun c5 => ?_, fun c5 => ?_⟩
        · skip
          rw [lg_cmp_le] at c5
          have d6 : (((v4 : Int64).toInt) : Int) ≤ (0) := cl_le rfl rfl c5
          refine w_X12_refuse ?_
          have hB7 : Bd (uI M 97 0 8) := Bd.o0 hB (show isO 112 97 12 = true from rfl) (by omega) (show bnd 12 0 = none from rfl)
          exact hQ _ _ _ _ hB7 (rg_e1 hgg (by omega) (by omega))
        · skip
          rw [lg_cmp_le] at c5
          have d8 : ((0) : Int) < ((v4 : Int64).toInt) := cl_nle rfl rfl c5
          refine ⟨(fun z => by have z2 : ((v4 : Int64).toInt : Int) = 0 := cl_eq rfl rfl z; omega), ?_⟩
          refine ⟨fun c9 => ?_, fun c9 => ?_⟩
          · skip
            rw [lg_cmp_le] at c9
            have d10 : ((((((v6 + v4) - 1) / v4) : Int64).toInt) : Int) ≤ (100000000) := cl_le rfl rfl c9
            have hg := greedy1 (l := v4) (y := v6) (d := (((v6 + v4) - 1) / v4)) rfl rfl (by omega) (by omega) rfl (by omega)
            refine ⟨fun c11 => ?_, fun c11 => ?_⟩
            · skip
              have d12 : ¬ ((v8.toInt) : Int) = (v3.toInt) := ci_ne rfl rfl c11
              have e13 : ((v8 + 1) : Int32).toInt = (v8.toInt) + (1) := ti_add rfl rfl (by omega)
              exact ih _ _ _ _ _ hB (by have q0 : (((v4 * (((v6 + v4) - 1) / v4)) - v6) : Int64).toInt = (((v4 * (((v6 + v4) - 1) / v4)) - v6) : Int64).toInt := rfl; have q1 : ((v6 * (((v6 + v4) - 1) / v4)) : Int64).toInt = ((v6 * (((v6 + v4) - 1) / v4)) : Int64).toInt := rfl; have q2 : ((v8 + 1) : Int32).toInt = (v8.toInt + 1) := e13; omega) (rg_s hgg (by omega) (by omega) d10 e13) (by have q0 : (((v4 * (((v6 + v4) - 1) / v4)) - v6) : Int64).toInt = (((v4 * (((v6 + v4) - 1) / v4)) - v6) : Int64).toInt := rfl; omega)
            · skip
              have d14 : ((v8.toInt) : Int) = (v3.toInt) := ci_eq rfl rfl c11
              exact hQ _ _ _ _ hB (rg_e3 hgg (by omega) (by omega) d10)
          · skip
            rw [lg_cmp_le] at c9
            have d15 : ((100000000) : Int) < (((((v6 + v4) - 1) / v4) : Int64).toInt) := cl_nle rfl rfl c9
            refine w_X12_refuse ?_
            have hB16 : Bd (uI M 97 0 9) := Bd.o0 hB (show isO 112 97 12 = true from rfl) (by omega) (show bnd 12 0 = none from rfl)
            exact hQ _ _ _ _ hB16 (rg_e2 hgg (by omega) (by omega) d15)
  refine sg_X12_greedyAt_0 hc _ _ _ _ _ _ ?_
  have hB17 : Bd (uI I 97 1 0) := Bd.o0 hB0 (show isO 112 97 12 = true from rfl) (by omega) (show bnd 12 1 = none from rfl)
  have hB18 : Bd (uI (uI I 97 1 0) 97 0 0) := Bd.o0 hB17 (show isO 112 97 12 = true from rfl) (by omega) (show bnd 12 0 = none from rfl)
  refine w_X12_isShare ?_
  refine w_X12_isIn ?_
  refine ⟨fun c19 => ?_, fun c19 => ?_⟩
  · skip
    rw [lg_cmp_lt] at c19
    have d20 : ((v1.toInt) : Int) < (1) := cl_lt (tl_i2l rfl) rfl c19
    refine ⟨Or.inl rfl, ?_⟩
    intro o21
    refine ⟨fun c22 => ?_, fun c22 => ?_⟩
    · skip
      refine ⟨Or.inl rfl, ?_⟩
      intro o23
      refine ⟨fun c24 => ?_, fun c24 => ?_⟩
      · skip
        refine w_X12_refuse ?_
        have hB25 : Bd (uI (uI (uI I 97 1 0) 97 0 0) 97 0 5) := Bd.o0 hB18 (show isO 112 97 12 = true from rfl) (by omega) (show bnd 12 0 = none from rfl)
        exact hQ _ _ _ _ hB25 (gaR_n (by omega))
      · exact absurd c24 (by decide)
    · exact absurd c22 (by decide)
  · skip
    rw [lg_cmp_lt] at c19
    have d26 : ((1) : Int) ≤ (v1.toInt) := cl_nlt (tl_i2l rfl) rfl c19
    refine ⟨fun c27 => ?_, fun c27 => ?_⟩
    · skip
      rw [lg_cmp_gt] at c27
      have d28 : ((99) : Int) < (v1.toInt) := cl_lt rfl (tl_i2l rfl) c27
      refine ⟨Or.inl rfl, ?_⟩
      intro o29
      refine ⟨fun c30 => ?_, fun c30 => ?_⟩
      · skip
        refine ⟨Or.inl rfl, ?_⟩
        intro o31
        refine ⟨fun c32 => ?_, fun c32 => ?_⟩
        · skip
          refine w_X12_refuse ?_
          have hB33 : Bd (uI (uI (uI I 97 1 0) 97 0 0) 97 0 5) := Bd.o0 hB18 (show isO 112 97 12 = true from rfl) (by omega) (show bnd 12 0 = none from rfl)
          exact hQ _ _ _ _ hB33 (gaR_n (by omega))
        · exact absurd c32 (by decide)
      · exact absurd c30 (by decide)
    · skip
      rw [lg_cmp_gt] at c27
      have d34 : ((v1.toInt) : Int) ≤ (99) := cl_nlt rfl (tl_i2l rfl) c27
      refine ⟨Or.inr rfl, ?_⟩
      intro o35
      refine ⟨fun c36 => ?_, fun c36 => ?_⟩
      · exact absurd c36 (by decide)
      · skip
        refine w_X12_isIn ?_
        refine ⟨fun c37 => ?_, fun c37 => ?_⟩
        · skip
          rw [lg_cmp_lt] at c37
          have d38 : ((v2.toInt) : Int) < (1) := cl_lt (tl_i2l rfl) rfl c37
          refine ⟨Or.inl rfl, ?_⟩
          intro o39
          refine ⟨fun c40 => ?_, fun c40 => ?_⟩
          · skip
            refine ⟨Or.inl rfl, ?_⟩
            intro o41
            refine ⟨fun c42 => ?_, fun c42 => ?_⟩
            · skip
              refine w_X12_refuse ?_
              have hB43 : Bd (uI (uI (uI I 97 1 0) 97 0 0) 97 0 5) := Bd.o0 hB18 (show isO 112 97 12 = true from rfl) (by omega) (show bnd 12 0 = none from rfl)
              exact hQ _ _ _ _ hB43 (gaR_n (by omega))
            · exact absurd c42 (by decide)
          · exact absurd c40 (by decide)
        · skip
          rw [lg_cmp_lt] at c37
          have d44 : ((1) : Int) ≤ (v2.toInt) := cl_nlt (tl_i2l rfl) rfl c37
          refine ⟨fun c45 => ?_, fun c45 => ?_⟩
          · skip
            rw [lg_cmp_gt] at c45
            have d46 : ((30) : Int) < (v2.toInt) := cl_lt rfl (tl_i2l rfl) c45
            refine ⟨Or.inl rfl, ?_⟩
            intro o47
            refine ⟨fun c48 => ?_, fun c48 => ?_⟩
            · skip
              refine ⟨Or.inl rfl, ?_⟩
              intro o49
              refine ⟨fun c50 => ?_, fun c50 => ?_⟩
              · skip
                refine w_X12_refuse ?_
                have hB51 : Bd (uI (uI (uI I 97 1 0) 97 0 0) 97 0 5) := Bd.o0 hB18 (show isO 112 97 12 = true from rfl) (by omega) (show bnd 12 0 = none from rfl)
                exact hQ _ _ _ _ hB51 (gaR_n (by omega))
              · exact absurd c50 (by decide)
            · exact absurd c48 (by decide)
          · skip
            rw [lg_cmp_gt] at c45
            have d52 : ((v2.toInt) : Int) ≤ (30) := cl_nlt rfl (tl_i2l rfl) c45
            refine ⟨Or.inr rfl, ?_⟩
            intro o53
            refine ⟨fun c54 => ?_, fun c54 => ?_⟩
            · exact absurd c54 (by decide)
            · skip
              refine ⟨Or.inr rfl, ?_⟩
              intro o55
              refine ⟨fun c56 => ?_, fun c56 => ?_⟩
              · exact absurd c56 (by decide)
              · skip
                refine ⟨fun c57 => ?_, fun c57 => ?_⟩
                · skip
                  have d58 : ((v1.toInt) : Int) < (v2.toInt) := ci_lt rfl rfl c57
                  exact (L 1000000) _ _ _ _ _ hB18 (by have q0 : ((Int32.toInt64 v1) : Int64).toInt = v1.toInt := (tl_i2l rfl); have q1 : ((Int32.toInt64 v2) : Int64).toInt = v2.toInt := (tl_i2l rfl); have q2 : (0 : Int32).toInt = 0 := rfl; omega) (rg_z ⟨by omega, by omega, by omega⟩) (by have q0 : ((Int32.toInt64 v1) : Int64).toInt = v1.toInt := (tl_i2l rfl); omega)
                · skip
                  have d59 : ((v2.toInt) : Int) ≤ (v1.toInt) := ci_nlt rfl rfl c57
                  refine w_X12_refuse ?_
                  have hB60 : Bd (uI (uI (uI I 97 1 0) 97 0 0) 97 0 5) := Bd.o0 hB18 (show isO 112 97 12 = true from rfl) (by omega) (show bnd 12 0 = none from rfl)
                  exact hQ _ _ _ _ hB60 (gaR_n (by omega))

