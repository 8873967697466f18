set_option maxHeartbeats 2000000 in
theorem sp_X0_splitUp {d : Nat} {Q : Qt} {v0 : Nat} {v1 : Int32} {v2 : Int32} {I : Im} {J : Jm} {R : Rm} (hB0 : Bd I) (hR0 : RI R) (ho0 : isO 112 v0 0 = true) (hQ : ∀ (x : Int32) (y : Int64) (I2 : Im) (J2 : Jm), Bd I2 → (True) → Q x y I2 J2 R) : AM (d + 2) 17 112 [.ref v0, .int v1, .int v2] I J R Q := by
  have i_v1 := i32 v1
  have i_v2 := i32 v2
  refine am_X0_splitUp (fun P hc => ?_)
  have L : ∀ n : Nat, (∀ (v3 : Int32) (M : Im) (JM : Jm), Bd M → (1 ≤ v1.toInt ∧ v1.toInt ≤ 30) → 0 < (n : Int) → P 49 112 [(0, .ref v0), (1, .int v1), (2, .int v2), (3, .int v3)] [] M JM R) := by
    intro n
    induction n with
    | zero =>
      exact fun v3 M J _ hi hm => absurd hm (by omega)
    | succ n ih =>
      intro v3 M JM hB hi hm
      have i_v1 := i32 v1
      have i_v2 := i32 v2
      have i_v3 := i32 v3
      refine sg_X0_splitUp_49 hc _ _ _ _ _ _ _ ?_
      refine bif_t ho0 ?_
      refine bif_t (fa_0_0 ho0).1 ?_
      refine ⟨by rw [(fa_0_0 ho0).2.1]; exact vp_of (a := v1.toInt) rfl (by omega) (by omega), ?_⟩
      refine ⟨fun c1 => ?_, fun c1 => ?_⟩
      · skip
        have d2 : (((M (v0 + 1) (Int32.toNatClampNeg v1)).toInt) : Int) < (1) := ci_lt rfl rfl c1
        exact hQ _ _ _ _ hB trivial
      · skip
        have d3 : ((1) : Int) ≤ ((M (v0 + 1) (Int32.toNatClampNeg v1)).toInt) := ci_nlt rfl rfl c1
        refine w_X11_isSlice ?_
        refine ⟨fun c4 => ?_, fun c4 => ?_⟩
        · skip
          have d5 : ((v3.toInt) : Int) < (1) := ci_lt rfl rfl c4
          refine ⟨Or.inl rfl, ?_⟩
          intro o6
          refine ⟨fun c7 => ?_, fun c7 => ?_⟩
          · exact absurd c7 (by decide)
          · skip
            exact hQ _ _ _ _ hB trivial
        · skip
          have d8 : ((1) : Int) ≤ (v3.toInt) := ci_nlt rfl rfl c4
          refine ⟨fun c9 => ?_, fun c9 => ?_⟩
          · skip
            have d10 : ((30) : Int) < (v3.toInt) := ci_lt rfl rfl c9
            refine ⟨Or.inl rfl, ?_⟩
            intro o11
            refine ⟨fun c12 => ?_, fun c12 => ?_⟩
            · exact absurd c12 (by decide)
            · skip
              exact hQ _ _ _ _ hB trivial
          · skip
            have d13 : ((v3.toInt) : Int) ≤ (30) := ci_nlt rfl rfl c9
            refine ⟨Or.inr rfl, ?_⟩
            intro o14
            refine ⟨fun c15 => ?_, fun c15 => ?_⟩
            · skip
              refine bif_t ho0 ?_
              refine bif_t (fa_0_0 ho0).1 ?_
              refine ⟨by rw [(fa_0_0 ho0).2.1]; exact vp_of (a := v1.toInt) rfl (by omega) (by omega), ?_⟩
              refine bif_t (fa_0_0 ho0).1 ?_
              refine ⟨by rw [(fa_0_0 ho0).2.1]; exact vp_of (a := v1.toInt) rfl (by omega) (by omega), ?_⟩
              have hB16 : Bd (uI M (v0 + 1) (Int32.toNatClampNeg v1) ((M (v0 + 1) (Int32.toNatClampNeg v1)) - 1)) := Bd.a0 hB (fa_0_0 ho0).1 (fa_0_0 ho0).2.2
              refine bif_t ho0 ?_
              refine bif_t (fa_0_0 ho0).1 ?_
              refine ⟨by rw [(fa_0_0 ho0).2.1]; exact vp_of (a := v3.toInt) rfl (by omega) (by omega), ?_⟩
              refine bif_t (fa_0_0 ho0).1 ?_
              refine ⟨by rw [(fa_0_0 ho0).2.1]; exact vp_of (a := v3.toInt) rfl (by omega) (by omega), ?_⟩
              have hB17 : Bd (uI (uI M (v0 + 1) (Int32.toNatClampNeg v1) ((M (v0 + 1) (Int32.toNatClampNeg v1)) - 1)) (v0 + 1) (Int32.toNatClampNeg v3) (((uI M (v0 + 1) (Int32.toNatClampNeg v1) ((M (v0 + 1) (Int32.toNatClampNeg v1)) - 1)) (v0 + 1) (Int32.toNatClampNeg v3)) + v2)) := Bd.a0 hB16 (fa_0_0 ho0).1 (fa_0_0 ho0).2.2
              refine bif_t ho0 ?_
              refine bif_t ho0 ?_
              have hB18 : Bd (uI (uI (uI M (v0 + 1) (Int32.toNatClampNeg v1) ((M (v0 + 1) (Int32.toNatClampNeg v1)) - 1)) (v0 + 1) (Int32.toNatClampNeg v3) (((uI M (v0 + 1) (Int32.toNatClampNeg v1) ((M (v0 + 1) (Int32.toNatClampNeg v1)) - 1)) (v0 + 1) (Int32.toNatClampNeg v3)) + v2)) v0 3 (((uI (uI M (v0 + 1) (Int32.toNatClampNeg v1) ((M (v0 + 1) (Int32.toNatClampNeg v1)) - 1)) (v0 + 1) (Int32.toNatClampNeg v3) (((uI M (v0 + 1) (Int32.toNatClampNeg v1) ((M (v0 + 1) (Int32.toNatClampNeg v1)) - 1)) (v0 + 1) (Int32.toNatClampNeg v3)) + v2)) v0 3) + 1)) := Bd.o0 hB17 ho0 (by omega) bd9_0_3
              exact hQ _ _ _ _ hB18 trivial
            · exact absurd c15 (by decide)
  refine sg_X0_splitUp_0 hc _ _ _ _ _ _ ?_
  refine w_X11_isSlice ?_
  refine ⟨fun c19 => ?_, fun c19 => ?_⟩
  · skip
    have d20 : ((v1.toInt) : Int) < (1) := ci_lt rfl rfl c19
    refine ⟨Or.inl rfl, ?_⟩
    intro o21
    refine ⟨fun c22 => ?_, fun c22 => ?_⟩
    · exact absurd c22 (by decide)
    · skip
      exact hQ _ _ _ _ hB0 trivial
  · skip
    have d23 : ((1) : Int) ≤ (v1.toInt) := ci_nlt rfl rfl c19
    refine ⟨fun c24 => ?_, fun c24 => ?_⟩
    · skip
      have d25 : ((30) : Int) < (v1.toInt) := ci_lt rfl rfl c24
      refine ⟨Or.inl rfl, ?_⟩
      intro o26
      refine ⟨fun c27 => ?_, fun c27 => ?_⟩
      · exact absurd c27 (by decide)
      · skip
        exact hQ _ _ _ _ hB0 trivial
    · skip
      have d28 : ((v1.toInt) : Int) ≤ (30) := ci_nlt rfl rfl c24
      refine ⟨Or.inr rfl, ?_⟩
      intro o29
      refine ⟨fun c30 => ?_, fun c30 => ?_⟩
      · skip
        refine ⟨fun c31 => ?_, fun c31 => ?_⟩
        · skip
          have d32 : ((v2.toInt) : Int) < (2) := ci_lt rfl rfl c31
          exact hQ _ _ _ _ hB0 trivial
        · skip
          have d33 : ((2) : Int) ≤ (v2.toInt) := ci_nlt rfl rfl c31
          refine ⟨fun c34 => ?_, fun c34 => ?_⟩
          · skip
            have d35 : ((v2.toInt) : Int) ≤ (30) := ci_le rfl rfl c34
            refine w_X11_isSlice ?_
            refine ⟨fun c36 => ?_, fun c36 => ?_⟩
            · skip
              have d37 : ((((v1 * v2) : Int32).toInt) : Int) < (1) := ci_lt rfl rfl c36
              refine ⟨Or.inl rfl, ?_⟩
              intro o38
              refine ⟨fun c39 => ?_, fun c39 => ?_⟩
              · skip
                exact (L 1000000) _ _ _ hB0 (by omega) (by omega)
              · exact absurd c39 (by decide)
            · skip
              have d40 : ((1) : Int) ≤ (((v1 * v2) : Int32).toInt) := ci_nlt rfl rfl c36
              refine ⟨fun c41 => ?_, fun c41 => ?_⟩
              · skip
                have d42 : ((30) : Int) < (((v1 * v2) : Int32).toInt) := ci_lt rfl rfl c41
                refine ⟨Or.inl rfl, ?_⟩
                intro o43
                refine ⟨fun c44 => ?_, fun c44 => ?_⟩
                · skip
                  exact (L 1000000) _ _ _ hB0 (by omega) (by omega)
                · exact absurd c44 (by decide)
              · skip
                have d45 : ((((v1 * v2) : Int32).toInt) : Int) ≤ (30) := ci_nlt rfl rfl c41
                refine ⟨Or.inr rfl, ?_⟩
                intro o46
                refine ⟨fun c47 => ?_, fun c47 => ?_⟩
                · exact absurd c47 (by decide)
                · skip
                  refine bif_t ho0 ?_
                  refine bif_t (fa_0_0 ho0).1 ?_
                  refine ⟨by rw [(fa_0_0 ho0).2.1]; exact vp_of (a := ((v1 * v2) : Int32).toInt) rfl (by omega) (by omega), ?_⟩
                  refine ⟨fun c48 => ?_, fun c48 => ?_⟩
                  · skip
                    have d49 : (((((I (v0 + 1) (Int32.toNatClampNeg (v1 * v2))) + v2) : Int32).toInt) : Int) ≤ (99) := ci_le rfl rfl c48
                    exact (L 1000000) _ _ _ hB0 (by omega) (by omega)
                  · skip
                    have d50 : ((99) : Int) < ((((I (v0 + 1) (Int32.toNatClampNeg (v1 * v2))) + v2) : Int32).toInt) := ci_nle rfl rfl c48
                    exact hQ _ _ _ _ hB0 trivial
          · skip
            have d51 : ((30) : Int) < (v2.toInt) := ci_nle rfl rfl c34
            exact hQ _ _ _ _ hB0 trivial
      · exact absurd c30 (by decide)
set_option maxHeartbeats 2000000 in
theorem sp_X0_handOver {d : Nat} {Q : Qt} {v0 : Nat} {v1 : Int32} {v2 : Int32} {I : Im} {J : Jm} {R : Rm} (hB0 : Bd I) (hR0 : RI R) (ho0 : isO 112 v0 0 = true) (hQ : ∀ (x : Int32) (y : Int64) (I2 : Im) (J2 : Jm), Bd I2 → ((x.toInt = 0 → (0 ≤ v1.toInt ∧ v1.toInt ≤ 5))) → Q x y I2 J2 R) : AM (d + 2) 18 112 [.ref v0, .int v1, .int v2] I J R Q := by
  have i_v1 := i32 v1
  have i_v2 := i32 v2
  refine w_X0_handOver ?_
  refine bif_t ho0 ?_
  refine w_X0_isMan ?_
  refine ⟨fun c1 => ?_, fun c1 => ?_⟩
  · skip
    have d2 : ((v1.toInt) : Int) < (0) := ci_lt rfl rfl c1
    refine ⟨Or.inl rfl, ?_⟩
    intro o3
    refine ⟨fun c4 => ?_, fun c4 => ?_⟩
    · skip
      exact hQ _ _ _ _ hB0 (by have q0 : (2 : Int32).toInt = 2 := rfl; omega)
    · exact absurd c4 (by decide)
  · skip
    have d5 : ((0) : Int) ≤ (v1.toInt) := ci_nlt rfl rfl c1
    refine bif_t ho0 ?_
    refine ⟨fun c6 => ?_, fun c6 => ?_⟩
    · skip
      have b7 := Bd.o hB0 ho0 bd9_0_4
      have d8 : (((I v0 4).toInt) : Int) ≤ (v1.toInt) := ci_le rfl rfl c6
      refine ⟨Or.inl rfl, ?_⟩
      intro o9
      refine ⟨fun c10 => ?_, fun c10 => ?_⟩
      · skip
        exact hQ _ _ _ _ hB0 (by have q0 : (2 : Int32).toInt = 2 := rfl; omega)
      · exact absurd c10 (by decide)
    · skip
      have b11 := Bd.o hB0 ho0 bd9_0_4
      have d12 : ((v1.toInt) : Int) < ((I v0 4).toInt) := ci_nle rfl rfl c6
      refine ⟨Or.inr rfl, ?_⟩
      intro o13
      refine ⟨fun c14 => ?_, fun c14 => ?_⟩
      · exact absurd c14 (by decide)
      · skip
        refine w_X11_isSlice ?_
        refine ⟨fun c15 => ?_, fun c15 => ?_⟩
        · skip
          have d16 : ((v2.toInt) : Int) < (1) := ci_lt rfl rfl c15
          refine ⟨Or.inl rfl, ?_⟩
          intro o17
          refine ⟨fun c18 => ?_, fun c18 => ?_⟩
          · exact absurd c18 (by decide)
          · skip
            exact hQ _ _ _ _ hB0 (by have q0 : (2 : Int32).toInt = 2 := rfl; omega)
        · skip
          have d19 : ((1) : Int) ≤ (v2.toInt) := ci_nlt rfl rfl c15
          refine ⟨fun c20 => ?_, fun c20 => ?_⟩
          · skip
            have d21 : ((30) : Int) < (v2.toInt) := ci_lt rfl rfl c20
            refine ⟨Or.inl rfl, ?_⟩
            intro o22
            refine ⟨fun c23 => ?_, fun c23 => ?_⟩
            · exact absurd c23 (by decide)
            · skip
              exact hQ _ _ _ _ hB0 (by have q0 : (2 : Int32).toInt = 2 := rfl; omega)
          · skip
            have d24 : ((v2.toInt) : Int) ≤ (30) := ci_nlt rfl rfl c20
            refine ⟨Or.inr rfl, ?_⟩
            intro o25
            refine ⟨fun c26 => ?_, fun c26 => ?_⟩
            · skip
              refine bif_t ho0 ?_
              refine bif_t (fa_0_0 ho0).1 ?_
              refine ⟨by rw [(fa_0_0 ho0).2.1]; exact vp_of (a := v2.toInt) rfl (by omega) (by omega), ?_⟩
              refine ⟨fun c27 => ?_, fun c27 => ?_⟩
              · skip
                have d28 : (((I (v0 + 1) (Int32.toNatClampNeg v2)).toInt) : Int) < (1) := ci_lt rfl rfl c27
                exact hQ _ _ _ _ hB0 (by have q0 : (9 : Int32).toInt = 9 := rfl; omega)
              · skip
                have d29 : ((1) : Int) ≤ ((I (v0 + 1) (Int32.toNatClampNeg v2)).toInt) := ci_nlt rfl rfl c27
                refine bif_t ho0 ?_
                refine bif_t (fa_0_8 ho0).1 ?_
                refine ⟨by rw [(fa_0_8 ho0).2.1]; exact vp_of (a := v1.toInt) rfl (by omega) (by omega), ?_⟩
                refine w_X11_isIn ?_
                refine ⟨fun c30 => ?_, fun c30 => ?_⟩
                · skip
                  have d31 : (((((I (v0 + 5) (Int32.toNatClampNeg v1)) &&& (1 <<< ((v2 - 1) &&& 31))) : Int32).toInt) : Int) = (0) := ci_eq rfl rfl c30
                  refine ⟨Or.inl rfl, ?_⟩
                  intro o32
                  refine ⟨fun c33 => ?_, fun c33 => ?_⟩
                  · skip
                    refine bif_t ho0 ?_
                    refine bif_t (fa_0_0 ho0).1 ?_
                    refine ⟨by rw [(fa_0_0 ho0).2.1]; exact vp_of (a := v2.toInt) rfl (by omega) (by omega), ?_⟩
                    refine bif_t (fa_0_0 ho0).1 ?_
                    refine ⟨by rw [(fa_0_0 ho0).2.1]; exact vp_of (a := v2.toInt) rfl (by omega) (by omega), ?_⟩
                    have hB34 : Bd (uI I (v0 + 1) (Int32.toNatClampNeg v2) ((I (v0 + 1) (Int32.toNatClampNeg v2)) - 1)) := Bd.a0 hB0 (fa_0_0 ho0).1 (fa_0_0 ho0).2.2
                    refine bif_t ho0 ?_
                    refine bif_t (fa_0_8 ho0).1 ?_
                    refine ⟨by rw [(fa_0_8 ho0).2.1]; exact vp_of (a := v1.toInt) rfl (by omega) (by omega), ?_⟩
                    refine w_X11_bit ?_
                    refine bif_t (fa_0_8 ho0).1 ?_
                    refine ⟨by rw [(fa_0_8 ho0).2.1]; exact vp_of (a := v1.toInt) rfl (by omega) (by omega), ?_⟩
                    have hB35 : Bd (uI (uI I (v0 + 1) (Int32.toNatClampNeg v2) ((I (v0 + 1) (Int32.toNatClampNeg v2)) - 1)) (v0 + 5) (Int32.toNatClampNeg v1) (((uI I (v0 + 1) (Int32.toNatClampNeg v2) ((I (v0 + 1) (Int32.toNatClampNeg v2)) - 1)) (v0 + 5) (Int32.toNatClampNeg v1)) ||| (1 <<< ((v2 - 1) &&& 31)))) := Bd.a0 hB34 (fa_0_8 ho0).1 (fa_0_8 ho0).2.2
                    exact hQ _ _ _ _ hB35 (by have q0 : (0 : Int32).toInt = 0 := rfl; omega)
                  · exact absurd c33 (by decide)
                · skip
                  have d36 : ¬ (((((I (v0 + 5) (Int32.toNatClampNeg v1)) &&& (1 <<< ((v2 - 1) &&& 31))) : Int32).toInt) : Int) = (0) := ci_ne rfl rfl c30
                  refine ⟨Or.inr rfl, ?_⟩
                  intro o37
                  refine ⟨fun c38 => ?_, fun c38 => ?_⟩
                  · exact absurd c38 (by decide)
                  · skip
                    exact hQ _ _ _ _ hB0 (by have q0 : (9 : Int32).toInt = 9 := rfl; omega)
            · exact absurd c26 (by decide)
set_option maxHeartbeats 2000000 in
theorem sp_X0_handBack {d : Nat} {Q : Qt} {v0 : Nat} {v1 : Int32} {v2 : Int32} {I : Im} {J : Jm} {R : Rm} (hB0 : Bd I) (hR0 : RI R) (ho0 : isO 112 v0 0 = true) (hQ : ∀ (x : Int32) (y : Int64) (I2 : Im) (J2 : Jm), Bd I2 → ((x.toInt = 0 → (0 ≤ v1.toInt ∧ v1.toInt ≤ 5))) → Q x y I2 J2 R) : AM (d + 2) 19 112 [.ref v0, .int v1, .int v2] I J R Q := by
  have i_v1 := i32 v1
  have i_v2 := i32 v2
  refine w_X0_handBack ?_
  refine bif_t ho0 ?_
  refine w_X0_isMan ?_
  refine ⟨fun c1 => ?_, fun c1 => ?_⟩
  · skip
    have d2 : ((v1.toInt) : Int) < (0) := ci_lt rfl rfl c1
    refine ⟨Or.inl rfl, ?_⟩
    intro o3
    refine ⟨fun c4 => ?_, fun c4 => ?_⟩
    · skip
      exact hQ _ _ _ _ hB0 (by have q0 : (2 : Int32).toInt = 2 := rfl; omega)
    · exact absurd c4 (by decide)
  · skip
    have d5 : ((0) : Int) ≤ (v1.toInt) := ci_nlt rfl rfl c1
    refine bif_t ho0 ?_
    refine ⟨fun c6 => ?_, fun c6 => ?_⟩
    · skip
      have b7 := Bd.o hB0 ho0 bd9_0_4
      have d8 : (((I v0 4).toInt) : Int) ≤ (v1.toInt) := ci_le rfl rfl c6
      refine ⟨Or.inl rfl, ?_⟩
      intro o9
      refine ⟨fun c10 => ?_, fun c10 => ?_⟩
      · skip
        exact hQ _ _ _ _ hB0 (by have q0 : (2 : Int32).toInt = 2 := rfl; omega)
      · exact absurd c10 (by decide)
    · skip
      have b11 := Bd.o hB0 ho0 bd9_0_4
      have d12 : ((v1.toInt) : Int) < ((I v0 4).toInt) := ci_nle rfl rfl c6
      refine ⟨Or.inr rfl, ?_⟩
      intro o13
      refine ⟨fun c14 => ?_, fun c14 => ?_⟩
      · exact absurd c14 (by decide)
      · skip
        refine w_X11_isSlice ?_
        refine ⟨fun c15 => ?_, fun c15 => ?_⟩
        · skip
          have d16 : ((v2.toInt) : Int) < (1) := ci_lt rfl rfl c15
          refine ⟨Or.inl rfl, ?_⟩
          intro o17
          refine ⟨fun c18 => ?_, fun c18 => ?_⟩
          · exact absurd c18 (by decide)
          · skip
            exact hQ _ _ _ _ hB0 (by have q0 : (2 : Int32).toInt = 2 := rfl; omega)
        · skip
          have d19 : ((1) : Int) ≤ (v2.toInt) := ci_nlt rfl rfl c15
          refine ⟨fun c20 => ?_, fun c20 => ?_⟩
          · skip
            have d21 : ((30) : Int) < (v2.toInt) := ci_lt rfl rfl c20
            refine ⟨Or.inl rfl, ?_⟩
            intro o22
            refine ⟨fun c23 => ?_, fun c23 => ?_⟩
            · exact absurd c23 (by decide)
            · skip
              exact hQ _ _ _ _ hB0 (by have q0 : (2 : Int32).toInt = 2 := rfl; omega)
          · skip
            have d24 : ((v2.toInt) : Int) ≤ (30) := ci_nlt rfl rfl c20
            refine ⟨Or.inr rfl, ?_⟩
            intro o25
            refine ⟨fun c26 => ?_, fun c26 => ?_⟩
            · skip
              refine bif_t ho0 ?_
              refine bif_t (fa_0_0 ho0).1 ?_
              refine ⟨by rw [(fa_0_0 ho0).2.1]; exact vp_of (a := v2.toInt) rfl (by omega) (by omega), ?_⟩
              refine ⟨fun c27 => ?_, fun c27 => ?_⟩
              · skip
                have d28 : (((I (v0 + 1) (Int32.toNatClampNeg v2)).toInt) : Int) < (99) := ci_lt rfl rfl c27
                refine bif_t ho0 ?_
                refine bif_t (fa_0_8 ho0).1 ?_
                refine ⟨by rw [(fa_0_8 ho0).2.1]; exact vp_of (a := v1.toInt) rfl (by omega) (by omega), ?_⟩
                refine w_X11_isIn ?_
                refine ⟨fun c29 => ?_, fun c29 => ?_⟩
                · skip
                  have d30 : (((((I (v0 + 5) (Int32.toNatClampNeg v1)) &&& (1 <<< ((v2 - 1) &&& 31))) : Int32).toInt) : Int) = (0) := ci_eq rfl rfl c29
                  refine ⟨Or.inl rfl, ?_⟩
                  intro o31
                  refine ⟨fun c32 => ?_, fun c32 => ?_⟩
                  · exact absurd c32 (by decide)
                  · skip
                    exact hQ _ _ _ _ hB0 (by have q0 : (9 : Int32).toInt = 9 := rfl; omega)
                · skip
                  have d33 : ¬ (((((I (v0 + 5) (Int32.toNatClampNeg v1)) &&& (1 <<< ((v2 - 1) &&& 31))) : Int32).toInt) : Int) = (0) := ci_ne rfl rfl c29
                  refine ⟨Or.inr rfl, ?_⟩
                  intro o34
                  refine ⟨fun c35 => ?_, fun c35 => ?_⟩
                  · skip
                    refine bif_t ho0 ?_
                    refine bif_t (fa_0_0 ho0).1 ?_
                    refine ⟨by rw [(fa_0_0 ho0).2.1]; exact vp_of (a := v2.toInt) rfl (by omega) (by omega), ?_⟩
                    refine bif_t (fa_0_0 ho0).1 ?_
                    refine ⟨by rw [(fa_0_0 ho0).2.1]; exact vp_of (a := v2.toInt) rfl (by omega) (by omega), ?_⟩
                    have hB36 : Bd (uI I (v0 + 1) (Int32.toNatClampNeg v2) ((I (v0 + 1) (Int32.toNatClampNeg v2)) + 1)) := Bd.a0 hB0 (fa_0_0 ho0).1 (fa_0_0 ho0).2.2
                    refine bif_t ho0 ?_
                    refine bif_t (fa_0_8 ho0).1 ?_
                    refine ⟨by rw [(fa_0_8 ho0).2.1]; exact vp_of (a := v1.toInt) rfl (by omega) (by omega), ?_⟩
                    refine w_X11_bit ?_
                    refine bif_t (fa_0_8 ho0).1 ?_
                    refine ⟨by rw [(fa_0_8 ho0).2.1]; exact vp_of (a := v1.toInt) rfl (by omega) (by omega), ?_⟩
                    have hB37 : Bd (uI (uI I (v0 + 1) (Int32.toNatClampNeg v2) ((I (v0 + 1) (Int32.toNatClampNeg v2)) + 1)) (v0 + 5) (Int32.toNatClampNeg v1) (((uI I (v0 + 1) (Int32.toNatClampNeg v2) ((I (v0 + 1) (Int32.toNatClampNeg v2)) + 1)) (v0 + 5) (Int32.toNatClampNeg v1)) &&& ((1 <<< ((v2 - 1) &&& 31)) ^^^ (-1)))) := Bd.a0 hB36 (fa_0_8 ho0).1 (fa_0_8 ho0).2.2
                    exact hQ _ _ _ _ hB37 (by have q0 : (0 : Int32).toInt = 0 := rfl; omega)
                  · exact absurd c35 (by decide)
              · skip
                have d38 : ((99) : Int) ≤ ((I (v0 + 1) (Int32.toNatClampNeg v2)).toInt) := ci_nlt rfl rfl c27
                exact hQ _ _ _ _ hB0 (by have q0 : (7 : Int32).toInt = 7 := rfl; omega)
            · exact absurd c26 (by decide)
set_option maxHeartbeats 2000000 in
theorem sp_X2_forget {d : Nat} {Q : Qt} {v0 : Nat} {I : Im} {J : Jm} {R : Rm} (hB0 : Bd I) (hR0 : RI R) (ho0 : isO 112 v0 2 = true) (hQ : ∀ (x : Int32) (y : Int64) (I2 : Im) (J2 : Jm), Bd I2 → (I2 7 1 = I 7 1) → Q x y I2 J2 R) : AM (d + 1) 28 112 [.ref v0] I J R Q := by
  refine w_X2_forget ?_
  refine bif_t ho0 ?_
  refine ⟨Or.inl rfl, ?_⟩
  have hB1 : Bd (uI I v0 0 0) := Bd.o1 hB0 ho0 (by omega) bd9_2_0 rfl (bl_ti (Or.inl rfl))
  refine bif_t ho0 ?_
  have hB2 : Bd (uI (uI I v0 0 0) v0 1 0) := Bd.o0 hB1 ho0 (by omega) bd9_2_1
  refine bif_t ho0 ?_
  have hB3 : Bd (uI (uI (uI I v0 0 0) v0 1 0) v0 2 0) := Bd.o1 hB2 ho0 (by omega) bd9_2_2 (show (0 : Int32).toInt = 0 from rfl) (by omega)
  exact hQ _ _ _ _ hB3 (Eq.trans (Eq.trans (rd_ne (cne (clO io9_112_7_3) (clO ho0) rfl)) (rd_ne (cne (clO io9_112_7_3) (clO ho0) rfl))) (rd_ne (cne (clO io9_112_7_3) (clO ho0) rfl)))
set_option maxHeartbeats 2000000 in
theorem sp_X2_copyFrom {d : Nat} {Q : Qt} {v0 : Nat} {v1 : Nat} {I : Im} {J : Jm} {R : Rm} (hB0 : Bd I) (hR0 : RI R) (ho0 : isO 112 v0 2 = true) (ho1 : isO 112 v1 2 = true) (hQ : ∀ (x : Int32) (y : Int64) (I2 : Im) (J2 : Jm), Bd I2 → (I2 1 13 = I 1 13) → Q x y I2 J2 R) : AM (d + 1) 29 112 [.ref v0, .ref v1] I J R Q := by
  refine w_X2_copyFrom ?_
  refine bif_t ho1 ?_
  refine bif_t ho0 ?_
  refine ⟨(bl_of (Bd.o hB0 ho1 bd9_2_0)), ?_⟩
  have hB1 : Bd (uI I v0 0 (I v1 0)) := Bd.o1 hB0 ho0 (by omega) bd9_2_0 rfl (bl_ti ((bl_of (Bd.o hB0 ho1 bd9_2_0))))
  refine bif_t ho1 ?_
  refine bif_t ho0 ?_
  have hB2 : Bd (uI (uI I v0 0 (I v1 0)) v0 1 ((uI I v0 0 (I v1 0)) v1 1)) := Bd.o0 hB1 ho0 (by omega) bd9_2_1
  refine bif_t ho1 ?_
  refine bif_t ho0 ?_
  have b4 := Bd.o hB2 ho1 bd9_2_2
  have hB3 : Bd (uI (uI (uI I v0 0 (I v1 0)) v0 1 ((uI I v0 0 (I v1 0)) v1 1)) v0 2 ((uI (uI I v0 0 (I v1 0)) v0 1 ((uI I v0 0 (I v1 0)) v1 1)) v1 2)) := Bd.o1 hB2 ho0 (by omega) bd9_2_2 (show (((uI (uI I v0 0 (I v1 0)) v0 1 ((uI I v0 0 (I v1 0)) v1 1)) v1 2) : Int32).toInt = ((uI (uI I v0 0 (I v1 0)) v0 1 ((uI I v0 0 (I v1 0)) v1 1)) v1 2).toInt from rfl) (by omega)
  refine bif_t ho1 ?_
  refine bif_t ho0 ?_
  refine bif_t2 (fa_2_3 ho1).1 (fa_2_3 ho0).1 ?_
  refine ⟨⟨(fun z => by have z2 : (0 : Int) < 0 := ci_lt rfl rfl z; omega), (fun z => by have z2 : (0 : Int) < 0 := ci_lt rfl rfl z; omega), (fun z => by have z2 : (60 : Int) < 0 := ci_lt rfl rfl z; omega), (by (try rw [(fa_2_3 ho1).2.1]); have z1 := tn_of (show (60 : Int32).toInt = 60 from rfl) (by omega); have z2 := tn_of (show (0 : Int32).toInt = 0 from rfl) (by omega); omega), (by (try rw [(fa_2_3 ho0).2.1]); have z1 := tn_of (show (60 : Int32).toInt = 60 from rfl) (by omega); have z2 := tn_of (show (0 : Int32).toInt = 0 from rfl) (by omega); omega)⟩, ?_⟩
  have hB5 : Bd (cI (uI (uI (uI I v0 0 (I v1 0)) v0 1 ((uI I v0 0 (I v1 0)) v1 1)) v0 2 ((uI (uI I v0 0 (I v1 0)) v0 1 ((uI I v0 0 (I v1 0)) v1 1)) v1 2)) (v1 + 1) (v0 + 1) (Int32.toNatClampNeg 0) (Int32.toNatClampNeg 0) (Int32.toNatClampNeg 60)) := Bd.cp hB3 (fa_2_3 ho0).1 (fa_2_3 ho0).2.2
  refine bif_t ho1 ?_
  refine bif_t ho0 ?_
  refine bif_t2 (fa_2_4 ho1).1 (fa_2_4 ho0).1 ?_
  refine ⟨⟨(fun z => by have z2 : (0 : Int) < 0 := ci_lt rfl rfl z; omega), (fun z => by have z2 : (0 : Int) < 0 := ci_lt rfl rfl z; omega), (fun z => by have z2 : (60 : Int) < 0 := ci_lt rfl rfl z; omega), (by (try rw [(fa_2_4 ho1).2.1]); have z1 := tn_of (show (60 : Int32).toInt = 60 from rfl) (by omega); have z2 := tn_of (show (0 : Int32).toInt = 0 from rfl) (by omega); omega), (by (try rw [(fa_2_4 ho0).2.1]); have z1 := tn_of (show (60 : Int32).toInt = 60 from rfl) (by omega); have z2 := tn_of (show (0 : Int32).toInt = 0 from rfl) (by omega); omega)⟩, ?_⟩
  have hB6 : Bd (cI (cI (uI (uI (uI I v0 0 (I v1 0)) v0 1 ((uI I v0 0 (I v1 0)) v1 1)) v0 2 ((uI (uI I v0 0 (I v1 0)) v0 1 ((uI I v0 0 (I v1 0)) v1 1)) v1 2)) (v1 + 1) (v0 + 1) (Int32.toNatClampNeg 0) (Int32.toNatClampNeg 0) (Int32.toNatClampNeg 60)) (v1 + 2) (v0 + 2) (Int32.toNatClampNeg 0) (Int32.toNatClampNeg 0) (Int32.toNatClampNeg 60)) := Bd.cp hB5 (fa_2_4 ho0).1 (fa_2_4 ho0).2.2
  refine bif_t ho1 ?_
  refine bif_t ho0 ?_
  refine bif_t2 (fa_2_5 ho1).1 (fa_2_5 ho0).1 ?_
  refine ⟨⟨(fun z => by have z2 : (0 : Int) < 0 := ci_lt rfl rfl z; omega), (fun z => by have z2 : (0 : Int) < 0 := ci_lt rfl rfl z; omega), (fun z => by have z2 : (60 : Int) < 0 := ci_lt rfl rfl z; omega), (by (try rw [(fa_2_5 ho1).2.1]); have z1 := tn_of (show (60 : Int32).toInt = 60 from rfl) (by omega); have z2 := tn_of (show (0 : Int32).toInt = 0 from rfl) (by omega); omega), (by (try rw [(fa_2_5 ho0).2.1]); have z1 := tn_of (show (60 : Int32).toInt = 60 from rfl) (by omega); have z2 := tn_of (show (0 : Int32).toInt = 0 from rfl) (by omega); omega)⟩, ?_⟩
  have hB7 : Bd (cI (cI (cI (uI (uI (uI I v0 0 (I v1 0)) v0 1 ((uI I v0 0 (I v1 0)) v1 1)) v0 2 ((uI (uI I v0 0 (I v1 0)) v0 1 ((uI I v0 0 (I v1 0)) v1 1)) v1 2)) (v1 + 1) (v0 + 1) (Int32.toNatClampNeg 0) (Int32.toNatClampNeg 0) (Int32.toNatClampNeg 60)) (v1 + 2) (v0 + 2) (Int32.toNatClampNeg 0) (Int32.toNatClampNeg 0) (Int32.toNatClampNeg 60)) (v1 + 3) (v0 + 3) (Int32.toNatClampNeg 0) (Int32.toNatClampNeg 0) (Int32.toNatClampNeg 60)) := Bd.cp hB6 (fa_2_5 ho0).1 (fa_2_5 ho0).2.2
  refine bif_t ho1 ?_
  refine bif_t ho0 ?_
  refine bif_t2 (fa_2_6 ho1).1 (fa_2_6 ho0).1 ?_
  refine ⟨⟨(fun z => by have z2 : (0 : Int) < 0 := ci_lt rfl rfl z; omega), (fun z => by have z2 : (0 : Int) < 0 := ci_lt rfl rfl z; omega), (fun z => by have z2 : (60 : Int) < 0 := ci_lt rfl rfl z; omega), (by (try rw [(fa_2_6 ho1).2.1]); have z1 := tn_of (show (60 : Int32).toInt = 60 from rfl) (by omega); have z2 := tn_of (show (0 : Int32).toInt = 0 from rfl) (by omega); omega), (by (try rw [(fa_2_6 ho0).2.1]); have z1 := tn_of (show (60 : Int32).toInt = 60 from rfl) (by omega); have z2 := tn_of (show (0 : Int32).toInt = 0 from rfl) (by omega); omega)⟩, ?_⟩
  have hB8 : Bd (cI (cI (cI (cI (uI (uI (uI I v0 0 (I v1 0)) v0 1 ((uI I v0 0 (I v1 0)) v1 1)) v0 2 ((uI (uI I v0 0 (I v1 0)) v0 1 ((uI I v0 0 (I v1 0)) v1 1)) v1 2)) (v1 + 1) (v0 + 1) (Int32.toNatClampNeg 0) (Int32.toNatClampNeg 0) (Int32.toNatClampNeg 60)) (v1 + 2) (v0 + 2) (Int32.toNatClampNeg 0) (Int32.toNatClampNeg 0) (Int32.toNatClampNeg 60)) (v1 + 3) (v0 + 3) (Int32.toNatClampNeg 0) (Int32.toNatClampNeg 0) (Int32.toNatClampNeg 60)) (v1 + 4) (v0 + 4) (Int32.toNatClampNeg 0) (Int32.toNatClampNeg 0) (Int32.toNatClampNeg 60)) := Bd.cp hB7 (fa_2_6 ho0).1 (fa_2_6 ho0).2.2
  refine bif_t ho1 ?_
  refine bif_t ho0 ?_
  refine bif_t2 (fa_2_7 ho1).1 (fa_2_7 ho0).1 ?_
  refine ⟨⟨(fun z => by have z2 : (0 : Int) < 0 := ci_lt rfl rfl z; omega), (fun z => by have z2 : (0 : Int) < 0 := ci_lt rfl rfl z; omega), (fun z => by have z2 : (60 : Int) < 0 := ci_lt rfl rfl z; omega), (by (try rw [(fa_2_7 ho1).2.1]); have z1 := tn_of (show (60 : Int32).toInt = 60 from rfl) (by omega); have z2 := tn_of (show (0 : Int32).toInt = 0 from rfl) (by omega); omega), (by (try rw [(fa_2_7 ho0).2.1]); have z1 := tn_of (show (60 : Int32).toInt = 60 from rfl) (by omega); have z2 := tn_of (show (0 : Int32).toInt = 0 from rfl) (by omega); omega)⟩, ?_⟩
  have hB9 : Bd (cI (cI (cI (cI (cI (uI (uI (uI I v0 0 (I v1 0)) v0 1 ((uI I v0 0 (I v1 0)) v1 1)) v0 2 ((uI (uI I v0 0 (I v1 0)) v0 1 ((uI I v0 0 (I v1 0)) v1 1)) v1 2)) (v1 + 1) (v0 + 1) (Int32.toNatClampNeg 0) (Int32.toNatClampNeg 0) (Int32.toNatClampNeg 60)) (v1 + 2) (v0 + 2) (Int32.toNatClampNeg 0) (Int32.toNatClampNeg 0) (Int32.toNatClampNeg 60)) (v1 + 3) (v0 + 3) (Int32.toNatClampNeg 0) (Int32.toNatClampNeg 0) (Int32.toNatClampNeg 60)) (v1 + 4) (v0 + 4) (Int32.toNatClampNeg 0) (Int32.toNatClampNeg 0) (Int32.toNatClampNeg 60)) (v1 + 5) (v0 + 5) (Int32.toNatClampNeg 0) (Int32.toNatClampNeg 0) (Int32.toNatClampNeg 60)) := Bd.cp hB8 (fa_2_7 ho0).1 (fa_2_7 ho0).2.2
  exact hQ _ _ _ _ hB9 (Eq.trans (Eq.trans (Eq.trans (Eq.trans (Eq.trans (Eq.trans (Eq.trans (rd_c (cne (clO io9_112_1_11) (clA (fa_2_7 ho0).1) rfl)) (rd_c (cne (clO io9_112_1_11) (clA (fa_2_6 ho0).1) rfl))) (rd_c (cne (clO io9_112_1_11) (clA (fa_2_5 ho0).1) rfl))) (rd_c (cne (clO io9_112_1_11) (clA (fa_2_4 ho0).1) rfl))) (rd_c (cne (clO io9_112_1_11) (clA (fa_2_3 ho0).1) rfl))) (rd_ne (cne (clO io9_112_1_11) (clO ho0) rfl))) (rd_ne (cne (clO io9_112_1_11) (clO ho0) rfl))) (rd_ne (cne (clO io9_112_1_11) (clO ho0) rfl)))
set_option maxHeartbeats 2000000 in
theorem sp_X2_add {d : Nat} {Q : Qt} {v0 : Nat} {v1 : Int32} {v2 : Int32} {v3 : Int32} {v4 : Int32} {I : Im} {J : Jm} {R : Rm} (hB0 : Bd I) (hR0 : RI R) (ho0 : isO 112 v0 2 = true) (hQ : ∀ (x : Int32) (y : Int64) (I2 : Im) (J2 : Jm), Bd I2 → (I2 7 1 = I 7 1) → Q x y I2 J2 R) : AM (d + 1) 30 112 [.ref v0, .int v1, .int v2, .int v3, .int v4] I J R Q := by
  have i_v1 := i32 v1
  have i_v2 := i32 v2
  have i_v3 := i32 v3
  have i_v4 := i32 v4
  refine w_X2_add ?_
  refine bif_t ho0 ?_
  refine ⟨fun c1 => ?_, fun c1 => ?_⟩
  · skip
    have b2 := Bd.o hB0 ho0 bd9_2_2
    have d3 : (((I v0 2).toInt) : Int) < (60) := ci_lt rfl rfl c1
    refine bif_t ho0 ?_
    refine bif_t ho0 ?_
    refine bif_t (fa_2_3 ho0).1 ?_
    refine ⟨by rw [(fa_2_3 ho0).2.1]; exact vp_of (a := (I v0 2).toInt) rfl (by omega) (by omega), ?_⟩
    have hB4 : Bd (uI I (v0 + 1) (Int32.toNatClampNeg (I v0 2)) v1) := Bd.a0 hB0 (fa_2_3 ho0).1 (fa_2_3 ho0).2.2
    refine bif_t ho0 ?_
    refine bif_t ho0 ?_
    refine bif_t (fa_2_4 ho0).1 ?_
    have e5 : (((uI I (v0 + 1) (Int32.toNatClampNeg (I v0 2)) v1) v0 2) : Int32).toInt = (I v0 2).toInt := Eq.trans (congrArg Int32.toInt (rd_ne (by first | decide | omega))) rfl
    refine ⟨by rw [(fa_2_4 ho0).2.1]; exact vp_of (a := (I v0 2).toInt) e5 (by omega) (by omega), ?_⟩
    have hB6 : Bd (uI (uI I (v0 + 1) (Int32.toNatClampNeg (I v0 2)) v1) (v0 + 2) (Int32.toNatClampNeg ((uI I (v0 + 1) (Int32.toNatClampNeg (I v0 2)) v1) v0 2)) v2) := Bd.a0 hB4 (fa_2_4 ho0).1 (fa_2_4 ho0).2.2
    refine bif_t ho0 ?_
    refine bif_t ho0 ?_
    refine bif_t (fa_2_5 ho0).1 ?_
    have e7 : (((uI (uI I (v0 + 1) (Int32.toNatClampNeg (I v0 2)) v1) (v0 + 2) (Int32.toNatClampNeg ((uI I (v0 + 1) (Int32.toNatClampNeg (I v0 2)) v1) v0 2)) v2) v0 2) : Int32).toInt = (I v0 2).toInt := Eq.trans (congrArg Int32.toInt (Eq.trans (rd_ne (by first | decide | omega)) (rd_ne (by first | decide | omega)))) rfl
    refine ⟨by rw [(fa_2_5 ho0).2.1]; exact vp_of (a := (I v0 2).toInt) e7 (by omega) (by omega), ?_⟩
    have hB8 : Bd (uI (uI (uI I (v0 + 1) (Int32.toNatClampNeg (I v0 2)) v1) (v0 + 2) (Int32.toNatClampNeg ((uI I (v0 + 1) (Int32.toNatClampNeg (I v0 2)) v1) v0 2)) v2) (v0 + 3) (Int32.toNatClampNeg ((uI (uI I (v0 + 1) (Int32.toNatClampNeg (I v0 2)) v1) (v0 + 2) (Int32.toNatClampNeg ((uI I (v0 + 1) (Int32.toNatClampNeg (I v0 2)) v1) v0 2)) v2) v0 2)) v3) := Bd.a0 hB6 (fa_2_5 ho0).1 (fa_2_5 ho0).2.2
    refine bif_t ho0 ?_
    refine bif_t ho0 ?_
    refine bif_t (fa_2_6 ho0).1 ?_
    have e9 : (((uI (uI (uI I (v0 + 1) (Int32.toNatClampNeg (I v0 2)) v1) (v0 + 2) (Int32.toNatClampNeg ((uI I (v0 + 1) (Int32.toNatClampNeg (I v0 2)) v1) v0 2)) v2) (v0 + 3) (Int32.toNatClampNeg ((uI (uI I (v0 + 1) (Int32.toNatClampNeg (I v0 2)) v1) (v0 + 2) (Int32.toNatClampNeg ((uI I (v0 + 1) (Int32.toNatClampNeg (I v0 2)) v1) v0 2)) v2) v0 2)) v3) v0 2) : Int32).toInt = (I v0 2).toInt := Eq.trans (congrArg Int32.toInt (Eq.trans (Eq.trans (rd_ne (by first | decide | omega)) (rd_ne (by first | decide | omega))) (rd_ne (by first | decide | omega)))) rfl
    refine ⟨by rw [(fa_2_6 ho0).2.1]; exact vp_of (a := (I v0 2).toInt) e9 (by omega) (by omega), ?_⟩
    have hB10 : Bd (uI (uI (uI (uI I (v0 + 1) (Int32.toNatClampNeg (I v0 2)) v1) (v0 + 2) (Int32.toNatClampNeg ((uI I (v0 + 1) (Int32.toNatClampNeg (I v0 2)) v1) v0 2)) v2) (v0 + 3) (Int32.toNatClampNeg ((uI (uI I (v0 + 1) (Int32.toNatClampNeg (I v0 2)) v1) (v0 + 2) (Int32.toNatClampNeg ((uI I (v0 + 1) (Int32.toNatClampNeg (I v0 2)) v1) v0 2)) v2) v0 2)) v3) (v0 + 4) (Int32.toNatClampNeg ((uI (uI (uI I (v0 + 1) (Int32.toNatClampNeg (I v0 2)) v1) (v0 + 2) (Int32.toNatClampNeg ((uI I (v0 + 1) (Int32.toNatClampNeg (I v0 2)) v1) v0 2)) v2) (v0 + 3) (Int32.toNatClampNeg ((uI (uI I (v0 + 1) (Int32.toNatClampNeg (I v0 2)) v1) (v0 + 2) (Int32.toNatClampNeg ((uI I (v0 + 1) (Int32.toNatClampNeg (I v0 2)) v1) v0 2)) v2) v0 2)) v3) v0 2)) v4) := Bd.a0 hB8 (fa_2_6 ho0).1 (fa_2_6 ho0).2.2
    refine bif_t ho0 ?_
    refine bif_t ho0 ?_
    refine bif_t ho0 ?_
    refine bif_t (fa_2_7 ho0).1 ?_
    have e11 : (((uI (uI (uI (uI I (v0 + 1) (Int32.toNatClampNeg (I v0 2)) v1) (v0 + 2) (Int32.toNatClampNeg ((uI I (v0 + 1) (Int32.toNatClampNeg (I v0 2)) v1) v0 2)) v2) (v0 + 3) (Int32.toNatClampNeg ((uI (uI I (v0 + 1) (Int32.toNatClampNeg (I v0 2)) v1) (v0 + 2) (Int32.toNatClampNeg ((uI I (v0 + 1) (Int32.toNatClampNeg (I v0 2)) v1) v0 2)) v2) v0 2)) v3) (v0 + 4) (Int32.toNatClampNeg ((uI (uI (uI I (v0 + 1) (Int32.toNatClampNeg (I v0 2)) v1) (v0 + 2) (Int32.toNatClampNeg ((uI I (v0 + 1) (Int32.toNatClampNeg (I v0 2)) v1) v0 2)) v2) (v0 + 3) (Int32.toNatClampNeg ((uI (uI I (v0 + 1) (Int32.toNatClampNeg (I v0 2)) v1) (v0 + 2) (Int32.toNatClampNeg ((uI I (v0 + 1) (Int32.toNatClampNeg (I v0 2)) v1) v0 2)) v2) v0 2)) v3) v0 2)) v4) v0 2) : Int32).toInt = (I v0 2).toInt := Eq.trans (congrArg Int32.toInt (Eq.trans (Eq.trans (Eq.trans (rd_ne (by first | decide | omega)) (rd_ne (by first | decide | omega))) (rd_ne (by first | decide | omega))) (rd_ne (by first | decide | omega)))) rfl
    refine ⟨by rw [(fa_2_7 ho0).2.1]; exact vp_of (a := (I v0 2).toInt) e11 (by omega) (by omega), ?_⟩
    have hB12 : Bd (uI (uI (uI (uI (uI I (v0 + 1) (Int32.toNatClampNeg (I v0 2)) v1) (v0 + 2) (Int32.toNatClampNeg ((uI I (v0 + 1) (Int32.toNatClampNeg (I v0 2)) v1) v0 2)) v2) (v0 + 3) (Int32.toNatClampNeg ((uI (uI I (v0 + 1) (Int32.toNatClampNeg (I v0 2)) v1) (v0 + 2) (Int32.toNatClampNeg ((uI I (v0 + 1) (Int32.toNatClampNeg (I v0 2)) v1) v0 2)) v2) v0 2)) v3) (v0 + 4) (Int32.toNatClampNeg ((uI (uI (uI I (v0 + 1) (Int32.toNatClampNeg (I v0 2)) v1) (v0 + 2) (Int32.toNatClampNeg ((uI I (v0 + 1) (Int32.toNatClampNeg (I v0 2)) v1) v0 2)) v2) (v0 + 3) (Int32.toNatClampNeg ((uI (uI I (v0 + 1) (Int32.toNatClampNeg (I v0 2)) v1) (v0 + 2) (Int32.toNatClampNeg ((uI I (v0 + 1) (Int32.toNatClampNeg (I v0 2)) v1) v0 2)) v2) v0 2)) v3) v0 2)) v4) (v0 + 5) (Int32.toNatClampNeg ((uI (uI (uI (uI I (v0 + 1) (Int32.toNatClampNeg (I v0 2)) v1) (v0 + 2) (Int32.toNatClampNeg ((uI I (v0 + 1) (Int32.toNatClampNeg (I v0 2)) v1) v0 2)) v2) (v0 + 3) (Int32.toNatClampNeg ((uI (uI I (v0 + 1) (Int32.toNatClampNeg (I v0 2)) v1) (v0 + 2) (Int32.toNatClampNeg ((uI I (v0 + 1) (Int32.toNatClampNeg (I v0 2)) v1) v0 2)) v2) v0 2)) v3) (v0 + 4) (Int32.toNatClampNeg ((uI (uI (uI I (v0 + 1) (Int32.toNatClampNeg (I v0 2)) v1) (v0 + 2) (Int32.toNatClampNeg ((uI I (v0 + 1) (Int32.toNatClampNeg (I v0 2)) v1) v0 2)) v2) (v0 + 3) (Int32.toNatClampNeg ((uI (uI I (v0 + 1) (Int32.toNatClampNeg (I v0 2)) v1) (v0 + 2) (Int32.toNatClampNeg ((uI I (v0 + 1) (Int32.toNatClampNeg (I v0 2)) v1) v0 2)) v2) v0 2)) v3) v0 2)) v4) v0 2)) ((uI (uI (uI (uI I (v0 + 1) (Int32.toNatClampNeg (I v0 2)) v1) (v0 + 2) (Int32.toNatClampNeg ((uI I (v0 + 1) (Int32.toNatClampNeg (I v0 2)) v1) v0 2)) v2) (v0 + 3) (Int32.toNatClampNeg ((uI (uI I (v0 + 1) (Int32.toNatClampNeg (I v0 2)) v1) (v0 + 2) (Int32.toNatClampNeg ((uI I (v0 + 1) (Int32.toNatClampNeg (I v0 2)) v1) v0 2)) v2) v0 2)) v3) (v0 + 4) (Int32.toNatClampNeg ((uI (uI (uI I (v0 + 1) (Int32.toNatClampNeg (I v0 2)) v1) (v0 + 2) (Int32.toNatClampNeg ((uI I (v0 + 1) (Int32.toNatClampNeg (I v0 2)) v1) v0 2)) v2) (v0 + 3) (Int32.toNatClampNeg ((uI (uI I (v0 + 1) (Int32.toNatClampNeg (I v0 2)) v1) (v0 + 2) (Int32.toNatClampNeg ((uI I (v0 + 1) (Int32.toNatClampNeg (I v0 2)) v1) v0 2)) v2) v0 2)) v3) v0 2)) v4) v0 2)) := Bd.a0 hB10 (fa_2_7 ho0).1 (fa_2_7 ho0).2.2
    refine bif_t ho0 ?_
    refine bif_t ho0 ?_
    have e14 : (((uI (uI (uI (uI (uI I (v0 + 1) (Int32.toNatClampNeg (I v0 2)) v1) (v0 + 2) (Int32.toNatClampNeg ((uI I (v0 + 1) (Int32.toNatClampNeg (I v0 2)) v1) v0 2)) v2) (v0 + 3) (Int32.toNatClampNeg ((uI (uI I (v0 + 1) (Int32.toNatClampNeg (I v0 2)) v1) (v0 + 2) (Int32.toNatClampNeg ((uI I (v0 + 1) (Int32.toNatClampNeg (I v0 2)) v1) v0 2)) v2) v0 2)) v3) (v0 + 4) (Int32.toNatClampNeg ((uI (uI (uI I (v0 + 1) (Int32.toNatClampNeg (I v0 2)) v1) (v0 + 2) (Int32.toNatClampNeg ((uI I (v0 + 1) (Int32.toNatClampNeg (I v0 2)) v1) v0 2)) v2) (v0 + 3) (Int32.toNatClampNeg ((uI (uI I (v0 + 1) (Int32.toNatClampNeg (I v0 2)) v1) (v0 + 2) (Int32.toNatClampNeg ((uI I (v0 + 1) (Int32.toNatClampNeg (I v0 2)) v1) v0 2)) v2) v0 2)) v3) v0 2)) v4) (v0 + 5) (Int32.toNatClampNeg ((uI (uI (uI (uI I (v0 + 1) (Int32.toNatClampNeg (I v0 2)) v1) (v0 + 2) (Int32.toNatClampNeg ((uI I (v0 + 1) (Int32.toNatClampNeg (I v0 2)) v1) v0 2)) v2) (v0 + 3) (Int32.toNatClampNeg ((uI (uI I (v0 + 1) (Int32.toNatClampNeg (I v0 2)) v1) (v0 + 2) (Int32.toNatClampNeg ((uI I (v0 + 1) (Int32.toNatClampNeg (I v0 2)) v1) v0 2)) v2) v0 2)) v3) (v0 + 4) (Int32.toNatClampNeg ((uI (uI (uI I (v0 + 1) (Int32.toNatClampNeg (I v0 2)) v1) (v0 + 2) (Int32.toNatClampNeg ((uI I (v0 + 1) (Int32.toNatClampNeg (I v0 2)) v1) v0 2)) v2) (v0 + 3) (Int32.toNatClampNeg ((uI (uI I (v0 + 1) (Int32.toNatClampNeg (I v0 2)) v1) (v0 + 2) (Int32.toNatClampNeg ((uI I (v0 + 1) (Int32.toNatClampNeg (I v0 2)) v1) v0 2)) v2) v0 2)) v3) v0 2)) v4) v0 2)) ((uI (uI (uI (uI I (v0 + 1) (Int32.toNatClampNeg (I v0 2)) v1) (v0 + 2) (Int32.toNatClampNeg ((uI I (v0 + 1) (Int32.toNatClampNeg (I v0 2)) v1) v0 2)) v2) (v0 + 3) (Int32.toNatClampNeg ((uI (uI I (v0 + 1) (Int32.toNatClampNeg (I v0 2)) v1) (v0 + 2) (Int32.toNatClampNeg ((uI I (v0 + 1) (Int32.toNatClampNeg (I v0 2)) v1) v0 2)) v2) v0 2)) v3) (v0 + 4) (Int32.toNatClampNeg ((uI (uI (uI I (v0 + 1) (Int32.toNatClampNeg (I v0 2)) v1) (v0 + 2) (Int32.toNatClampNeg ((uI I (v0 + 1) (Int32.toNatClampNeg (I v0 2)) v1) v0 2)) v2) (v0 + 3) (Int32.toNatClampNeg ((uI (uI I (v0 + 1) (Int32.toNatClampNeg (I v0 2)) v1) (v0 + 2) (Int32.toNatClampNeg ((uI I (v0 + 1) (Int32.toNatClampNeg (I v0 2)) v1) v0 2)) v2) v0 2)) v3) v0 2)) v4) v0 2)) v0 2) : Int32).toInt = (I v0 2).toInt := Eq.trans (congrArg Int32.toInt (Eq.trans (Eq.trans (Eq.trans (Eq.trans (rd_ne (by first | decide | omega)) (rd_ne (by first | decide | omega))) (rd_ne (by first | decide | omega))) (rd_ne (by first | decide | omega))) (rd_ne (by first | decide | omega)))) rfl
    have e15 : ((((uI (uI (uI (uI (uI I (v0 + 1) (Int32.toNatClampNeg (I v0 2)) v1) (v0 + 2) (Int32.toNatClampNeg ((uI I (v0 + 1) (Int32.toNatClampNeg (I v0 2)) v1) v0 2)) v2) (v0 + 3) (Int32.toNatClampNeg ((uI (uI I (v0 + 1) (Int32.toNatClampNeg (I v0 2)) v1) (v0 + 2) (Int32.toNatClampNeg ((uI I (v0 + 1) (Int32.toNatClampNeg (I v0 2)) v1) v0 2)) v2) v0 2)) v3) (v0 + 4) (Int32.toNatClampNeg ((uI (uI (uI I (v0 + 1) (Int32.toNatClampNeg (I v0 2)) v1) (v0 + 2) (Int32.toNatClampNeg ((uI I (v0 + 1) (Int32.toNatClampNeg (I v0 2)) v1) v0 2)) v2) (v0 + 3) (Int32.toNatClampNeg ((uI (uI I (v0 + 1) (Int32.toNatClampNeg (I v0 2)) v1) (v0 + 2) (Int32.toNatClampNeg ((uI I (v0 + 1) (Int32.toNatClampNeg (I v0 2)) v1) v0 2)) v2) v0 2)) v3) v0 2)) v4) (v0 + 5) (Int32.toNatClampNeg ((uI (uI (uI (uI I (v0 + 1) (Int32.toNatClampNeg (I v0 2)) v1) (v0 + 2) (Int32.toNatClampNeg ((uI I (v0 + 1) (Int32.toNatClampNeg (I v0 2)) v1) v0 2)) v2) (v0 + 3) (Int32.toNatClampNeg ((uI (uI I (v0 + 1) (Int32.toNatClampNeg (I v0 2)) v1) (v0 + 2) (Int32.toNatClampNeg ((uI I (v0 + 1) (Int32.toNatClampNeg (I v0 2)) v1) v0 2)) v2) v0 2)) v3) (v0 + 4) (Int32.toNatClampNeg ((uI (uI (uI I (v0 + 1) (Int32.toNatClampNeg (I v0 2)) v1) (v0 + 2) (Int32.toNatClampNeg ((uI I (v0 + 1) (Int32.toNatClampNeg (I v0 2)) v1) v0 2)) v2) (v0 + 3) (Int32.toNatClampNeg ((uI (uI I (v0 + 1) (Int32.toNatClampNeg (I v0 2)) v1) (v0 + 2) (Int32.toNatClampNeg ((uI I (v0 + 1) (Int32.toNatClampNeg (I v0 2)) v1) v0 2)) v2) v0 2)) v3) v0 2)) v4) v0 2)) ((uI (uI (uI (uI I (v0 + 1) (Int32.toNatClampNeg (I v0 2)) v1) (v0 + 2) (Int32.toNatClampNeg ((uI I (v0 + 1) (Int32.toNatClampNeg (I v0 2)) v1) v0 2)) v2) (v0 + 3) (Int32.toNatClampNeg ((uI (uI I (v0 + 1) (Int32.toNatClampNeg (I v0 2)) v1) (v0 + 2) (Int32.toNatClampNeg ((uI I (v0 + 1) (Int32.toNatClampNeg (I v0 2)) v1) v0 2)) v2) v0 2)) v3) (v0 + 4) (Int32.toNatClampNeg ((uI (uI (uI I (v0 + 1) (Int32.toNatClampNeg (I v0 2)) v1) (v0 + 2) (Int32.toNatClampNeg ((uI I (v0 + 1) (Int32.toNatClampNeg (I v0 2)) v1) v0 2)) v2) (v0 + 3) (Int32.toNatClampNeg ((uI (uI I (v0 + 1) (Int32.toNatClampNeg (I v0 2)) v1) (v0 + 2) (Int32.toNatClampNeg ((uI I (v0 + 1) (Int32.toNatClampNeg (I v0 2)) v1) v0 2)) v2) v0 2)) v3) v0 2)) v4) v0 2)) v0 2) + 1) : Int32).toInt = ((I v0 2).toInt) + (1) := ti_add e14 rfl (by omega)
    have hB13 : Bd (uI (uI (uI (uI (uI (uI I (v0 + 1) (Int32.toNatClampNeg (I v0 2)) v1) (v0 + 2) (Int32.toNatClampNeg ((uI I (v0 + 1) (Int32.toNatClampNeg (I v0 2)) v1) v0 2)) v2) (v0 + 3) (Int32.toNatClampNeg ((uI (uI I (v0 + 1) (Int32.toNatClampNeg (I v0 2)) v1) (v0 + 2) (Int32.toNatClampNeg ((uI I (v0 + 1) (Int32.toNatClampNeg (I v0 2)) v1) v0 2)) v2) v0 2)) v3) (v0 + 4) (Int32.toNatClampNeg ((uI (uI (uI I (v0 + 1) (Int32.toNatClampNeg (I v0 2)) v1) (v0 + 2) (Int32.toNatClampNeg ((uI I (v0 + 1) (Int32.toNatClampNeg (I v0 2)) v1) v0 2)) v2) (v0 + 3) (Int32.toNatClampNeg ((uI (uI I (v0 + 1) (Int32.toNatClampNeg (I v0 2)) v1) (v0 + 2) (Int32.toNatClampNeg ((uI I (v0 + 1) (Int32.toNatClampNeg (I v0 2)) v1) v0 2)) v2) v0 2)) v3) v0 2)) v4) (v0 + 5) (Int32.toNatClampNeg ((uI (uI (uI (uI I (v0 + 1) (Int32.toNatClampNeg (I v0 2)) v1) (v0 + 2) (Int32.toNatClampNeg ((uI I (v0 + 1) (Int32.toNatClampNeg (I v0 2)) v1) v0 2)) v2) (v0 + 3) (Int32.toNatClampNeg ((uI (uI I (v0 + 1) (Int32.toNatClampNeg (I v0 2)) v1) (v0 + 2) (Int32.toNatClampNeg ((uI I (v0 + 1) (Int32.toNatClampNeg (I v0 2)) v1) v0 2)) v2) v0 2)) v3) (v0 + 4) (Int32.toNatClampNeg ((uI (uI (uI I (v0 + 1) (Int32.toNatClampNeg (I v0 2)) v1) (v0 + 2) (Int32.toNatClampNeg ((uI I (v0 + 1) (Int32.toNatClampNeg (I v0 2)) v1) v0 2)) v2) (v0 + 3) (Int32.toNatClampNeg ((uI (uI I (v0 + 1) (Int32.toNatClampNeg (I v0 2)) v1) (v0 + 2) (Int32.toNatClampNeg ((uI I (v0 + 1) (Int32.toNatClampNeg (I v0 2)) v1) v0 2)) v2) v0 2)) v3) v0 2)) v4) v0 2)) ((uI (uI (uI (uI I (v0 + 1) (Int32.toNatClampNeg (I v0 2)) v1) (v0 + 2) (Int32.toNatClampNeg ((uI I (v0 + 1) (Int32.toNatClampNeg (I v0 2)) v1) v0 2)) v2) (v0 + 3) (Int32.toNatClampNeg ((uI (uI I (v0 + 1) (Int32.toNatClampNeg (I v0 2)) v1) (v0 + 2) (Int32.toNatClampNeg ((uI I (v0 + 1) (Int32.toNatClampNeg (I v0 2)) v1) v0 2)) v2) v0 2)) v3) (v0 + 4) (Int32.toNatClampNeg ((uI (uI (uI I (v0 + 1) (Int32.toNatClampNeg (I v0 2)) v1) (v0 + 2) (Int32.toNatClampNeg ((uI I (v0 + 1) (Int32.toNatClampNeg (I v0 2)) v1) v0 2)) v2) (v0 + 3) (Int32.toNatClampNeg ((uI (uI I (v0 + 1) (Int32.toNatClampNeg (I v0 2)) v1) (v0 + 2) (Int32.toNatClampNeg ((uI I (v0 + 1) (Int32.toNatClampNeg (I v0 2)) v1) v0 2)) v2) v0 2)) v3) v0 2)) v4) v0 2)) v0 2 (((uI (uI (uI (uI (uI I (v0 + 1) (Int32.toNatClampNeg (I v0 2)) v1) (v0 + 2) (Int32.toNatClampNeg ((uI I (v0 + 1) (Int32.toNatClampNeg (I v0 2)) v1) v0 2)) v2) (v0 + 3) (Int32.toNatClampNeg ((uI (uI I (v0 + 1) (Int32.toNatClampNeg (I v0 2)) v1) (v0 + 2) (Int32.toNatClampNeg ((uI I (v0 + 1) (Int32.toNatClampNeg (I v0 2)) v1) v0 2)) v2) v0 2)) v3) (v0 + 4) (Int32.toNatClampNeg ((uI (uI (uI I (v0 + 1) (Int32.toNatClampNeg (I v0 2)) v1) (v0 + 2) (Int32.toNatClampNeg ((uI I (v0 + 1) (Int32.toNatClampNeg (I v0 2)) v1) v0 2)) v2) (v0 + 3) (Int32.toNatClampNeg ((uI (uI I (v0 + 1) (Int32.toNatClampNeg (I v0 2)) v1) (v0 + 2) (Int32.toNatClampNeg ((uI I (v0 + 1) (Int32.toNatClampNeg (I v0 2)) v1) v0 2)) v2) v0 2)) v3) v0 2)) v4) (v0 + 5) (Int32.toNatClampNeg ((uI (uI (uI (uI I (v0 + 1) (Int32.toNatClampNeg (I v0 2)) v1) (v0 + 2) (Int32.toNatClampNeg ((uI I (v0 + 1) (Int32.toNatClampNeg (I v0 2)) v1) v0 2)) v2) (v0 + 3) (Int32.toNatClampNeg ((uI (uI I (v0 + 1) (Int32.toNatClampNeg (I v0 2)) v1) (v0 + 2) (Int32.toNatClampNeg ((uI I (v0 + 1) (Int32.toNatClampNeg (I v0 2)) v1) v0 2)) v2) v0 2)) v3) (v0 + 4) (Int32.toNatClampNeg ((uI (uI (uI I (v0 + 1) (Int32.toNatClampNeg (I v0 2)) v1) (v0 + 2) (Int32.toNatClampNeg ((uI I (v0 + 1) (Int32.toNatClampNeg (I v0 2)) v1) v0 2)) v2) (v0 + 3) (Int32.toNatClampNeg ((uI (uI I (v0 + 1) (Int32.toNatClampNeg (I v0 2)) v1) (v0 + 2) (Int32.toNatClampNeg ((uI I (v0 + 1) (Int32.toNatClampNeg (I v0 2)) v1) v0 2)) v2) v0 2)) v3) v0 2)) v4) v0 2)) ((uI (uI (uI (uI I (v0 + 1) (Int32.toNatClampNeg (I v0 2)) v1) (v0 + 2) (Int32.toNatClampNeg ((uI I (v0 + 1) (Int32.toNatClampNeg (I v0 2)) v1) v0 2)) v2) (v0 + 3) (Int32.toNatClampNeg ((uI (uI I (v0 + 1) (Int32.toNatClampNeg (I v0 2)) v1) (v0 + 2) (Int32.toNatClampNeg ((uI I (v0 + 1) (Int32.toNatClampNeg (I v0 2)) v1) v0 2)) v2) v0 2)) v3) (v0 + 4) (Int32.toNatClampNeg ((uI (uI (uI I (v0 + 1) (Int32.toNatClampNeg (I v0 2)) v1) (v0 + 2) (Int32.toNatClampNeg ((uI I (v0 + 1) (Int32.toNatClampNeg (I v0 2)) v1) v0 2)) v2) (v0 + 3) (Int32.toNatClampNeg ((uI (uI I (v0 + 1) (Int32.toNatClampNeg (I v0 2)) v1) (v0 + 2) (Int32.toNatClampNeg ((uI I (v0 + 1) (Int32.toNatClampNeg (I v0 2)) v1) v0 2)) v2) v0 2)) v3) v0 2)) v4) v0 2)) v0 2) + 1)) := Bd.o1 hB12 ho0 (by omega) bd9_2_2 (show ((((uI (uI (uI (uI (uI I (v0 + 1) (Int32.toNatClampNeg (I v0 2)) v1) (v0 + 2) (Int32.toNatClampNeg ((uI I (v0 + 1) (Int32.toNatClampNeg (I v0 2)) v1) v0 2)) v2) (v0 + 3) (Int32.toNatClampNeg ((uI (uI I (v0 + 1) (Int32.toNatClampNeg (I v0 2)) v1) (v0 + 2) (Int32.toNatClampNeg ((uI I (v0 + 1) (Int32.toNatClampNeg (I v0 2)) v1) v0 2)) v2) v0 2)) v3) (v0 + 4) (Int32.toNatClampNeg ((uI (uI (uI I (v0 + 1) (Int32.toNatClampNeg (I v0 2)) v1) (v0 + 2) (Int32.toNatClampNeg ((uI I (v0 + 1) (Int32.toNatClampNeg (I v0 2)) v1) v0 2)) v2) (v0 + 3) (Int32.toNatClampNeg ((uI (uI I (v0 + 1) (Int32.toNatClampNeg (I v0 2)) v1) (v0 + 2) (Int32.toNatClampNeg ((uI I (v0 + 1) (Int32.toNatClampNeg (I v0 2)) v1) v0 2)) v2) v0 2)) v3) v0 2)) v4) (v0 + 5) (Int32.toNatClampNeg ((uI (uI (uI (uI I (v0 + 1) (Int32.toNatClampNeg (I v0 2)) v1) (v0 + 2) (Int32.toNatClampNeg ((uI I (v0 + 1) (Int32.toNatClampNeg (I v0 2)) v1) v0 2)) v2) (v0 + 3) (Int32.toNatClampNeg ((uI (uI I (v0 + 1) (Int32.toNatClampNeg (I v0 2)) v1) (v0 + 2) (Int32.toNatClampNeg ((uI I (v0 + 1) (Int32.toNatClampNeg (I v0 2)) v1) v0 2)) v2) v0 2)) v3) (v0 + 4) (Int32.toNatClampNeg ((uI (uI (uI I (v0 + 1) (Int32.toNatClampNeg (I v0 2)) v1) (v0 + 2) (Int32.toNatClampNeg ((uI I (v0 + 1) (Int32.toNatClampNeg (I v0 2)) v1) v0 2)) v2) (v0 + 3) (Int32.toNatClampNeg ((uI (uI I (v0 + 1) (Int32.toNatClampNeg (I v0 2)) v1) (v0 + 2) (Int32.toNatClampNeg ((uI I (v0 + 1) (Int32.toNatClampNeg (I v0 2)) v1) v0 2)) v2) v0 2)) v3) v0 2)) v4) v0 2)) ((uI (uI (uI (uI I (v0 + 1) (Int32.toNatClampNeg (I v0 2)) v1) (v0 + 2) (Int32.toNatClampNeg ((uI I (v0 + 1) (Int32.toNatClampNeg (I v0 2)) v1) v0 2)) v2) (v0 + 3) (Int32.toNatClampNeg ((uI (uI I (v0 + 1) (Int32.toNatClampNeg (I v0 2)) v1) (v0 + 2) (Int32.toNatClampNeg ((uI I (v0 + 1) (Int32.toNatClampNeg (I v0 2)) v1) v0 2)) v2) v0 2)) v3) (v0 + 4) (Int32.toNatClampNeg ((uI (uI (uI I (v0 + 1) (Int32.toNatClampNeg (I v0 2)) v1) (v0 + 2) (Int32.toNatClampNeg ((uI I (v0 + 1) (Int32.toNatClampNeg (I v0 2)) v1) v0 2)) v2) (v0 + 3) (Int32.toNatClampNeg ((uI (uI I (v0 + 1) (Int32.toNatClampNeg (I v0 2)) v1) (v0 + 2) (Int32.toNatClampNeg ((uI I (v0 + 1) (Int32.toNatClampNeg (I v0 2)) v1) v0 2)) v2) v0 2)) v3) v0 2)) v4) v0 2)) v0 2) + 1) : Int32).toInt = ((I v0 2).toInt + 1) from e15) (by omega)
    refine ⟨Or.inr rfl, ?_⟩
    exact hQ _ _ _ _ hB13 (Eq.trans (Eq.trans (Eq.trans (Eq.trans (Eq.trans (rd_ne (cne (clO io9_112_7_3) (clO ho0) rfl)) (rd_ne (cne (clO io9_112_7_3) (clA (fa_2_7 ho0).1) rfl))) (rd_ne (cne (clO io9_112_7_3) (clA (fa_2_6 ho0).1) rfl))) (rd_ne (cne (clO io9_112_7_3) (clA (fa_2_5 ho0).1) rfl))) (rd_ne (cne (clO io9_112_7_3) (clA (fa_2_4 ho0).1) rfl))) (rd_ne (cne (clO io9_112_7_3) (clA (fa_2_3 ho0).1) rfl)))
  · skip
    have b16 := Bd.o hB0 ho0 bd9_2_2
    have d17 : ((60) : Int) ≤ ((I v0 2).toInt) := ci_nlt rfl rfl c1
    refine ⟨Or.inl rfl, ?_⟩
    exact hQ _ _ _ _ hB0 rfl
set_option maxHeartbeats 2000000 in
theorem sp_X2_pair {d : Nat} {Q : Qt} {v0 : Nat} {v1 : Int32} {v2 : Int32} {I : Im} {J : Jm} {R : Rm} (hB0 : Bd I) (hR0 : RI R) (ho0 : isO 112 v0 2 = true) (hQ : ∀ (x : Int32) (y : Int64) (I2 : Im) (J2 : Jm), Bd I2 → (I2 7 1 = I 7 1) → Q x y I2 J2 R) : AM (d + 1) 31 112 [.ref v0, .int v1, .int v2] I J R Q := by
  have i_v1 := i32 v1
  have i_v2 := i32 v2
  refine w_X2_pair ?_
  refine ⟨fun c1 => ?_, fun c1 => ?_⟩
  · skip
    have d2 : ((v1.toInt) : Int) < (0) := ci_lt rfl rfl c1
    exact hQ _ _ _ _ hB0 rfl
  · skip
    have d3 : ((0) : Int) ≤ (v1.toInt) := ci_nlt rfl rfl c1
    refine bif_t ho0 ?_
    refine ⟨fun c4 => ?_, fun c4 => ?_⟩
    · skip
      have b5 := Bd.o hB0 ho0 bd9_2_2
      have d6 : (((I v0 2).toInt) : Int) ≤ (v1.toInt) := ci_le rfl rfl c4
      exact hQ _ _ _ _ hB0 rfl
    · skip
      have b7 := Bd.o hB0 ho0 bd9_2_2
      have d8 : ((v1.toInt) : Int) < ((I v0 2).toInt) := ci_nle rfl rfl c4
      refine ⟨fun c9 => ?_, fun c9 => ?_⟩
      · skip
        have d10 : ((v2.toInt) : Int) < (0) := ci_lt rfl rfl c9
        exact hQ _ _ _ _ hB0 rfl
      · skip
        have d11 : ((0) : Int) ≤ (v2.toInt) := ci_nlt rfl rfl c9
        refine bif_t ho0 ?_
        refine ⟨fun c12 => ?_, fun c12 => ?_⟩
        · skip
          have d13 : (((I v0 2).toInt) : Int) ≤ (v2.toInt) := ci_le rfl rfl c12
          exact hQ _ _ _ _ hB0 rfl
        · skip
          have d14 : ((v2.toInt) : Int) < ((I v0 2).toInt) := ci_nle rfl rfl c12
          refine bif_t ho0 ?_
          refine bif_t (fa_2_7 ho0).1 ?_
          refine ⟨by rw [(fa_2_7 ho0).2.1]; exact vp_of (a := v1.toInt) rfl (by omega) (by omega), ?_⟩
          have hB15 : Bd (uI I (v0 + 5) (Int32.toNatClampNeg v1) v2) := Bd.a0 hB0 (fa_2_7 ho0).1 (fa_2_7 ho0).2.2
          refine bif_t ho0 ?_
          refine bif_t (fa_2_7 ho0).1 ?_
          refine ⟨by rw [(fa_2_7 ho0).2.1]; exact vp_of (a := v2.toInt) rfl (by omega) (by omega), ?_⟩
          have hB16 : Bd (uI (uI I (v0 + 5) (Int32.toNatClampNeg v1) v2) (v0 + 5) (Int32.toNatClampNeg v2) v1) := Bd.a0 hB15 (fa_2_7 ho0).1 (fa_2_7 ho0).2.2
          exact hQ _ _ _ _ hB16 (Eq.trans (rd_ne (cne (clO io9_112_7_3) (clA (fa_2_7 ho0).1) rfl)) (rd_ne (cne (clO io9_112_7_3) (clA (fa_2_7 ho0).1) rfl)))
set_option maxHeartbeats 2000000 in
theorem sp_X1_takeSlices {d : Nat} {Q : Qt} {I : Im} {J : Jm} {R : Rm} (hB0 : Bd I) (hR0 : RI R) (hQ : ∀ (x : Int32) (y : Int64) (I2 : Im) (J2 : Jm), Bd I2 → (True) → Q x y I2 J2 R) : AM (d + 4) 26 112 [.ref 3] I J R Q := by
  refine am_X1_takeSlices (fun P hc => ?_)
  have L : ∀ n : Nat, (∀ (v1 : Int32) (v2 : Int32) (M : Im) (JM : Jm), Bd M → (0 ≤ v2.toInt ∧ v2.toInt ≤ 31) → 40 - v2.toInt < (n : Int) → P 4 112 [(0, .ref 3), (1, .int v1), (2, .int v2)] [] M JM R) := by
    intro n
    induction n with
    | zero =>
      exact fun v1 v2 M J _ hi hm => absurd hm (by omega)
    | succ n ih =>
      intro v1 v2 M JM hB hi hm
      have i_v1 := i32 v1
      have i_v2 := i32 v2
      refine sg_X1_takeSlices_4 hc _ _ _ _ _ ?_
      refine ⟨fun c1 => ?_, fun c1 => ?_⟩
      · skip
        have d2 : ((30) : Int) < (v2.toInt) := ci_lt rfl rfl c1
        exact hQ _ _ _ _ hB trivial
      · skip
        have d3 : ((v2.toInt) : Int) ≤ (30) := ci_nlt rfl rfl c1
        refine ⟨fun c4 => ?_, fun c4 => ?_⟩
        · skip
          have d5 : ¬ (((M 3 12).toInt) : Int) = (0) := ci_ne rfl rfl c4
          exact hQ _ _ _ _ hB trivial
        · skip
          have d6 : (((M 3 12).toInt) : Int) = (0) := ci_eq rfl rfl c4
          refine ⟨fun c7 => ?_, fun c7 => ?_⟩
          · skip
            have d8 : ¬ (((M 3 8).toInt) : Int) = (2) := ci_ne rfl rfl c7
            exact hQ _ _ _ _ hB trivial
          · skip
            have d9 : (((M 3 8).toInt) : Int) = (2) := ci_eq rfl rfl c7
            refine sp_X6_takeNumber hB hR0 (fun x10 y15 I11 J12 hB13 p14 => ?_)
            have i16 := i32 x10
            refine w_X11_isSlice ?_
            refine ⟨fun c17 => ?_, fun c17 => ?_⟩
            · skip
              have d18 : ((x10.toInt) : Int) < (1) := ci_lt rfl rfl c17
              refine ⟨Or.inl rfl, ?_⟩
              intro o19
              refine ⟨fun c20 => ?_, fun c20 => ?_⟩
              · skip
                refine w_X11_isSlice ?_
                refine ⟨fun c21 => ?_, fun c21 => ?_⟩
                · skip
                  have d22 : ((x10.toInt) : Int) < (1) := ci_lt rfl rfl c21
                  refine ⟨Or.inl rfl, ?_⟩
                  intro o23
                  refine ⟨fun c24 => ?_, fun c24 => ?_⟩
                  · skip
                    have e25 : ((v2 + 1) : Int32).toInt = (v2.toInt) + (1) := ti_add rfl rfl (by omega)
                    exact ih _ _ _ _ hB13 (by have q0 : ((v2 + 1) : Int32).toInt = (v2.toInt + 1) := e25; omega) (by have q0 : ((v2 + 1) : Int32).toInt = (v2.toInt + 1) := e25; omega)
                  · exact absurd c24 (by decide)
                · skip
                  have d26 : ((1) : Int) ≤ (x10.toInt) := ci_nlt rfl rfl c21
                  refine ⟨fun c27 => ?_, fun c27 => ?_⟩
                  · skip
                    have d28 : ((30) : Int) < (x10.toInt) := ci_lt rfl rfl c27
                    refine ⟨Or.inl rfl, ?_⟩
                    intro o29
                    refine ⟨fun c30 => ?_, fun c30 => ?_⟩
                    · skip
                      have e31 : ((v2 + 1) : Int32).toInt = (v2.toInt) + (1) := ti_add rfl rfl (by omega)
                      exact ih _ _ _ _ hB13 (by have q0 : ((v2 + 1) : Int32).toInt = (v2.toInt + 1) := e31; omega) (by have q0 : ((v2 + 1) : Int32).toInt = (v2.toInt + 1) := e31; omega)
                    · exact absurd c30 (by decide)
                  · skip
                    have d32 : ((x10.toInt) : Int) ≤ (30) := ci_nlt rfl rfl c27
                    refine ⟨Or.inr rfl, ?_⟩
                    intro o33
                    refine ⟨fun c34 => ?_, fun c34 => ?_⟩
                    · exact absurd c34 (by decide)
                    · skip
                      refine w_X11_bit ?_
                      have e35 : ((v2 + 1) : Int32).toInt = (v2.toInt) + (1) := ti_add rfl rfl (by omega)
                      exact ih _ _ _ _ hB13 (by have q0 : ((v2 + 1) : Int32).toInt = (v2.toInt + 1) := e35; omega) (by have q0 : ((v2 + 1) : Int32).toInt = (v2.toInt + 1) := e35; omega)
              · exact absurd c20 (by decide)
            · skip
              have d36 : ((1) : Int) ≤ (x10.toInt) := ci_nlt rfl rfl c17
              refine ⟨fun c37 => ?_, fun c37 => ?_⟩
              · skip
                have d38 : ((30) : Int) < (x10.toInt) := ci_lt rfl rfl c37
                refine ⟨Or.inl rfl, ?_⟩
                intro o39
                refine ⟨fun c40 => ?_, fun c40 => ?_⟩
                · skip
                  refine w_X11_isSlice ?_
                  refine ⟨fun c41 => ?_, fun c41 => ?_⟩
                  · skip
                    have d42 : ((x10.toInt) : Int) < (1) := ci_lt rfl rfl c41
                    refine ⟨Or.inl rfl, ?_⟩
                    intro o43
                    refine ⟨fun c44 => ?_, fun c44 => ?_⟩
                    · skip
                      have e45 : ((v2 + 1) : Int32).toInt = (v2.toInt) + (1) := ti_add rfl rfl (by omega)
                      exact ih _ _ _ _ hB13 (by have q0 : ((v2 + 1) : Int32).toInt = (v2.toInt + 1) := e45; omega) (by have q0 : ((v2 + 1) : Int32).toInt = (v2.toInt + 1) := e45; omega)
                    · exact absurd c44 (by decide)
                  · skip
                    have d46 : ((1) : Int) ≤ (x10.toInt) := ci_nlt rfl rfl c41
                    refine ⟨fun c47 => ?_, fun c47 => ?_⟩
                    · skip
                      have d48 : ((30) : Int) < (x10.toInt) := ci_lt rfl rfl c47
                      refine ⟨Or.inl rfl, ?_⟩
                      intro o49
                      refine ⟨fun c50 => ?_, fun c50 => ?_⟩
                      · skip
                        have e51 : ((v2 + 1) : Int32).toInt = (v2.toInt) + (1) := ti_add rfl rfl (by omega)
                        exact ih _ _ _ _ hB13 (by have q0 : ((v2 + 1) : Int32).toInt = (v2.toInt + 1) := e51; omega) (by have q0 : ((v2 + 1) : Int32).toInt = (v2.toInt + 1) := e51; omega)
                      · exact absurd c50 (by decide)
                    · skip
                      have d52 : ((x10.toInt) : Int) ≤ (30) := ci_nlt rfl rfl c47
                      refine ⟨Or.inr rfl, ?_⟩
                      intro o53
                      refine ⟨fun c54 => ?_, fun c54 => ?_⟩
                      · exact absurd c54 (by decide)
                      · skip
                        refine w_X11_bit ?_
                        have e55 : ((v2 + 1) : Int32).toInt = (v2.toInt) + (1) := ti_add rfl rfl (by omega)
                        exact ih _ _ _ _ hB13 (by have q0 : ((v2 + 1) : Int32).toInt = (v2.toInt + 1) := e55; omega) (by have q0 : ((v2 + 1) : Int32).toInt = (v2.toInt + 1) := e55; omega)
                · exact absurd c40 (by decide)
              · skip
                have d56 : ((x10.toInt) : Int) ≤ (30) := ci_nlt rfl rfl c37
                refine ⟨Or.inr rfl, ?_⟩
                intro o57
                refine ⟨fun c58 => ?_, fun c58 => ?_⟩
                · exact absurd c58 (by decide)
                · skip
                  refine w_X11_isIn ?_
                  refine ⟨fun c59 => ?_, fun c59 => ?_⟩
                  · skip
                    have d60 : ((((v1 &&& (1 <<< ((x10 - 1) &&& 31))) : Int32).toInt) : Int) = (0) := ci_eq rfl rfl c59
                    refine ⟨Or.inl rfl, ?_⟩
                    intro o61
                    refine ⟨fun c62 => ?_, fun c62 => ?_⟩
                    · skip
                      refine w_X11_isSlice ?_
                      refine ⟨fun c63 => ?_, fun c63 => ?_⟩
                      · skip
                        have d64 : ((x10.toInt) : Int) < (1) := ci_lt rfl rfl c63
                        refine ⟨Or.inl rfl, ?_⟩
                        intro o65
                        refine ⟨fun c66 => ?_, fun c66 => ?_⟩
                        · skip
                          have e67 : ((v2 + 1) : Int32).toInt = (v2.toInt) + (1) := ti_add rfl rfl (by omega)
                          exact ih _ _ _ _ hB13 (by have q0 : ((v2 + 1) : Int32).toInt = (v2.toInt + 1) := e67; omega) (by have q0 : ((v2 + 1) : Int32).toInt = (v2.toInt + 1) := e67; omega)
                        · exact absurd c66 (by decide)
                      · skip
                        have d68 : ((1) : Int) ≤ (x10.toInt) := ci_nlt rfl rfl c63
                        refine ⟨fun c69 => ?_, fun c69 => ?_⟩
                        · skip
                          have d70 : ((30) : Int) < (x10.toInt) := ci_lt rfl rfl c69
                          refine ⟨Or.inl rfl, ?_⟩
                          intro o71
                          refine ⟨fun c72 => ?_, fun c72 => ?_⟩
                          · skip
                            have e73 : ((v2 + 1) : Int32).toInt = (v2.toInt) + (1) := ti_add rfl rfl (by omega)
                            exact ih _ _ _ _ hB13 (by have q0 : ((v2 + 1) : Int32).toInt = (v2.toInt + 1) := e73; omega) (by have q0 : ((v2 + 1) : Int32).toInt = (v2.toInt + 1) := e73; omega)
                          · exact absurd c72 (by decide)
                        · skip
                          have d74 : ((x10.toInt) : Int) ≤ (30) := ci_nlt rfl rfl c69
                          refine ⟨Or.inr rfl, ?_⟩
                          intro o75
                          refine ⟨fun c76 => ?_, fun c76 => ?_⟩
                          · exact absurd c76 (by decide)
                          · skip
                            refine w_X11_bit ?_
                            have e77 : ((v2 + 1) : Int32).toInt = (v2.toInt) + (1) := ti_add rfl rfl (by omega)
                            exact ih _ _ _ _ hB13 (by have q0 : ((v2 + 1) : Int32).toInt = (v2.toInt + 1) := e77; omega) (by have q0 : ((v2 + 1) : Int32).toInt = (v2.toInt + 1) := e77; omega)
                    · exact absurd c62 (by decide)
                  · skip
                    have d78 : ¬ ((((v1 &&& (1 <<< ((x10 - 1) &&& 31))) : Int32).toInt) : Int) = (0) := ci_ne rfl rfl c59
                    refine ⟨Or.inr rfl, ?_⟩
                    intro o79
                    refine ⟨fun c80 => ?_, fun c80 => ?_⟩
                    · exact absurd c80 (by decide)
                    · skip
                      refine w_X6_wrongTaken ?_
                      refine w_X6_wrong ?_
                      have hB81 : Bd (uI I11 3 12 5) := Bd.o0 hB13 io9_112_3_6 (by omega) bd9_6_12
                      have hB82 : Bd (uI (uI I11 3 12 5) 3 13 (I11 3 7)) := Bd.o0 hB81 io9_112_3_6 (by omega) bd9_6_13
                      refine ⟨Or.inl rfl, ?_⟩
                      intro o83
                      refine ⟨Or.inl rfl, ?_⟩
                      intro o84
                      have e85 : ((v2 + 1) : Int32).toInt = (v2.toInt) + (1) := ti_add rfl rfl (by omega)
                      exact ih _ _ _ _ hB82 (by have q0 : ((v2 + 1) : Int32).toInt = (v2.toInt + 1) := e85; omega) (by have q0 : ((v2 + 1) : Int32).toInt = (v2.toInt + 1) := e85; omega)
  refine sg_X1_takeSlices_0 hc _ _ _ ?_
  exact (L 1000000) _ _ _ _ hB0 (by have q0 : (0 : Int32).toInt = 0 := rfl; omega) (by have q0 : (0 : Int32).toInt = 0 := rfl; omega)
