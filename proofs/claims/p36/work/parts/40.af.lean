set_option maxHeartbeats 2000000 in
theorem sp_X4_act {d : Nat} {Q : Qt} {v0 : Nat} {v1 : Nat} {v2 : Nat} {v3 : Int32} {I : Im} {J : Jm} {R : Rm} (hB0 : Bd I) (hR0 : RI R) (ho0 : isO 112 v0 4 = true) (ho1 : isO 112 v1 0 = true) (ho2 : isO 112 v2 2 = true) (hv3 : 0 ≤ v3.toInt ∧ v3.toInt ≤ 59) (hQ : ∀ (x : Int32) (y : Int64) (I2 : Im) (J2 : Jm), Bd I2 → (True) → Q x y I2 J2 R) : AM (d + 4) 46 112 [.ref v0, .ref v1, .ref v2, .int v3] I J R Q := by
  have i_v3 := i32 v3
  refine w_X4_act ?_
  refine bif_t ho2 ?_
  refine bif_t (fa_2_4 ho2).1 ?_
  refine ⟨by rw [(fa_2_4 ho2).2.1]; exact vp_of (a := v3.toInt) rfl (by omega) (by omega), ?_⟩
  refine bif_t ho2 ?_
  refine bif_t (fa_2_5 ho2).1 ?_
  refine ⟨by rw [(fa_2_5 ho2).2.1]; exact vp_of (a := v3.toInt) rfl (by omega) (by omega), ?_⟩
  refine bif_t ho2 ?_
  refine bif_t (fa_2_3 ho2).1 ?_
  refine ⟨by rw [(fa_2_3 ho2).2.1]; exact vp_of (a := v3.toInt) rfl (by omega) (by omega), ?_⟩
  refine ⟨fun c1 => ?_, fun c1 => ?_⟩
  · skip
    have d2 : (((I (v2 + 1) (Int32.toNatClampNeg v3)).toInt) : Int) = (9) := ci_eq rfl rfl c1
    refine bif_t ho2 ?_
    refine bif_t (fa_2_6 ho2).1 ?_
    refine ⟨by rw [(fa_2_6 ho2).2.1]; exact vp_of (a := v3.toInt) rfl (by omega) (by omega), ?_⟩
    refine bif_t ho0 ?_
    refine sp_X4_cutUp hB0 hR0 ho0 ho1 (fun x3 y8 I4 J5 hB6 p7 => ?_)
    intro o9
    have i10 := i32 x3
    refine ⟨o9, ?_⟩
    exact hQ _ _ _ _ hB6 trivial
  · skip
    have d11 : ¬ (((I (v2 + 1) (Int32.toNatClampNeg v3)).toInt) : Int) = (9) := ci_ne rfl rfl c1
    refine ⟨fun c12 => ?_, fun c12 => ?_⟩
    · skip
      have d13 : (((I (v2 + 1) (Int32.toNatClampNeg v3)).toInt) : Int) = (10) := ci_eq rfl rfl c12
      refine bif_t ho0 ?_
      refine sp_X4_splitUp hB0 hR0 ho0 ho1 (fun x14 y19 I15 J16 hB17 p18 => ?_)
      intro o20
      have i21 := i32 x14
      refine ⟨o20, ?_⟩
      exact hQ _ _ _ _ hB17 trivial
    · skip
      have d22 : ¬ (((I (v2 + 1) (Int32.toNatClampNeg v3)).toInt) : Int) = (10) := ci_ne rfl rfl c12
      refine ⟨fun c23 => ?_, fun c23 => ?_⟩
      · skip
        have d24 : (((I (v2 + 1) (Int32.toNatClampNeg v3)).toInt) : Int) = (11) := ci_eq rfl rfl c23
        refine bif_t ho0 ?_
        refine sp_X4_handOver hB0 hR0 ho0 ho1 (fun x25 y30 I26 J27 hB28 p29 => ?_)
        intro o31
        have i32 := i32 x25
        refine ⟨o31, ?_⟩
        exact hQ _ _ _ _ hB28 trivial
      · skip
        have d33 : ¬ (((I (v2 + 1) (Int32.toNatClampNeg v3)).toInt) : Int) = (11) := ci_ne rfl rfl c23
        refine ⟨fun c34 => ?_, fun c34 => ?_⟩
        · skip
          have d35 : (((I (v2 + 1) (Int32.toNatClampNeg v3)).toInt) : Int) = (12) := ci_eq rfl rfl c34
          refine bif_t ho1 ?_
          refine sp_X0_handBack hB0 hR0 ho1 (fun x36 y41 I37 J38 hB39 p40 => ?_)
          have i42 := i32 x36
          refine ⟨fun c43 => ?_, fun c43 => ?_⟩
          · skip
            have d44 : ¬ ((x36.toInt) : Int) = (0) := ci_ne rfl rfl c43
            refine ⟨Or.inl rfl, ?_⟩
            exact hQ _ _ _ _ hB39 trivial
          · skip
            have d45 : ((x36.toInt) : Int) = (0) := ci_eq rfl rfl c43
            refine ⟨Or.inr rfl, ?_⟩
            exact hQ _ _ _ _ hB39 trivial
        · skip
          have d46 : ¬ (((I (v2 + 1) (Int32.toNatClampNeg v3)).toInt) : Int) = (12) := ci_ne rfl rfl c34
          refine bif_t ho0 ?_
          refine sp_X4_addLoaves hB0 hR0 ho0 ho1 (fun x47 y52 I48 J49 hB50 p51 => ?_)
          intro o53
          have i54 := i32 x47
          refine ⟨o53, ?_⟩
          exact hQ _ _ _ _ hB50 trivial
set_option maxHeartbeats 2000000 in
theorem sp_X4_behindEnd {d : Nat} {Q : Qt} {v0 : Nat} {v1 : Nat} {v2 : Int32} {I : Im} {J : Jm} {R : Rm} (hB0 : Bd I) (hR0 : RI R) (ho0 : isO 112 v0 4 = true) (ho1 : isO 112 v1 2 = true) (hv2 : 0 ≤ v2.toInt ∧ v2.toInt ≤ 59) (hQ : ∀ (x : Int32) (y : Int64) (I2 : Im) (J2 : Jm), Bd I2 → (True) → Q x y I2 J2 R) : AM (d + 1) 42 112 [.ref v0, .ref v1, .int v2] I J R Q := by
  have i_v2 := i32 v2
  refine am_X4_behindEnd (fun P hc => ?_)
  have L : ∀ n : Nat, (∀ (v3 : Int32) (M : Im) (JM : Jm), Bd M → (0 ≤ v2.toInt ∧ v2.toInt ≤ 59) → 1 < (n : Int) → P 20 112 [(0, .ref v0), (1, .ref v1), (2, .int v2), (3, .int v3)] [] M JM R) := by
    intro n
    induction n with
    | zero =>
      exact fun v3 M J _ hi hm => absurd hm (by omega)
    | succ n ih =>
      intro v3 M JM hB hi hm
      have i_v2 := i32 v2
      have i_v3 := i32 v3
      refine sg_X4_behindEnd_20 hc _ _ _ _ _ _ _ ?_
      refine ⟨fun c1 => ?_, fun c1 => ?_⟩
      · skip
        exact hQ _ _ _ _ hB trivial
      · exact absurd c1 (by decide)
  refine sg_X4_behindEnd_0 hc _ _ _ _ _ _ ?_
  refine bif_t ho1 ?_
  refine bif_t (fa_2_7 ho1).1 ?_
  refine ⟨by rw [(fa_2_7 ho1).2.1]; exact vp_of (a := v2.toInt) rfl (by omega) (by omega), ?_⟩
  refine ⟨fun c2 => ?_, fun c2 => ?_⟩
  · skip
    have d3 : (((I (v1 + 5) (Int32.toNatClampNeg v2)).toInt) : Int) < (0) := ci_lt rfl rfl c2
    exact (L 1000000) _ _ _ hB0 (by omega) (by omega)
  · skip
    have d4 : ((0) : Int) ≤ ((I (v1 + 5) (Int32.toNatClampNeg v2)).toInt) := ci_nlt rfl rfl c2
    refine ⟨fun c5 => ?_, fun c5 => ?_⟩
    · skip
      have d6 : ((v2.toInt) : Int) ≤ ((I (v1 + 5) (Int32.toNatClampNeg v2)).toInt) := ci_le rfl rfl c5
      exact (L 1000000) _ _ _ hB0 (by omega) (by omega)
    · skip
      have d7 : (((I (v1 + 5) (Int32.toNatClampNeg v2)).toInt) : Int) < (v2.toInt) := ci_nle rfl rfl c5
      refine ⟨fun c8 => ?_, fun c8 => ?_⟩
      · exact absurd c8 (by decide)
      · skip
        refine bif_t ho1 ?_
        refine bif_t (fa_2_3 ho1).1 ?_
        refine ⟨by rw [(fa_2_3 ho1).2.1]; exact vp_of (a := (I (v1 + 5) (Int32.toNatClampNeg v2)).toInt) rfl (by omega) (by omega), ?_⟩
        refine ⟨fun c9 => ?_, fun c9 => ?_⟩
        · skip
          have d10 : ¬ (((I (v1 + 1) (Int32.toNatClampNeg (I (v1 + 5) (Int32.toNatClampNeg v2)))).toInt) : Int) = (19) := ci_ne rfl rfl c9
          exact hQ _ _ _ _ hB0 trivial
        · skip
          have d11 : (((I (v1 + 1) (Int32.toNatClampNeg (I (v1 + 5) (Int32.toNatClampNeg v2)))).toInt) : Int) = (19) := ci_eq rfl rfl c9
          refine bif_t ho0 ?_
          refine bif_t (fa_4_8 ho0).1 ?_
          refine ⟨by rw [(fa_4_8 ho0).2.1]; exact vp_of (a := (I (v1 + 5) (Int32.toNatClampNeg v2)).toInt) rfl (by omega) (by omega), ?_⟩
          refine ⟨fun c12 => ?_, fun c12 => ?_⟩
          · skip
            have d13 : (((I (v0 + 1) (Int32.toNatClampNeg (I (v1 + 5) (Int32.toNatClampNeg v2)))).toInt) : Int) ≤ (1) := ci_le rfl rfl c12
            exact hQ _ _ _ _ hB0 trivial
          · skip
            have d14 : ((1) : Int) < ((I (v0 + 1) (Int32.toNatClampNeg (I (v1 + 5) (Int32.toNatClampNeg v2)))).toInt) := ci_nle rfl rfl c12
            refine bif_t ho0 ?_
            refine bif_t (fa_4_8 ho0).1 ?_
            refine ⟨by rw [(fa_4_8 ho0).2.1]; exact vp_of (a := (I (v1 + 5) (Int32.toNatClampNeg v2)).toInt) rfl (by omega) (by omega), ?_⟩
            refine bif_t (fa_4_8 ho0).1 ?_
            refine ⟨by rw [(fa_4_8 ho0).2.1]; exact vp_of (a := (I (v1 + 5) (Int32.toNatClampNeg v2)).toInt) rfl (by omega) (by omega), ?_⟩
            have hB15 : Bd (uI I (v0 + 1) (Int32.toNatClampNeg (I (v1 + 5) (Int32.toNatClampNeg v2))) ((I (v0 + 1) (Int32.toNatClampNeg (I (v1 + 5) (Int32.toNatClampNeg v2)))) - 1)) := Bd.a0 hB0 (fa_4_8 ho0).1 (fa_4_8 ho0).2.2
            exact hQ _ _ _ _ hB15 trivial
set_option maxHeartbeats 2000000 in
theorem sp_X4_behindStep {d : Nat} {Q : Qt} {v0 : Nat} {v1 : Nat} {v2 : Nat} {v3 : Int32} {I : Im} {J : Jm} {R : Rm} (hB0 : Bd I) (hR0 : RI R) (ho0 : isO 112 v0 4 = true) (ho1 : isO 112 v1 0 = true) (ho2 : isO 112 v2 2 = true) (hv3 : 0 ≤ v3.toInt ∧ v3.toInt ≤ 59) (hQ : ∀ (x : Int32) (y : Int64) (I2 : Im) (J2 : Jm), Bd I2 → (True) → Q x y I2 J2 R) : AM (d + 5) 43 112 [.ref v0, .ref v1, .ref v2, .int v3] I J R Q := by
  have i_v3 := i32 v3
  refine w_X4_behindStep ?_
  refine bif_t ho2 ?_
  refine bif_t (fa_2_3 ho2).1 ?_
  refine ⟨by rw [(fa_2_3 ho2).2.1]; exact vp_of (a := v3.toInt) rfl (by omega) (by omega), ?_⟩
  refine ⟨fun c1 => ?_, fun c1 => ?_⟩
  · skip
    have d2 : (((I (v2 + 1) (Int32.toNatClampNeg v3)).toInt) : Int) = (14) := ci_eq rfl rfl c1
    refine bif_t ho0 ?_
    refine bif_t ho0 ?_
    refine sp_X4_doAny hB0 hR0 ho0 ho1 (fun x3 y8 I4 J5 hB6 p7 => ?_)
    intro o9
    have i10 := i32 x3
    refine ⟨fun c11 => ?_, fun c11 => ?_⟩
    · skip
      have d12 : ((x3.toInt) : Int) = (0) := ci_eq rfl rfl c11
      refine bif_t ho0 ?_
      have hB13 : Bd (uI I4 v0 2 ((I v0 2) + 1)) := Bd.o0 hB6 ho0 (by omega) bd9_4_2
      exact hQ _ _ _ _ hB13 trivial
    · skip
      have d14 : ¬ ((x3.toInt) : Int) = (0) := ci_ne rfl rfl c11
      refine bif_t ho0 ?_
      have hB15 : Bd (uI I4 v0 2 ((I v0 2) + 0)) := Bd.o0 hB6 ho0 (by omega) bd9_4_2
      exact hQ _ _ _ _ hB15 trivial
  · skip
    have d16 : ¬ (((I (v2 + 1) (Int32.toNatClampNeg v3)).toInt) : Int) = (14) := ci_ne rfl rfl c1
    refine ⟨fun c17 => ?_, fun c17 => ?_⟩
    · skip
      have d18 : (((I (v2 + 1) (Int32.toNatClampNeg v3)).toInt) : Int) = (15) := ci_eq rfl rfl c17
      refine bif_t ho0 ?_
      refine bif_t ho0 ?_
      refine sp_X4_act hB0 hR0 ho0 ho1 ho2 (by have z : (v3 : Int32).toInt = v3.toInt := rfl; omega) (fun x19 y24 I20 J21 hB22 p23 => ?_)
      intro o25
      have i26 := i32 x19
      refine ⟨fun c27 => ?_, fun c27 => ?_⟩
      · skip
        have d28 : ((x19.toInt) : Int) = (0) := ci_eq rfl rfl c27
        refine bif_t ho0 ?_
        have hB29 : Bd (uI I20 v0 2 ((I v0 2) + 1)) := Bd.o0 hB22 ho0 (by omega) bd9_4_2
        exact hQ _ _ _ _ hB29 trivial
      · skip
        have d30 : ¬ ((x19.toInt) : Int) = (0) := ci_ne rfl rfl c27
        refine bif_t ho0 ?_
        have hB31 : Bd (uI I20 v0 2 ((I v0 2) + 0)) := Bd.o0 hB22 ho0 (by omega) bd9_4_2
        exact hQ _ _ _ _ hB31 trivial
    · skip
      have d32 : ¬ (((I (v2 + 1) (Int32.toNatClampNeg v3)).toInt) : Int) = (15) := ci_ne rfl rfl c17
      refine ⟨fun c33 => ?_, fun c33 => ?_⟩
      · skip
        have d34 : (((I (v2 + 1) (Int32.toNatClampNeg v3)).toInt) : Int) = (16) := ci_eq rfl rfl c33
        refine sp_X4_holdsTrue hB0 hR0 ho1 ho2 (by have z : (v3 : Int32).toInt = v3.toInt := rfl; omega) (fun x35 y40 I36 J37 hB38 p39 => ?_)
        intro o41
        have i42 := i32 x35
        refine ⟨fun c43 => ?_, fun c43 => ?_⟩
        · skip
          have d44 : ((x35.toInt) : Int) = (0) := ci_eq rfl rfl c43
          refine bif_t ho2 ?_
          refine bif_t (fa_2_7 ho2).1 ?_
          refine ⟨by rw [(fa_2_7 ho2).2.1]; exact vp_of (a := v3.toInt) rfl (by omega) (by omega), ?_⟩
          exact hQ _ _ _ _ hB38 trivial
        · skip
          have d45 : ¬ ((x35.toInt) : Int) = (0) := ci_ne rfl rfl c43
          exact hQ _ _ _ _ hB38 trivial
      · skip
        have d46 : ¬ (((I (v2 + 1) (Int32.toNatClampNeg v3)).toInt) : Int) = (16) := ci_ne rfl rfl c33
        refine ⟨fun c47 => ?_, fun c47 => ?_⟩
        · skip
          have d48 : (((I (v2 + 1) (Int32.toNatClampNeg v3)).toInt) : Int) = (17) := ci_eq rfl rfl c47
          refine sp_X4_holdsTrue hB0 hR0 ho1 ho2 (by have z : (v3 : Int32).toInt = v3.toInt := rfl; omega) (fun x49 y54 I50 J51 hB52 p53 => ?_)
          intro o55
          have i56 := i32 x49
          refine ⟨fun c57 => ?_, fun c57 => ?_⟩
          · skip
            have d58 : ((x49.toInt) : Int) = (0) := ci_eq rfl rfl c57
            refine bif_t ho2 ?_
            refine bif_t (fa_2_7 ho2).1 ?_
            refine ⟨by rw [(fa_2_7 ho2).2.1]; exact vp_of (a := v3.toInt) rfl (by omega) (by omega), ?_⟩
            exact hQ _ _ _ _ hB52 trivial
          · skip
            have d59 : ¬ ((x49.toInt) : Int) = (0) := ci_ne rfl rfl c57
            exact hQ _ _ _ _ hB52 trivial
        · skip
          have d60 : ¬ (((I (v2 + 1) (Int32.toNatClampNeg v3)).toInt) : Int) = (17) := ci_ne rfl rfl c47
          refine ⟨fun c61 => ?_, fun c61 => ?_⟩
          · skip
            have d62 : (((I (v2 + 1) (Int32.toNatClampNeg v3)).toInt) : Int) = (18) := ci_eq rfl rfl c61
            refine sp_X4_holdsTrue hB0 hR0 ho1 ho2 (by have z : (v3 : Int32).toInt = v3.toInt := rfl; omega) (fun x63 y68 I64 J65 hB66 p67 => ?_)
            intro o69
            have i70 := i32 x63
            refine ⟨fun c71 => ?_, fun c71 => ?_⟩
            · skip
              have d72 : ((x63.toInt) : Int) = (0) := ci_eq rfl rfl c71
              refine bif_t ho2 ?_
              refine bif_t (fa_2_7 ho2).1 ?_
              refine ⟨by rw [(fa_2_7 ho2).2.1]; exact vp_of (a := v3.toInt) rfl (by omega) (by omega), ?_⟩
              exact hQ _ _ _ _ hB66 trivial
            · skip
              have d73 : ¬ ((x63.toInt) : Int) = (0) := ci_ne rfl rfl c71
              exact hQ _ _ _ _ hB66 trivial
          · skip
            have d74 : ¬ (((I (v2 + 1) (Int32.toNatClampNeg v3)).toInt) : Int) = (18) := ci_ne rfl rfl c61
            refine ⟨fun c75 => ?_, fun c75 => ?_⟩
            · skip
              have d76 : (((I (v2 + 1) (Int32.toNatClampNeg v3)).toInt) : Int) = (19) := ci_eq rfl rfl c75
              refine bif_t ho0 ?_
              refine bif_t ho2 ?_
              refine bif_t (fa_2_4 ho2).1 ?_
              refine ⟨by rw [(fa_2_4 ho2).2.1]; exact vp_of (a := v3.toInt) rfl (by omega) (by omega), ?_⟩
              refine bif_t (fa_4_8 ho0).1 ?_
              refine ⟨by rw [(fa_4_8 ho0).2.1]; exact vp_of (a := v3.toInt) rfl (by omega) (by omega), ?_⟩
              have hB77 : Bd (uI I (v0 + 1) (Int32.toNatClampNeg v3) (I (v2 + 2) (Int32.toNatClampNeg v3))) := Bd.a0 hB0 (fa_4_8 ho0).1 (fa_4_8 ho0).2.2
              exact hQ _ _ _ _ hB77 trivial
            · skip
              have d78 : ¬ (((I (v2 + 1) (Int32.toNatClampNeg v3)).toInt) : Int) = (19) := ci_ne rfl rfl c75
              refine ⟨fun c79 => ?_, fun c79 => ?_⟩
              · skip
                have d80 : (((I (v2 + 1) (Int32.toNatClampNeg v3)).toInt) : Int) = (20) := ci_eq rfl rfl c79
                refine bif_t ho0 ?_
                refine bif_t ho0 ?_
                refine sp_X4_act hB0 hR0 ho0 ho1 ho2 (by have z : (v3 : Int32).toInt = v3.toInt := rfl; omega) (fun x81 y86 I82 J83 hB84 p85 => ?_)
                intro o87
                have i88 := i32 x81
                refine ⟨fun c89 => ?_, fun c89 => ?_⟩
                · skip
                  have d90 : ((x81.toInt) : Int) = (0) := ci_eq rfl rfl c89
                  refine bif_t ho0 ?_
                  have hB91 : Bd (uI I82 v0 2 ((I v0 2) + 1)) := Bd.o0 hB84 ho0 (by omega) bd9_4_2
                  exact hQ _ _ _ _ hB91 trivial
                · skip
                  have d92 : ¬ ((x81.toInt) : Int) = (0) := ci_ne rfl rfl c89
                  refine bif_t ho0 ?_
                  have hB93 : Bd (uI I82 v0 2 ((I v0 2) + 0)) := Bd.o0 hB84 ho0 (by omega) bd9_4_2
                  exact hQ _ _ _ _ hB93 trivial
              · skip
                have d94 : ¬ (((I (v2 + 1) (Int32.toNatClampNeg v3)).toInt) : Int) = (20) := ci_ne rfl rfl c79
                refine ⟨fun c95 => ?_, fun c95 => ?_⟩
                · skip
                  have d96 : (((I (v2 + 1) (Int32.toNatClampNeg v3)).toInt) : Int) = (21) := ci_eq rfl rfl c95
                  refine bif_t ho2 ?_
                  exact hQ _ _ _ _ hB0 trivial
                · skip
                  have d97 : ¬ (((I (v2 + 1) (Int32.toNatClampNeg v3)).toInt) : Int) = (21) := ci_ne rfl rfl c95
                  refine bif_t ho0 ?_
                  refine bif_t ho0 ?_
                  refine sp_X4_act hB0 hR0 ho0 ho1 ho2 (by have z : (v3 : Int32).toInt = v3.toInt := rfl; omega) (fun x98 y103 I99 J100 hB101 p102 => ?_)
                  intro o104
                  have i105 := i32 x98
                  refine ⟨fun c106 => ?_, fun c106 => ?_⟩
                  · skip
                    have d107 : ((x98.toInt) : Int) = (0) := ci_eq rfl rfl c106
                    refine bif_t ho0 ?_
                    have hB108 : Bd (uI I99 v0 2 ((I v0 2) + 1)) := Bd.o0 hB101 ho0 (by omega) bd9_4_2
                    exact hQ _ _ _ _ hB108 trivial
                  · skip
                    have d109 : ¬ ((x98.toInt) : Int) = (0) := ci_ne rfl rfl c106
                    refine bif_t ho0 ?_
                    have hB110 : Bd (uI I99 v0 2 ((I v0 2) + 0)) := Bd.o0 hB101 ho0 (by omega) bd9_4_2
                    exact hQ _ _ _ _ hB110 trivial
set_option maxHeartbeats 2000000 in
theorem sp_X4_run {d : Nat} {Q : Qt} {v0 : Nat} {v1 : Nat} {v2 : Nat} {v3 : Int32} {I : Im} {J : Jm} {R : Rm} (hB0 : Bd I) (hR0 : RI R) (ho0 : isO 112 v0 4 = true) (ho1 : isO 112 v1 0 = true) (ho2 : isO 112 v2 2 = true) (hQ : ∀ (x : Int32) (y : Int64) (I2 : Im) (J2 : Jm), Bd I2 → (True) → Q x y I2 J2 R) : AM (d + 6) 41 112 [.ref v0, .ref v1, .ref v2, .int v3] I J R Q := by
  have i_v3 := i32 v3
  refine am_X4_run (fun P hc => ?_)
  have L : ∀ n : Nat, (∀ (v4 : Int32) (v5 : Int32) (M : Im) (JM : Jm), Bd M → (0 ≤ v5.toInt ∧ v5.toInt ≤ 1000000) → 1000001 - v5.toInt < (n : Int) → P 46 112 [(0, .ref v0), (1, .ref v1), (2, .ref v2), (4, .int v4), (5, .int v5)] [] M JM R) := by
    intro n
    induction n with
    | zero =>
      exact fun v4 v5 M J _ hi hm => absurd hm (by omega)
    | succ n ih =>
      intro v4 v5 M JM hB hi hm
      have i_v4 := i32 v4
      have i_v5 := i32 v5
      refine sg_X4_run_46 hc _ _ _ _ _ _ _ _ ?_
      refine ⟨fun c1 => ?_, fun c1 => ?_⟩
      · skip
        have d2 : ((1000000) : Int) ≤ (v5.toInt) := ci_le rfl rfl c1
        exact hQ _ _ _ _ hB trivial
      · skip
        have d3 : ((v5.toInt) : Int) < (1000000) := ci_nle rfl rfl c1
        refine bif_t ho0 ?_
        refine ⟨fun c4 => ?_, fun c4 => ?_⟩
        · skip
          have d5 : ¬ (((M v0 6).toInt) : Int) = (0) := ci_ne rfl rfl c4
          exact hQ _ _ _ _ hB trivial
        · skip
          have d6 : (((M v0 6).toInt) : Int) = (0) := ci_eq rfl rfl c4
          refine ⟨fun c7 => ?_, fun c7 => ?_⟩
          · skip
            have d8 : ((v4.toInt) : Int) < (0) := ci_lt rfl rfl c7
            exact hQ _ _ _ _ hB trivial
          · skip
            have d9 : ((0) : Int) ≤ (v4.toInt) := ci_nlt rfl rfl c7
            refine bif_t ho2 ?_
            refine ⟨fun c10 => ?_, fun c10 => ?_⟩
            · skip
              have b11 := Bd.o hB ho2 bd9_2_2
              have d12 : (((M v2 2).toInt) : Int) ≤ (v4.toInt) := ci_le rfl rfl c10
              exact hQ _ _ _ _ hB trivial
            · skip
              have b13 := Bd.o hB ho2 bd9_2_2
              have d14 : ((v4.toInt) : Int) < ((M v2 2).toInt) := ci_nle rfl rfl c10
              refine bif_t ho2 ?_
              refine bif_t (fa_2_3 ho2).1 ?_
              refine ⟨by rw [(fa_2_3 ho2).2.1]; exact vp_of (a := v4.toInt) rfl (by omega) (by omega), ?_⟩
              refine ⟨fun c15 => ?_, fun c15 => ?_⟩
              · skip
                have d16 : ¬ (((M (v2 + 1) (Int32.toNatClampNeg v4)).toInt) : Int) = (20) := ci_ne rfl rfl c15
                refine bif_t ho0 ?_
                refine ⟨fun c17 => ?_, fun c17 => ?_⟩
                · skip
                  have d18 : (((M v0 1).toInt) : Int) < (300) := ci_lt rfl rfl c17
                  refine bif_t ho0 ?_
                  refine bif_t ho0 ?_
                  have hB19 : Bd (uI M v0 1 ((M v0 1) + 1)) := Bd.o0 hB ho0 (by omega) bd9_4_1
                  refine bif_t ho0 ?_
                  refine sp_X4_behindStep hB19 hR0 ho0 ho1 ho2 (by have z : (v4 : Int32).toInt = v4.toInt := rfl; omega) (fun x20 y25 I21 J22 hB23 p24 => ?_)
                  have i26 := i32 x20
                  have e27 : ((v5 + 1) : Int32).toInt = (v5.toInt) + (1) := ti_add rfl rfl (by omega)
                  exact ih _ _ _ _ hB23 (by have q0 : ((v5 + 1) : Int32).toInt = (v5.toInt + 1) := e27; omega) (by have q0 : ((v5 + 1) : Int32).toInt = (v5.toInt + 1) := e27; omega)
                · skip
                  have d28 : ((300) : Int) ≤ ((M v0 1).toInt) := ci_nlt rfl rfl c17
                  refine bif_t ho0 ?_
                  have hB29 : Bd (uI M v0 6 1) := Bd.o0 hB ho0 (by omega) bd9_4_6
                  have e30 : ((v5 + 1) : Int32).toInt = (v5.toInt) + (1) := ti_add rfl rfl (by omega)
                  exact ih _ _ _ _ hB29 (by have q0 : ((v5 + 1) : Int32).toInt = (v5.toInt + 1) := e30; omega) (by have q0 : ((v5 + 1) : Int32).toInt = (v5.toInt + 1) := e30; omega)
              · skip
                have d31 : (((M (v2 + 1) (Int32.toNatClampNeg v4)).toInt) : Int) = (20) := ci_eq rfl rfl c15
                refine bif_t ho0 ?_
                refine sp_X4_behindEnd hB hR0 ho0 ho2 (by have z : (v4 : Int32).toInt = v4.toInt := rfl; omega) (fun x32 y37 I33 J34 hB35 p36 => ?_)
                have i38 := i32 x32
                have e39 : ((v5 + 1) : Int32).toInt = (v5.toInt) + (1) := ti_add rfl rfl (by omega)
                exact ih _ _ _ _ hB35 (by have q0 : ((v5 + 1) : Int32).toInt = (v5.toInt + 1) := e39; omega) (by have q0 : ((v5 + 1) : Int32).toInt = (v5.toInt + 1) := e39; omega)
  refine sg_X4_run_0 hc _ _ _ _ _ _ _ ?_
  refine bif_t ho0 ?_
  refine ⟨Or.inr rfl, ?_⟩
  have hB40 : Bd (uI I v0 0 1) := Bd.o1 hB0 ho0 (by omega) bd9_4_0 rfl (bl_ti (Or.inr rfl))
  refine bif_t ho0 ?_
  have hB41 : Bd (uI (uI I v0 0 1) v0 1 0) := Bd.o0 hB40 ho0 (by omega) bd9_4_1
  refine bif_t ho0 ?_
  have hB42 : Bd (uI (uI (uI I v0 0 1) v0 1 0) v0 2 0) := Bd.o0 hB41 ho0 (by omega) bd9_4_2
  refine bif_t ho0 ?_
  have hB43 : Bd (uI (uI (uI (uI I v0 0 1) v0 1 0) v0 2 0) v0 3 0) := Bd.o0 hB42 ho0 (by omega) bd9_4_3
  refine bif_t ho0 ?_
  have hB44 : Bd (uI (uI (uI (uI (uI I v0 0 1) v0 1 0) v0 2 0) v0 3 0) v0 4 0) := Bd.o0 hB43 ho0 (by omega) bd9_4_4
  refine bif_t ho0 ?_
  have hB45 : Bd (uI (uI (uI (uI (uI (uI I v0 0 1) v0 1 0) v0 2 0) v0 3 0) v0 4 0) v0 5 0) := Bd.o0 hB44 ho0 (by omega) bd9_4_5
  refine bif_t ho0 ?_
  have hB46 : Bd (uI (uI (uI (uI (uI (uI (uI I v0 0 1) v0 1 0) v0 2 0) v0 3 0) v0 4 0) v0 5 0) v0 6 0) := Bd.o0 hB45 ho0 (by omega) bd9_4_6
  refine bif_t ho0 ?_
  have hB47 : Bd (uI (uI (uI (uI (uI (uI (uI (uI I v0 0 1) v0 1 0) v0 2 0) v0 3 0) v0 4 0) v0 5 0) v0 6 0) v0 7 v3) := Bd.o0 hB46 ho0 (by omega) bd9_4_7
  exact (L 2000000) _ _ _ _ hB47 (by have q0 : (0 : Int32).toInt = 0 := rfl; omega) (by have q0 : (0 : Int32).toInt = 0 := rfl; omega)
set_option maxHeartbeats 2000000 in
theorem sp_X5_countSteps {d : Nat} {Q : Qt} {v1 : Int32} {I : Im} {J : Jm} {R : Rm} (hB0 : Bd I) (hR0 : RI R) (hv1 : 1 ≤ v1.toInt ∧ v1.toInt ≤ 30) (hQ : ∀ (x : Int32) (y : Int64) (I2 : Im) (J2 : Jm), Bd I2 → (True) → Q x y I2 J2 R) : AM (d + 2) 55 112 [.ref 42, .int v1] I J R Q := by
  have i_v1 := i32 v1
  refine am_X5_countSteps (fun P hc => ?_)
  have L : ∀ n : Nat, (∀ (v2 : Int32) (M : Im) (JM : Jm), Bd M → (1 ≤ v1.toInt ∧ v1.toInt ≤ 30 ∧ 0 ≤ v2.toInt ∧ v2.toInt < v1.toInt) → v2.toInt * 100 + 50 < (n : Int) → P 11 112 [(0, .ref 42), (1, .int v1), (2, .int v2)] [] M JM R) ∧ (∀ (v2 : Int32) (v3 : Int32) (M : Im) (JM : Jm), Bd M → (1 ≤ v1.toInt ∧ v1.toInt ≤ 30 ∧ 1 ≤ v2.toInt ∧ v2.toInt < v1.toInt ∧ v2.toInt < v3.toInt ∧ v3.toInt ≤ v1.toInt + 1) → v2.toInt * 100 + 31 - v3.toInt < (n : Int) → P 29 112 [(0, .ref 42), (1, .int v1), (2, .int v2), (3, .int v3)] [] M JM R) := by
    intro n
    induction n with
    | zero =>
      exact ⟨fun v2 M J _ hi hm => absurd hm (by omega), fun v2 v3 M J _ hi hm => absurd hm (by omega)⟩
    | succ n ih =>
      refine ⟨?_, ?_⟩
      · skip
        intro v2 M JM hB hi hm
        have i_v1 := i32 v1
        have i_v2 := i32 v2
        refine sg_X5_countSteps_11 hc _ _ _ _ _ ?_
        refine ⟨fun c1 => ?_, fun c1 => ?_⟩
        · skip
          have d2 : ((v2.toInt) : Int) < (1) := ci_lt rfl rfl c1
          exact hQ _ _ _ _ hB trivial
        · skip
          have d3 : ((1) : Int) ≤ (v2.toInt) := ci_nlt rfl rfl c1
          refine ⟨vp_of (a := v2.toInt) rfl (by omega) (by omega), ?_⟩
          have hB4 : Bd (uI M 43 (Int32.toNatClampNeg v2) 1000) := Bd.a0 hB (show isA 112 43 0 = true from rfl) (show bna 43 = none from rfl)
          have e5 : ((v2 + 1) : Int32).toInt = (v2.toInt) + (1) := ti_add rfl rfl (by omega)
          exact ih.2 _ _ _ _ hB4 (by have q0 : (v2 : Int32).toInt = v2.toInt := rfl; have q1 : ((v2 + 1) : Int32).toInt = (v2.toInt + 1) := e5; omega) (by have q0 : (v2 : Int32).toInt = v2.toInt := rfl; have q1 : ((v2 + 1) : Int32).toInt = (v2.toInt + 1) := e5; omega)
      · skip
        intro v2 v3 M JM hB hi hm
        have i_v1 := i32 v1
        have i_v2 := i32 v2
        have i_v3 := i32 v3
        refine sg_X5_countSteps_29 hc _ _ _ _ _ _ ?_
        refine ⟨fun c6 => ?_, fun c6 => ?_⟩
        · skip
          have d7 : ((v1.toInt) : Int) < (v3.toInt) := ci_lt rfl rfl c6
          have e8 : ((v2 + (-1)) : Int32).toInt = (v2.toInt) + ((-1)) := ti_add rfl rfl (by omega)
          exact ih.1 _ _ _ hB (by have q0 : ((v2 + (-1)) : Int32).toInt = (v2.toInt + (-1)) := e8; omega) (by have q0 : ((v2 + (-1)) : Int32).toInt = (v2.toInt + (-1)) := e8; omega)
        · skip
          have d9 : ((v3.toInt) : Int) ≤ (v1.toInt) := ci_nlt rfl rfl c6
          refine w_X5_comesOf ?_
          refine ⟨fun c10 => ?_, fun c10 => ?_⟩
          · skip
            have d11 : ((v2.toInt) : Int) < (1) := ci_lt rfl rfl c10
            refine ⟨Or.inl rfl, ?_⟩
            intro o12
            refine ⟨fun c13 => ?_, fun c13 => ?_⟩
            · skip
              have e14 : ((v3 + 1) : Int32).toInt = (v3.toInt) + (1) := ti_add rfl rfl (by omega)
              exact ih.2 _ _ _ _ hB (by have q0 : (v2 : Int32).toInt = v2.toInt := rfl; have q1 : ((v3 + 1) : Int32).toInt = (v3.toInt + 1) := e14; omega) (by have q0 : (v2 : Int32).toInt = v2.toInt := rfl; have q1 : ((v3 + 1) : Int32).toInt = (v3.toInt + 1) := e14; omega)
            · exact absurd c13 (by decide)
          · skip
            have d15 : ((1) : Int) ≤ (v2.toInt) := ci_nlt rfl rfl c10
            refine ⟨fun c16 => ?_, fun c16 => ?_⟩
            · skip
              have d17 : ((v2.toInt) : Int) < (v3.toInt) := ci_lt rfl rfl c16
              refine ⟨(fun z => by have z2 : (v2.toInt : Int) = 0 := ci_eq rfl rfl z; omega), ?_⟩
              refine ⟨fun c18 => ?_, fun c18 => ?_⟩
              · skip
                have d19 : ((((v3 - v3 / v2 * v2) : Int32).toInt) : Int) = (0) := ci_eq rfl rfl c18
                refine ⟨Or.inr rfl, ?_⟩
                intro o20
                refine ⟨fun c21 => ?_, fun c21 => ?_⟩
                · exact absurd c21 (by decide)
                · skip
                  refine ⟨vp_of (a := v2.toInt) rfl (by omega) (by omega), ?_⟩
                  refine ⟨vp_of (a := v3.toInt) rfl (by omega) (by omega), ?_⟩
                  refine ⟨vp_of (a := v2.toInt) rfl (by omega) (by omega), ?_⟩
                  have hB22 : Bd (uI M 43 (Int32.toNatClampNeg v2) (if (((M 43 (Int32.toNatClampNeg v3)) + 1) : Int32) < (M 43 (Int32.toNatClampNeg v2)) then ((M 43 (Int32.toNatClampNeg v3)) + 1) else (M 43 (Int32.toNatClampNeg v2)))) := Bd.a0 hB (show isA 112 43 0 = true from rfl) (show bna 43 = none from rfl)
                  have e23 : ((v3 + 1) : Int32).toInt = (v3.toInt) + (1) := ti_add rfl rfl (by omega)
                  exact ih.2 _ _ _ _ hB22 (by have q0 : (v2 : Int32).toInt = v2.toInt := rfl; have q1 : ((v3 + 1) : Int32).toInt = (v3.toInt + 1) := e23; omega) (by have q0 : (v2 : Int32).toInt = v2.toInt := rfl; have q1 : ((v3 + 1) : Int32).toInt = (v3.toInt + 1) := e23; omega)
              · skip
                have d24 : ¬ ((((v3 - v3 / v2 * v2) : Int32).toInt) : Int) = (0) := ci_ne rfl rfl c18
                have e25 : ((v3 - v2) : Int32).toInt = (v3.toInt) - (v2.toInt) := ti_sub rfl rfl (by omega)
                refine ⟨(fun z => by have z2 : ((v3.toInt - v2.toInt) : Int) = 0 := ci_eq e25 rfl z; omega), ?_⟩
                refine ⟨fun c26 => ?_, fun c26 => ?_⟩
                · skip
                  have d27 : ¬ (((((v2 * v3) - (v2 * v3) / (v3 - v2) * (v3 - v2)) : Int32).toInt) : Int) = (0) := ci_ne rfl rfl c26
                  refine ⟨Or.inl rfl, ?_⟩
                  intro o28
                  refine ⟨fun c29 => ?_, fun c29 => ?_⟩
                  · skip
                    have e30 : ((v3 + 1) : Int32).toInt = (v3.toInt) + (1) := ti_add rfl rfl (by omega)
                    exact ih.2 _ _ _ _ hB (by have q0 : (v2 : Int32).toInt = v2.toInt := rfl; have q1 : ((v3 + 1) : Int32).toInt = (v3.toInt + 1) := e30; omega) (by have q0 : (v2 : Int32).toInt = v2.toInt := rfl; have q1 : ((v3 + 1) : Int32).toInt = (v3.toInt + 1) := e30; omega)
                  · exact absurd c29 (by decide)
                · skip
                  have d31 : (((((v2 * v3) - (v2 * v3) / (v3 - v2) * (v3 - v2)) : Int32).toInt) : Int) = (0) := ci_eq rfl rfl c26
                  refine ⟨(fun z => by have z2 : ((v3.toInt - v2.toInt) : Int) = 0 := ci_eq e25 rfl z; omega), ?_⟩
                  refine ⟨fun c32 => ?_, fun c32 => ?_⟩
                  · skip
                    have d33 : ((30) : Int) < ((((v2 * v3) / (v3 - v2)) : Int32).toInt) := ci_lt rfl rfl c32
                    refine ⟨Or.inl rfl, ?_⟩
                    intro o34
                    refine ⟨fun c35 => ?_, fun c35 => ?_⟩
                    · skip
                      have e36 : ((v3 + 1) : Int32).toInt = (v3.toInt) + (1) := ti_add rfl rfl (by omega)
                      exact ih.2 _ _ _ _ hB (by have q0 : (v2 : Int32).toInt = v2.toInt := rfl; have q1 : ((v3 + 1) : Int32).toInt = (v3.toInt + 1) := e36; omega) (by have q0 : (v2 : Int32).toInt = v2.toInt := rfl; have q1 : ((v3 + 1) : Int32).toInt = (v3.toInt + 1) := e36; omega)
                    · exact absurd c35 (by decide)
                  · skip
                    have d37 : (((((v2 * v3) / (v3 - v2)) : Int32).toInt) : Int) ≤ (30) := ci_nlt rfl rfl c32
                    refine ⟨Or.inr rfl, ?_⟩
                    intro o38
                    refine ⟨fun c39 => ?_, fun c39 => ?_⟩
                    · exact absurd c39 (by decide)
                    · skip
                      refine ⟨vp_of (a := v2.toInt) rfl (by omega) (by omega), ?_⟩
                      refine ⟨vp_of (a := v3.toInt) rfl (by omega) (by omega), ?_⟩
                      refine ⟨vp_of (a := v2.toInt) rfl (by omega) (by omega), ?_⟩
                      have hB40 : Bd (uI M 43 (Int32.toNatClampNeg v2) (if (((M 43 (Int32.toNatClampNeg v3)) + 1) : Int32) < (M 43 (Int32.toNatClampNeg v2)) then ((M 43 (Int32.toNatClampNeg v3)) + 1) else (M 43 (Int32.toNatClampNeg v2)))) := Bd.a0 hB (show isA 112 43 0 = true from rfl) (show bna 43 = none from rfl)
                      have e41 : ((v3 + 1) : Int32).toInt = (v3.toInt) + (1) := ti_add rfl rfl (by omega)
                      exact ih.2 _ _ _ _ hB40 (by have q0 : (v2 : Int32).toInt = v2.toInt := rfl; have q1 : ((v3 + 1) : Int32).toInt = (v3.toInt + 1) := e41; omega) (by have q0 : (v2 : Int32).toInt = v2.toInt := rfl; have q1 : ((v3 + 1) : Int32).toInt = (v3.toInt + 1) := e41; omega)
            · skip
              have d42 : ((v3.toInt) : Int) ≤ (v2.toInt) := ci_nlt rfl rfl c16
              refine ⟨Or.inl rfl, ?_⟩
              intro o43
              refine ⟨fun c44 => ?_, fun c44 => ?_⟩
              · skip
                have e45 : ((v3 + 1) : Int32).toInt = (v3.toInt) + (1) := ti_add rfl rfl (by omega)
                exact ih.2 _ _ _ _ hB (by have q0 : (v2 : Int32).toInt = v2.toInt := rfl; have q1 : ((v3 + 1) : Int32).toInt = (v3.toInt + 1) := e45; omega) (by have q0 : (v2 : Int32).toInt = v2.toInt := rfl; have q1 : ((v3 + 1) : Int32).toInt = (v3.toInt + 1) := e45; omega)
              · exact absurd c44 (by decide)
  refine sg_X5_countSteps_0 hc _ _ _ _ ?_
  refine ⟨vp_of (a := v1.toInt) rfl (by omega) (by omega), ?_⟩
  have hB46 : Bd (uI I 43 (Int32.toNatClampNeg v1) 0) := Bd.a0 hB0 (show isA 112 43 0 = true from rfl) (show bna 43 = none from rfl)
  have e47 : ((v1 - 1) : Int32).toInt = (v1.toInt) - (1) := ti_sub rfl rfl (by omega)
  exact (L 1000000).1 _ _ _ hB46 (by have q0 : ((v1 - 1) : Int32).toInt = (v1.toInt - 1) := e47; omega) (by have q0 : ((v1 - 1) : Int32).toInt = (v1.toInt - 1) := e47; omega)
set_option maxHeartbeats 2000000 in
theorem sp_X5_follow {d : Nat} {Q : Qt} {v1 : Int32} {v2 : Int32} {I : Im} {J : Jm} {R : Rm} (hB0 : Bd I) (hR0 : RI R) (hv1 : 1 ≤ v1.toInt ∧ v1.toInt ≤ v2.toInt ∧ v2.toInt ≤ 30) (hQ : ∀ (x : Int32) (y : Int64) (I2 : Im) (J2 : Jm), Bd I2 → (True) → Q x y I2 J2 R) : AM (d + 2) 56 112 [.ref 42, .int v1, .int v2] I J R Q := by
  have i_v1 := i32 v1
  have i_v2 := i32 v2
  refine am_X5_follow (fun P hc => ?_)
  have L : ∀ n : Nat, (∀ (v3 : Int32) (v4 : Int32) (M : Im) (JM : Jm), Bd M → (1 ≤ v3.toInt ∧ v3.toInt ≤ 30 ∧ v3.toInt < v4.toInt ∧ v4.toInt ≤ v2.toInt + 1 ∧ v2.toInt ≤ 30 ∧ 1 ≤ (M 42 2).toInt ∧ (M 42 2).toInt < v4.toInt) → 40 - v4.toInt < (n : Int) → P 19 112 [(0, .ref 42), (2, .int v2), (3, .int v3), (4, .int v4)] [] M JM R) := by
    intro n
    induction n with
    | zero =>
      exact fun v3 v4 M J _ hi hm => absurd hm (by omega)
    | succ n ih =>
      intro v3 v4 M JM hB hi hm
      have i_v2 := i32 v2
      have i_v3 := i32 v3
      have i_v4 := i32 v4
      refine sg_X5_follow_19 hc _ _ _ _ _ _ ?_
      have b1 := Bd.o hB io9_112_42_5 bd9_5_2
      refine ⟨fun c2 => ?_, fun c2 => ?_⟩
      · skip
        have d3 : ((v2.toInt) : Int) < (v4.toInt) := ci_lt rfl rfl c2
        exact hQ _ _ _ _ hB trivial
      · skip
        have d4 : ((v4.toInt) : Int) ≤ (v2.toInt) := ci_nlt rfl rfl c2
        refine ⟨vp_of (a := v4.toInt) rfl (by omega) (by omega), ?_⟩
        refine ⟨vp_of (a := v3.toInt) rfl (by omega) (by omega), ?_⟩
        refine ⟨fun c5 => ?_, fun c5 => ?_⟩
        · skip
          have d6 : ¬ (((M 43 (Int32.toNatClampNeg v4)).toInt) : Int) = ((((M 43 (Int32.toNatClampNeg v3)) - 1) : Int32).toInt) := ci_ne rfl rfl c5
          have e7 : ((v4 + 1) : Int32).toInt = (v4.toInt) + (1) := ti_add rfl rfl (by omega)
          exact ih _ _ _ _ hB (by have q0 : (v3 : Int32).toInt = v3.toInt := rfl; have q1 : ((v4 + 1) : Int32).toInt = (v4.toInt + 1) := e7; have q2 : ((M 42 2) : Int32).toInt = (M 42 2).toInt := rfl; have q3 : ((M 42 2) : Int32).toInt = (M 42 2).toInt := rfl; omega) (by have q0 : ((v4 + 1) : Int32).toInt = (v4.toInt + 1) := e7; omega)
        · skip
          have d8 : (((M 43 (Int32.toNatClampNeg v4)).toInt) : Int) = ((((M 43 (Int32.toNatClampNeg v3)) - 1) : Int32).toInt) := ci_eq rfl rfl c5
          refine w_X5_comesOf ?_
          refine ⟨fun c9 => ?_, fun c9 => ?_⟩
          · skip
            have d10 : ((v3.toInt) : Int) < (1) := ci_lt rfl rfl c9
            refine ⟨Or.inl rfl, ?_⟩
            intro o11
            refine ⟨fun c12 => ?_, fun c12 => ?_⟩
            · skip
              have e13 : ((v4 + 1) : Int32).toInt = (v4.toInt) + (1) := ti_add rfl rfl (by omega)
              exact ih _ _ _ _ hB (by have q0 : (v3 : Int32).toInt = v3.toInt := rfl; have q1 : ((v4 + 1) : Int32).toInt = (v4.toInt + 1) := e13; have q2 : ((M 42 2) : Int32).toInt = (M 42 2).toInt := rfl; have q3 : ((M 42 2) : Int32).toInt = (M 42 2).toInt := rfl; omega) (by have q0 : ((v4 + 1) : Int32).toInt = (v4.toInt + 1) := e13; omega)
            · exact absurd c12 (by decide)
          · skip
            have d14 : ((1) : Int) ≤ (v3.toInt) := ci_nlt rfl rfl c9
            refine ⟨fun c15 => ?_, fun c15 => ?_⟩
            · skip
              have d16 : ((v3.toInt) : Int) < (v4.toInt) := ci_lt rfl rfl c15
              refine ⟨(fun z => by have z2 : (v3.toInt : Int) = 0 := ci_eq rfl rfl z; omega), ?_⟩
              refine ⟨fun c17 => ?_, fun c17 => ?_⟩
              · skip
                have d18 : ((((v4 - v4 / v3 * v3) : Int32).toInt) : Int) = (0) := ci_eq rfl rfl c17
                refine ⟨Or.inr rfl, ?_⟩
                intro o19
                refine ⟨fun c20 => ?_, fun c20 => ?_⟩
                · exact absurd c20 (by decide)
                · skip
                  refine ⟨vp_of (a := (M 42 2).toInt) rfl (by omega) (by omega), ?_⟩
                  have hB21 : Bd (uI M 44 (Int32.toNatClampNeg (M 42 2)) v4) := Bd.a0 hB (show isA 112 44 0 = true from rfl) (show bna 44 = none from rfl)
                  have e23 : (((uI M 44 (Int32.toNatClampNeg (M 42 2)) v4) 42 2) : Int32).toInt = (M 42 2).toInt := Eq.trans (congrArg Int32.toInt (rd_ne (by first | decide | omega))) rfl
                  have e24 : ((((uI M 44 (Int32.toNatClampNeg (M 42 2)) v4) 42 2) + 1) : Int32).toInt = ((M 42 2).toInt) + (1) := ti_add e23 rfl (by omega)
                  have hB22 : Bd (uI (uI M 44 (Int32.toNatClampNeg (M 42 2)) v4) 42 2 (((uI M 44 (Int32.toNatClampNeg (M 42 2)) v4) 42 2) + 1)) := Bd.o1 hB21 io9_112_42_5 (by omega) bd9_5_2 (show ((((uI M 44 (Int32.toNatClampNeg (M 42 2)) v4) 42 2) + 1) : Int32).toInt = ((M 42 2).toInt + 1) from e24) (by omega)
                  have e25 : ((v4 + 1) : Int32).toInt = (v4.toInt) + (1) := ti_add rfl rfl (by omega)
                  have e26 : (((uI (uI M 44 (Int32.toNatClampNeg (M 42 2)) v4) 42 2 (((uI M 44 (Int32.toNatClampNeg (M 42 2)) v4) 42 2) + 1)) 42 2) : Int32).toInt = ((M 42 2).toInt + 1) := Eq.trans (congrArg Int32.toInt rd_eq) e24
                  exact ih _ _ _ _ hB22 (by have q0 : (v4 : Int32).toInt = v4.toInt := rfl; have q1 : ((v4 + 1) : Int32).toInt = (v4.toInt + 1) := e25; have q2 : (((uI (uI M 44 (Int32.toNatClampNeg (M 42 2)) v4) 42 2 (((uI M 44 (Int32.toNatClampNeg (M 42 2)) v4) 42 2) + 1)) 42 2) : Int32).toInt = ((M 42 2).toInt + 1) := e26; have q3 : (((uI (uI M 44 (Int32.toNatClampNeg (M 42 2)) v4) 42 2 (((uI M 44 (Int32.toNatClampNeg (M 42 2)) v4) 42 2) + 1)) 42 2) : Int32).toInt = ((M 42 2).toInt + 1) := e26; omega) (by have q0 : ((v4 + 1) : Int32).toInt = (v4.toInt + 1) := e25; omega)
              · skip
                have d27 : ¬ ((((v4 - v4 / v3 * v3) : Int32).toInt) : Int) = (0) := ci_ne rfl rfl c17
                have e28 : ((v4 - v3) : Int32).toInt = (v4.toInt) - (v3.toInt) := ti_sub rfl rfl (by omega)
                refine ⟨(fun z => by have z2 : ((v4.toInt - v3.toInt) : Int) = 0 := ci_eq e28 rfl z; omega), ?_⟩
                refine ⟨fun c29 => ?_, fun c29 => ?_⟩
                · skip
                  have d30 : ¬ (((((v3 * v4) - (v3 * v4) / (v4 - v3) * (v4 - v3)) : Int32).toInt) : Int) = (0) := ci_ne rfl rfl c29
                  refine ⟨Or.inl rfl, ?_⟩
                  intro o31
                  refine ⟨fun c32 => ?_, fun c32 => ?_⟩
                  · skip
                    have e33 : ((v4 + 1) : Int32).toInt = (v4.toInt) + (1) := ti_add rfl rfl (by omega)
                    exact ih _ _ _ _ hB (by have q0 : (v3 : Int32).toInt = v3.toInt := rfl; have q1 : ((v4 + 1) : Int32).toInt = (v4.toInt + 1) := e33; have q2 : ((M 42 2) : Int32).toInt = (M 42 2).toInt := rfl; have q3 : ((M 42 2) : Int32).toInt = (M 42 2).toInt := rfl; omega) (by have q0 : ((v4 + 1) : Int32).toInt = (v4.toInt + 1) := e33; omega)
                  · exact absurd c32 (by decide)
                · skip
                  have d34 : (((((v3 * v4) - (v3 * v4) / (v4 - v3) * (v4 - v3)) : Int32).toInt) : Int) = (0) := ci_eq rfl rfl c29
                  refine ⟨(fun z => by have z2 : ((v4.toInt - v3.toInt) : Int) = 0 := ci_eq e28 rfl z; omega), ?_⟩
                  refine ⟨fun c35 => ?_, fun c35 => ?_⟩
                  · skip
                    have d36 : ((30) : Int) < ((((v3 * v4) / (v4 - v3)) : Int32).toInt) := ci_lt rfl rfl c35
                    refine ⟨Or.inl rfl, ?_⟩
                    intro o37
                    refine ⟨fun c38 => ?_, fun c38 => ?_⟩
                    · skip
                      have e39 : ((v4 + 1) : Int32).toInt = (v4.toInt) + (1) := ti_add rfl rfl (by omega)
                      exact ih _ _ _ _ hB (by have q0 : (v3 : Int32).toInt = v3.toInt := rfl; have q1 : ((v4 + 1) : Int32).toInt = (v4.toInt + 1) := e39; have q2 : ((M 42 2) : Int32).toInt = (M 42 2).toInt := rfl; have q3 : ((M 42 2) : Int32).toInt = (M 42 2).toInt := rfl; omega) (by have q0 : ((v4 + 1) : Int32).toInt = (v4.toInt + 1) := e39; omega)
                    · exact absurd c38 (by decide)
                  · skip
                    have d40 : (((((v3 * v4) / (v4 - v3)) : Int32).toInt) : Int) ≤ (30) := ci_nlt rfl rfl c35
                    refine ⟨Or.inr rfl, ?_⟩
                    intro o41
                    refine ⟨fun c42 => ?_, fun c42 => ?_⟩
                    · exact absurd c42 (by decide)
                    · skip
                      refine ⟨vp_of (a := (M 42 2).toInt) rfl (by omega) (by omega), ?_⟩
                      have hB43 : Bd (uI M 44 (Int32.toNatClampNeg (M 42 2)) v4) := Bd.a0 hB (show isA 112 44 0 = true from rfl) (show bna 44 = none from rfl)
                      have e45 : (((uI M 44 (Int32.toNatClampNeg (M 42 2)) v4) 42 2) : Int32).toInt = (M 42 2).toInt := Eq.trans (congrArg Int32.toInt (rd_ne (by first | decide | omega))) rfl
                      have e46 : ((((uI M 44 (Int32.toNatClampNeg (M 42 2)) v4) 42 2) + 1) : Int32).toInt = ((M 42 2).toInt) + (1) := ti_add e45 rfl (by omega)
                      have hB44 : Bd (uI (uI M 44 (Int32.toNatClampNeg (M 42 2)) v4) 42 2 (((uI M 44 (Int32.toNatClampNeg (M 42 2)) v4) 42 2) + 1)) := Bd.o1 hB43 io9_112_42_5 (by omega) bd9_5_2 (show ((((uI M 44 (Int32.toNatClampNeg (M 42 2)) v4) 42 2) + 1) : Int32).toInt = ((M 42 2).toInt + 1) from e46) (by omega)
                      have e47 : ((v4 + 1) : Int32).toInt = (v4.toInt) + (1) := ti_add rfl rfl (by omega)
                      have e48 : (((uI (uI M 44 (Int32.toNatClampNeg (M 42 2)) v4) 42 2 (((uI M 44 (Int32.toNatClampNeg (M 42 2)) v4) 42 2) + 1)) 42 2) : Int32).toInt = ((M 42 2).toInt + 1) := Eq.trans (congrArg Int32.toInt rd_eq) e46
                      exact ih _ _ _ _ hB44 (by have q0 : (v4 : Int32).toInt = v4.toInt := rfl; have q1 : ((v4 + 1) : Int32).toInt = (v4.toInt + 1) := e47; have q2 : (((uI (uI M 44 (Int32.toNatClampNeg (M 42 2)) v4) 42 2 (((uI M 44 (Int32.toNatClampNeg (M 42 2)) v4) 42 2) + 1)) 42 2) : Int32).toInt = ((M 42 2).toInt + 1) := e48; have q3 : (((uI (uI M 44 (Int32.toNatClampNeg (M 42 2)) v4) 42 2 (((uI M 44 (Int32.toNatClampNeg (M 42 2)) v4) 42 2) + 1)) 42 2) : Int32).toInt = ((M 42 2).toInt + 1) := e48; omega) (by have q0 : ((v4 + 1) : Int32).toInt = (v4.toInt + 1) := e47; omega)
            · skip
              have d49 : ((v4.toInt) : Int) ≤ (v3.toInt) := ci_nlt rfl rfl c15
              refine ⟨Or.inl rfl, ?_⟩
              intro o50
              refine ⟨fun c51 => ?_, fun c51 => ?_⟩
              · skip
                have e52 : ((v4 + 1) : Int32).toInt = (v4.toInt) + (1) := ti_add rfl rfl (by omega)
                exact ih _ _ _ _ hB (by have q0 : (v3 : Int32).toInt = v3.toInt := rfl; have q1 : ((v4 + 1) : Int32).toInt = (v4.toInt + 1) := e52; have q2 : ((M 42 2) : Int32).toInt = (M 42 2).toInt := rfl; have q3 : ((M 42 2) : Int32).toInt = (M 42 2).toInt := rfl; omega) (by have q0 : ((v4 + 1) : Int32).toInt = (v4.toInt + 1) := e52; omega)
              · exact absurd c51 (by decide)
  refine sg_X5_follow_0 hc _ _ _ _ _ ?_
  refine ⟨vp_of (a := 0) rfl (by omega) (by omega), ?_⟩
  have hB53 : Bd (uI I 44 (Int32.toNatClampNeg 0) v1) := Bd.a0 hB0 (show isA 112 44 0 = true from rfl) (show bna 44 = none from rfl)
  have hB54 : Bd (uI (uI I 44 (Int32.toNatClampNeg 0) v1) 42 2 1) := Bd.o1 hB53 io9_112_42_5 (by omega) bd9_5_2 (show (1 : Int32).toInt = 1 from rfl) (by omega)
  have e55 : ((v1 + 1) : Int32).toInt = (v1.toInt) + (1) := ti_add rfl rfl (by omega)
  have e56 : (((uI (uI I 44 (Int32.toNatClampNeg 0) v1) 42 2 1) 42 2) : Int32).toInt = 1 := Eq.trans (congrArg Int32.toInt rd_eq) rfl
  exact (L 1000000) _ _ _ _ hB54 (by have q0 : (v1 : Int32).toInt = v1.toInt := rfl; have q1 : ((v1 + 1) : Int32).toInt = (v1.toInt + 1) := e55; have q2 : (((uI (uI I 44 (Int32.toNatClampNeg 0) v1) 42 2 1) 42 2) : Int32).toInt = 1 := e56; have q3 : (((uI (uI I 44 (Int32.toNatClampNeg 0) v1) 42 2 1) 42 2) : Int32).toInt = 1 := e56; omega) (by have q0 : ((v1 + 1) : Int32).toInt = (v1.toInt + 1) := e55; omega)
set_option maxHeartbeats 2000000 in
theorem sp_X5_find {d : Nat} {Q : Qt} {v1 : Int32} {v2 : Int32} {I : Im} {J : Jm} {R : Rm} (hB0 : Bd I) (hR0 : RI R) (hv2 : 1 ≤ v2.toInt ∧ v2.toInt ≤ 30) (hQ : ∀ (x : Int32) (y : Int64) (I2 : Im) (J2 : Jm), Bd I2 → (True) → Q x y I2 J2 R) : AM (d + 3) 54 112 [.ref 42, .int v1, .int v2] I J R Q := by
  have i_v1 := i32 v1
  have i_v2 := i32 v2
  refine am_X5_find (fun P hc => ?_)
  have L : ∀ n : Nat, (∀ (v3 : Int32) (v4 : Int32) (v5 : Int32) (M : Im) (JM : Jm), Bd M → (1 ≤ v2.toInt ∧ v2.toInt ≤ 30 ∧ 1 ≤ v5.toInt ∧ v5.toInt ≤ v2.toInt + 1 ∧ (v3.toInt = -1 ∨ (1 ≤ v3.toInt ∧ v3.toInt ≤ v2.toInt))) → 40 - v5.toInt < (n : Int) → P 15 112 [(0, .ref 42), (1, .int v1), (2, .int v2), (3, .int v3), (4, .int v4), (5, .int v5)] [] M JM R) := by
    intro n
    induction n with
    | zero =>
      exact fun v3 v4 v5 M J _ hi hm => absurd hm (by omega)
    | succ n ih =>
      intro v3 v4 v5 M JM hB hi hm
      have i_v1 := i32 v1
      have i_v2 := i32 v2
      have i_v3 := i32 v3
      have i_v4 := i32 v4
      have i_v5 := i32 v5
      refine sg_X5_find_15 hc _ _ _ _ _ _ _ _ ?_
      refine ⟨fun c1 => ?_, fun c1 => ?_⟩
      · skip
        have d2 : ((v2.toInt) : Int) < (v5.toInt) := ci_lt rfl rfl c1
        refine ⟨fun c3 => ?_, fun c3 => ?_⟩
        · skip
          have d4 : ¬ ((v3.toInt) : Int) = ((-1)) := ci_ne rfl rfl c3
          refine sp_X5_follow hB hR0 (by have z1 : (v3 : Int32).toInt = v3.toInt := rfl; have z2 : (v2 : Int32).toInt = v2.toInt := rfl; omega) (fun x5 y10 I6 J7 hB8 p9 => ?_)
          refine ⟨Or.inr rfl, ?_⟩
          exact hQ _ _ _ _ hB8 trivial
        · skip
          have d11 : ((v3.toInt) : Int) = ((-1)) := ci_eq rfl rfl c3
          refine ⟨Or.inl rfl, ?_⟩
          exact hQ _ _ _ _ hB trivial
      · skip
        have d12 : ((v5.toInt) : Int) ≤ (v2.toInt) := ci_nlt rfl rfl c1
        refine w_X11_isIn ?_
        refine ⟨fun c13 => ?_, fun c13 => ?_⟩
        · skip
          have d14 : ((((v1 &&& (1 <<< ((v5 - 1) &&& 31))) : Int32).toInt) : Int) = (0) := ci_eq rfl rfl c13
          refine ⟨Or.inl rfl, ?_⟩
          intro o15
          refine ⟨fun c16 => ?_, fun c16 => ?_⟩
          · skip
            have e17 : ((v5 + 1) : Int32).toInt = (v5.toInt) + (1) := ti_add rfl rfl (by omega)
            exact ih _ _ _ _ _ hB (by have q0 : (v3 : Int32).toInt = v3.toInt := rfl; have q1 : ((v5 + 1) : Int32).toInt = (v5.toInt + 1) := e17; omega) (by have q0 : ((v5 + 1) : Int32).toInt = (v5.toInt + 1) := e17; omega)
          · exact absurd c16 (by decide)
        · skip
          have d18 : ¬ ((((v1 &&& (1 <<< ((v5 - 1) &&& 31))) : Int32).toInt) : Int) = (0) := ci_ne rfl rfl c13
          refine ⟨Or.inr rfl, ?_⟩
          intro o19
          refine ⟨fun c20 => ?_, fun c20 => ?_⟩
          · exact absurd c20 (by decide)
          · skip
            refine ⟨vp_of (a := v5.toInt) rfl (by omega) (by omega), ?_⟩
            refine ⟨fun c21 => ?_, fun c21 => ?_⟩
            · skip
              have d22 : ((v4.toInt) : Int) ≤ ((M 43 (Int32.toNatClampNeg v5)).toInt) := ci_le rfl rfl c21
              have e23 : ((v5 + 1) : Int32).toInt = (v5.toInt) + (1) := ti_add rfl rfl (by omega)
              exact ih _ _ _ _ _ hB (by have q0 : (v3 : Int32).toInt = v3.toInt := rfl; have q1 : ((v5 + 1) : Int32).toInt = (v5.toInt + 1) := e23; omega) (by have q0 : ((v5 + 1) : Int32).toInt = (v5.toInt + 1) := e23; omega)
            · skip
              have d24 : (((M 43 (Int32.toNatClampNeg v5)).toInt) : Int) < (v4.toInt) := ci_nle rfl rfl c21
              refine ⟨vp_of (a := v5.toInt) rfl (by omega) (by omega), ?_⟩
              have e25 : ((v5 + 1) : Int32).toInt = (v5.toInt) + (1) := ti_add rfl rfl (by omega)
              exact ih _ _ _ _ _ hB (by have q0 : (v5 : Int32).toInt = v5.toInt := rfl; have q1 : ((v5 + 1) : Int32).toInt = (v5.toInt + 1) := e25; omega) (by have q0 : ((v5 + 1) : Int32).toInt = (v5.toInt + 1) := e25; omega)
  refine sg_X5_find_0 hc _ _ _ _ _ ?_
  refine sp_X5_countSteps hB0 hR0 (by have z : (v2 : Int32).toInt = v2.toInt := rfl; omega) (fun x26 y31 I27 J28 hB29 p30 => ?_)
  exact (L 1000000) _ _ _ _ _ hB29 (by have q0 : ((-1) : Int32).toInt = (-1) := rfl; have q1 : (1 : Int32).toInt = 1 := rfl; omega) (by have q0 : (1 : Int32).toInt = 1 := rfl; omega)
set_option maxHeartbeats 2000000 in
theorem sp_X7_begin {d : Nat} {Q : Qt} {v1 : Int32} {v2 : Int32} {I : Im} {J : Jm} {R : Rm} (hB0 : Bd I) (hR0 : RI R) (hQ : ∀ (x : Int32) (y : Int64) (I2 : Im) (J2 : Jm), Bd I2 → (True) → Q x y I2 J2 R) : AM (d + 2) 75 112 [.ref 35, .int v1, .int v2] I J R Q := by
  have i_v1 := i32 v1
  have i_v2 := i32 v2
  refine w_X7_begin ?_
  have hB1 : Bd (uI I 35 0 v1) := Bd.o0 hB0 io9_112_35_7 (by omega) bd9_7_0
  have hB2 : Bd (uI (uI I 35 0 v1) 35 1 v2) := Bd.o0 hB1 io9_112_35_7 (by omega) bd9_7_1
  have hB3 : Bd (uI (uI (uI I 35 0 v1) 35 1 v2) 35 5 0) := Bd.o1 hB2 io9_112_35_7 (by omega) bd9_7_5 (show (0 : Int32).toInt = 0 from rfl) (by omega)
  have hB4 : Bd (uI (uI (uI (uI I 35 0 v1) 35 1 v2) 35 5 0) 35 6 0) := Bd.o0 hB3 io9_112_35_7 (by omega) bd9_7_6
  refine sp_J7_fill_53178 hB4 hR0 (show isA 112 38 0 = true from rfl) (show bna 38 = none from rfl) (fun x5 y10 I6 J7 hB8 p9 => ?_)
  exact hQ _ _ _ _ hB8 trivial
set_option maxHeartbeats 2000000 in
theorem sp_X7_meet {d : Nat} {Q : Qt} {v1 : Int32} {I : Im} {J : Jm} {R : Rm} (hB0 : Bd I) (hR0 : RI R) (hQ : ∀ (x : Int32) (y : Int64) (I2 : Im) (J2 : Jm), Bd I2 → (True) → Q x y I2 J2 R) : AM (d + 2) 84 112 [.ref 35, .int v1] I J R Q := by
  have i_v1 := i32 v1
  refine am_X7_meet (fun P hc => ?_)
  have L : ∀ n : Nat, (∀ (v2 : Int32) (M : Im) (JM : Jm), Bd M → (0 ≤ v2.toInt ∧ v2.toInt ≤ 5) → 6 - v2.toInt < (n : Int) → P 20 112 [(0, .ref 35), (2, .int v2)] [] M JM R) := by
    intro n
    induction n with
    | zero =>
      exact fun v2 M J _ hi hm => absurd hm (by omega)
    | succ n ih =>
      intro v2 M JM hB hi hm
      have i_v2 := i32 v2
      refine sg_X7_meet_20 hc _ _ _ _ ?_
      refine ⟨fun c1 => ?_, fun c1 => ?_⟩
      · skip
        have b2 := Bd.o hB io9_112_35_7 bd9_7_2
        have d3 : (((M 35 2).toInt) : Int) ≤ (v2.toInt) := ci_le rfl rfl c1
        refine ⟨Or.inl rfl, ?_⟩
        exact hQ _ _ _ _ hB trivial
      · skip
        have b4 := Bd.o hB io9_112_35_7 bd9_7_2
        have d5 : ((v2.toInt) : Int) < ((M 35 2).toInt) := ci_nle rfl rfl c1
        refine ⟨vp_of (a := v2.toInt) rfl (by omega) (by omega), ?_⟩
        have b6 := Bd.a hB (Int32.toNatClampNeg v2) (show bna 36 = some _ from rfl)
        refine ⟨vp_of (a := (M 36 (Int32.toNatClampNeg v2)).toInt) rfl (by omega) (by omega), ?_⟩
        refine ⟨vp_of (a := (M 36 (Int32.toNatClampNeg v2)).toInt) rfl (by omega) (by omega), ?_⟩
        have hB7 : Bd (uI M 38 (Int32.toNatClampNeg (M 36 (Int32.toNatClampNeg v2))) ((M 38 (Int32.toNatClampNeg (M 36 (Int32.toNatClampNeg v2)))) + 1)) := Bd.a0 hB (show isA 112 38 0 = true from rfl) (show bna 38 = none from rfl)
        have e8 : ((v2 + 1) : Int32).toInt = (v2.toInt) + (1) := ti_add rfl rfl (by omega)
        exact ih _ _ _ hB7 (by have q0 : ((v2 + 1) : Int32).toInt = (v2.toInt + 1) := e8; omega) (by have q0 : ((v2 + 1) : Int32).toInt = (v2.toInt + 1) := e8; omega)
  refine sg_X7_meet_0 hc _ _ _ _ ?_
  refine ⟨fun c9 => ?_, fun c9 => ?_⟩
  · skip
    have d10 : ¬ (((I 35 0).toInt) : Int) = (1) := ci_ne rfl rfl c9
    have b11 := Bd.o hB0 io9_112_35_7 bd9_7_2
    refine ⟨⟨(fun z => by have z2 : (0 : Int) < 0 := ci_lt rfl rfl z; omega), (fun z => by have z2 : (0 : Int) < 0 := ci_lt rfl rfl z; omega), (fun z => by have z2 : ((I 35 2).toInt : Int) < 0 := ci_lt rfl rfl z; omega), (by have z1 := tn_of (show ((I 35 2) : Int32).toInt = (I 35 2).toInt from rfl) (by omega); have z2 := tn_of (show (0 : Int32).toInt = 0 from rfl) (by omega); omega), (by have z1 := tn_of (show ((I 35 2) : Int32).toInt = (I 35 2).toInt from rfl) (by omega); have z2 := tn_of (show (0 : Int32).toInt = 0 from rfl) (by omega); omega)⟩, ?_⟩
    have hB12 : Bd (cI I 36 37 (Int32.toNatClampNeg 0) (Int32.toNatClampNeg 0) (Int32.toNatClampNeg (I 35 2))) := Bd.cp hB0 (show isA 112 37 0 = true from rfl) (show bna 37 = none from rfl)
    have e14 : (((cI I 36 37 (Int32.toNatClampNeg 0) (Int32.toNatClampNeg 0) (Int32.toNatClampNeg (I 35 2))) 35 2) : Int32).toInt = (I 35 2).toInt := Eq.trans (congrArg Int32.toInt (rd_c (by omega))) rfl
    have hB13 : Bd (uI (cI I 36 37 (Int32.toNatClampNeg 0) (Int32.toNatClampNeg 0) (Int32.toNatClampNeg (I 35 2))) 35 5 ((cI I 36 37 (Int32.toNatClampNeg 0) (Int32.toNatClampNeg 0) (Int32.toNatClampNeg (I 35 2))) 35 2)) := Bd.o1 hB12 io9_112_35_7 (by omega) bd9_7_5 (show (((cI I 36 37 (Int32.toNatClampNeg 0) (Int32.toNatClampNeg 0) (Int32.toNatClampNeg (I 35 2))) 35 2) : Int32).toInt = (I 35 2).toInt from e14) (by omega)
    refine ⟨fun c15 => ?_, fun c15 => ?_⟩
    · skip
      have e16 : (((uI (cI I 36 37 (Int32.toNatClampNeg 0) (Int32.toNatClampNeg 0) (Int32.toNatClampNeg (I 35 2))) 35 5 ((cI I 36 37 (Int32.toNatClampNeg 0) (Int32.toNatClampNeg 0) (Int32.toNatClampNeg (I 35 2))) 35 2)) 35 0) : Int32).toInt = (I 35 0).toInt := Eq.trans (congrArg Int32.toInt (Eq.trans (rd_k (by decide)) (rd_c (by omega)))) rfl
      have d17 : ¬ (((I 35 0).toInt) : Int) = (2) := ci_ne e16 rfl c15
      have hB18 : Bd (uI (uI (cI I 36 37 (Int32.toNatClampNeg 0) (Int32.toNatClampNeg 0) (Int32.toNatClampNeg (I 35 2))) 35 5 ((cI I 36 37 (Int32.toNatClampNeg 0) (Int32.toNatClampNeg 0) (Int32.toNatClampNeg (I 35 2))) 35 2)) 35 1 ((uI (cI I 36 37 (Int32.toNatClampNeg 0) (Int32.toNatClampNeg 0) (Int32.toNatClampNeg (I 35 2))) 35 5 ((cI I 36 37 (Int32.toNatClampNeg 0) (Int32.toNatClampNeg 0) (Int32.toNatClampNeg (I 35 2))) 35 2)) 35 1)) := Bd.o0 hB13 io9_112_35_7 (by omega) bd9_7_1
      refine ⟨fun c19 => ?_, fun c19 => ?_⟩
      · skip
        have e20 : (((uI (uI (cI I 36 37 (Int32.toNatClampNeg 0) (Int32.toNatClampNeg 0) (Int32.toNatClampNeg (I 35 2))) 35 5 ((cI I 36 37 (Int32.toNatClampNeg 0) (Int32.toNatClampNeg 0) (Int32.toNatClampNeg (I 35 2))) 35 2)) 35 1 ((uI (cI I 36 37 (Int32.toNatClampNeg 0) (Int32.toNatClampNeg 0) (Int32.toNatClampNeg (I 35 2))) 35 5 ((cI I 36 37 (Int32.toNatClampNeg 0) (Int32.toNatClampNeg 0) (Int32.toNatClampNeg (I 35 2))) 35 2)) 35 1)) 35 0) : Int32).toInt = (I 35 0).toInt := Eq.trans (congrArg Int32.toInt (Eq.trans (Eq.trans (rd_k (by decide)) (rd_k (by decide))) (rd_c (by omega)))) rfl
        have d21 : ¬ (((I 35 0).toInt) : Int) = (0) := ci_ne e20 rfl c19
        refine ⟨Or.inl rfl, ?_⟩
        exact hQ _ _ _ _ hB18 trivial
      · skip
        have e22 : (((uI (uI (cI I 36 37 (Int32.toNatClampNeg 0) (Int32.toNatClampNeg 0) (Int32.toNatClampNeg (I 35 2))) 35 5 ((cI I 36 37 (Int32.toNatClampNeg 0) (Int32.toNatClampNeg 0) (Int32.toNatClampNeg (I 35 2))) 35 2)) 35 1 ((uI (cI I 36 37 (Int32.toNatClampNeg 0) (Int32.toNatClampNeg 0) (Int32.toNatClampNeg (I 35 2))) 35 5 ((cI I 36 37 (Int32.toNatClampNeg 0) (Int32.toNatClampNeg 0) (Int32.toNatClampNeg (I 35 2))) 35 2)) 35 1)) 35 0) : Int32).toInt = (I 35 0).toInt := Eq.trans (congrArg Int32.toInt (Eq.trans (Eq.trans (rd_k (by decide)) (rd_k (by decide))) (rd_c (by omega)))) rfl
        have d23 : (((I 35 0).toInt) : Int) = (0) := ci_eq e22 rfl c19
        refine ⟨Or.inr rfl, ?_⟩
        exact hQ _ _ _ _ hB18 trivial
    · skip
      have e24 : (((uI (cI I 36 37 (Int32.toNatClampNeg 0) (Int32.toNatClampNeg 0) (Int32.toNatClampNeg (I 35 2))) 35 5 ((cI I 36 37 (Int32.toNatClampNeg 0) (Int32.toNatClampNeg 0) (Int32.toNatClampNeg (I 35 2))) 35 2)) 35 0) : Int32).toInt = (I 35 0).toInt := Eq.trans (congrArg Int32.toInt (Eq.trans (rd_k (by decide)) (rd_c (by omega)))) rfl
      have d25 : (((I 35 0).toInt) : Int) = (2) := ci_eq e24 rfl c15
      refine w_X11_bit ?_
      have hB26 : Bd (uI (uI (cI I 36 37 (Int32.toNatClampNeg 0) (Int32.toNatClampNeg 0) (Int32.toNatClampNeg (I 35 2))) 35 5 ((cI I 36 37 (Int32.toNatClampNeg 0) (Int32.toNatClampNeg 0) (Int32.toNatClampNeg (I 35 2))) 35 2)) 35 1 (((uI (cI I 36 37 (Int32.toNatClampNeg 0) (Int32.toNatClampNeg 0) (Int32.toNatClampNeg (I 35 2))) 35 5 ((cI I 36 37 (Int32.toNatClampNeg 0) (Int32.toNatClampNeg 0) (Int32.toNatClampNeg (I 35 2))) 35 2)) 35 1) &&& ((1 <<< ((v1 - 1) &&& 31)) - 1))) := Bd.o0 hB13 io9_112_35_7 (by omega) bd9_7_1
      refine ⟨fun c27 => ?_, fun c27 => ?_⟩
      · skip
        have e28 : (((uI (uI (cI I 36 37 (Int32.toNatClampNeg 0) (Int32.toNatClampNeg 0) (Int32.toNatClampNeg (I 35 2))) 35 5 ((cI I 36 37 (Int32.toNatClampNeg 0) (Int32.toNatClampNeg 0) (Int32.toNatClampNeg (I 35 2))) 35 2)) 35 1 (((uI (cI I 36 37 (Int32.toNatClampNeg 0) (Int32.toNatClampNeg 0) (Int32.toNatClampNeg (I 35 2))) 35 5 ((cI I 36 37 (Int32.toNatClampNeg 0) (Int32.toNatClampNeg 0) (Int32.toNatClampNeg (I 35 2))) 35 2)) 35 1) &&& ((1 <<< ((v1 - 1) &&& 31)) - 1))) 35 0) : Int32).toInt = (I 35 0).toInt := Eq.trans (congrArg Int32.toInt (Eq.trans (Eq.trans (rd_k (by decide)) (rd_k (by decide))) (rd_c (by omega)))) rfl
        have d29 : ¬ (((I 35 0).toInt) : Int) = (0) := ci_ne e28 rfl c27
        refine ⟨Or.inl rfl, ?_⟩
        exact hQ _ _ _ _ hB26 trivial
      · skip
        have e30 : (((uI (uI (cI I 36 37 (Int32.toNatClampNeg 0) (Int32.toNatClampNeg 0) (Int32.toNatClampNeg (I 35 2))) 35 5 ((cI I 36 37 (Int32.toNatClampNeg 0) (Int32.toNatClampNeg 0) (Int32.toNatClampNeg (I 35 2))) 35 2)) 35 1 (((uI (cI I 36 37 (Int32.toNatClampNeg 0) (Int32.toNatClampNeg 0) (Int32.toNatClampNeg (I 35 2))) 35 5 ((cI I 36 37 (Int32.toNatClampNeg 0) (Int32.toNatClampNeg 0) (Int32.toNatClampNeg (I 35 2))) 35 2)) 35 1) &&& ((1 <<< ((v1 - 1) &&& 31)) - 1))) 35 0) : Int32).toInt = (I 35 0).toInt := Eq.trans (congrArg Int32.toInt (Eq.trans (Eq.trans (rd_k (by decide)) (rd_k (by decide))) (rd_c (by omega)))) rfl
        have d31 : (((I 35 0).toInt) : Int) = (0) := ci_eq e30 rfl c27
        refine ⟨Or.inr rfl, ?_⟩
        exact hQ _ _ _ _ hB26 trivial
  · skip
    have d32 : (((I 35 0).toInt) : Int) = (1) := ci_eq rfl rfl c9
    have hB33 : Bd (uI I 35 6 ((I 35 6) + 1)) := Bd.o0 hB0 io9_112_35_7 (by omega) bd9_7_6
    exact (L 1000000) _ _ _ hB33 (by have q0 : (0 : Int32).toInt = 0 := rfl; omega) (by have q0 : (0 : Int32).toInt = 0 := rfl; omega)
