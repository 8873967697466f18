set_option maxHeartbeats 2000000 in
theorem sp_X10_put {d : Nat} {Q : Qt} {v0 : Nat} {v1 : Int32} {v2 : Int64} {I : Im} {J : Jm} {R : Rm} (hB0 : Bd I) (hR0 : RI R) (ho0 : isO 112 v0 10 = true) (hQ : ∀ (x : Int32) (y : Int64) (I2 : Im) (J2 : Jm), Bd I2 → (True) → Q x y I2 J2 R) : AM (d + 2) 98 112 [.ref v0, .int v1, .long v2] I J R Q := by
  have i_v1 := i32 v1
  have i_v2 := i64 v2
  refine am_X10_put (fun P hc => ?_)
  refine sg_X10_put_0 hc _ _ _ _ _ _ ?_
  refine bif_t ho0 ?_
  refine w_X10_hasPlaces ?_
  refine ⟨fun c1 => ?_, fun c1 => ?_⟩
  · skip
    have d2 : ((v1.toInt) : Int) < (0) := ci_lt rfl rfl c1
    refine ⟨Or.inl rfl, ?_⟩
    intro o3
    refine ⟨fun c4 => ?_, fun c4 => ?_⟩
    · skip
      exact hQ _ _ _ _ hB0 trivial
    · exact absurd c4 (by decide)
  · skip
    have d5 : ((0) : Int) ≤ (v1.toInt) := ci_nlt rfl rfl c1
    refine ⟨fun c6 => ?_, fun c6 => ?_⟩
    · exact absurd c6 (by decide)
    · skip
      refine bif_t ho0 ?_
      refine ⟨fun c7 => ?_, fun c7 => ?_⟩
      · skip
        rw [lg_cmp_gt] at c7
        have e8 : (((Int32.toInt64 v1) + (Int32.toInt64 1)) : Int64).toInt = (v1.toInt) + (1) := tl_add (tl_i2l rfl) (tl_i2l rfl) (by omega)
        have b9 := Bd.o hB0 ho0 (show bnd 10 1 = some _ from rfl)
        have d10 : (((I v0 1).toInt) : Int) < ((v1.toInt + 1)) := cl_lt (tl_i2l rfl) e8 c7
        refine ⟨Or.inl rfl, ?_⟩
        intro o11
        refine ⟨fun c12 => ?_, fun c12 => ?_⟩
        · skip
          exact hQ _ _ _ _ hB0 trivial
        · exact absurd c12 (by decide)
      · skip
        rw [lg_cmp_gt] at c7
        have e13 : (((Int32.toInt64 v1) + (Int32.toInt64 1)) : Int64).toInt = (v1.toInt) + (1) := tl_add (tl_i2l rfl) (tl_i2l rfl) (by omega)
        have b14 := Bd.o hB0 ho0 (show bnd 10 1 = some _ from rfl)
        have d15 : (((v1.toInt + 1)) : Int) ≤ ((I v0 1).toInt) := cl_nlt (tl_i2l rfl) e13 c7
        refine ⟨Or.inr rfl, ?_⟩
        intro o16
        refine ⟨fun c17 => ?_, fun c17 => ?_⟩
        · exact absurd c17 (by decide)
        · skip
          refine bif_t ho0 ?_
          refine bif_t ho0 ?_
          refine ⟨fun c18 => ?_, fun c18 => ?_⟩
          · skip
            have d19 : ¬ (((I v0 0).toInt) : Int) = (0) := ci_ne rfl rfl c18
            refine bif_t ho0 ?_
            refine ⟨fun c20 => ?_, fun c20 => ?_⟩
            · skip
              have d21 : ¬ (((I v0 0).toInt) : Int) = (1) := ci_ne rfl rfl c20
              refine bif_t ho0 ?_
              refine ⟨fun c22 => ?_, fun c22 => ?_⟩
              · skip
                have d23 : ¬ (((I v0 0).toInt) : Int) = (2) := ci_ne rfl rfl c22
                refine bif_t (fa_10_2 ho0).1 ?_
                refine ⟨by rw [(fa_10_2 ho0).2.1]; exact vp_of (a := v1.toInt) rfl (by omega) (by omega), ?_⟩
                exact hQ _ _ _ _ hB0 trivial
              · skip
                have d24 : (((I v0 0).toInt) : Int) = (2) := ci_eq rfl rfl c22
                refine bif_t (fa_10_2 ho0).1 ?_
                refine ⟨by rw [(fa_10_2 ho0).2.1]; exact vp_of (a := v1.toInt) rfl (by omega) (by omega), ?_⟩
                exact hQ _ _ _ _ hB0 trivial
            · skip
              have d25 : (((I v0 0).toInt) : Int) = (1) := ci_eq rfl rfl c20
              refine bif_t (fa_10_2 ho0).1 ?_
              refine ⟨by rw [(fa_10_2 ho0).2.1]; exact vp_of (a := v1.toInt) rfl (by omega) (by omega), ?_⟩
              exact hQ _ _ _ _ hB0 trivial
          · skip
            have d26 : (((I v0 0).toInt) : Int) = (0) := ci_eq rfl rfl c18
            refine bif_t (fa_10_2 ho0).1 ?_
            refine ⟨by rw [(fa_10_2 ho0).2.1]; exact vp_of (a := v1.toInt) rfl (by omega) (by omega), ?_⟩
            exact hQ _ _ _ _ hB0 trivial
set_option maxHeartbeats 2000000 in
theorem sp_X10_lay {d : Nat} {Q : Qt} {v0 : Nat} {v1 : Int32} {v2 : Int32} {I : Im} {J : Jm} {R : Rm} (hB0 : Bd I) (hR0 : RI R) (ho0 : isO 112 v0 10 = true) (hv2 : 0 ≤ v2.toInt ∧ v2.toInt ≤ 60) (hQ : ∀ (x : Int32) (y : Int64) (I2 : Im) (J2 : Jm), Bd I2 → (True) → Q x y I2 J2 R) : AM (d + 2) 96 112 [.ref v0, .int v1, .int v2] I J R Q := by
  have i_v1 := i32 v1
  have i_v2 := i32 v2
  refine am_X10_lay (fun P hc => ?_)
  refine sg_X10_lay_0 hc _ _ _ _ _ _ ?_
  refine bif_t ho0 ?_
  have hB1 : Bd (uI I v0 0 v1) := Bd.o0 hB0 ho0 (by omega) (show bnd 10 0 = none from rfl)
  refine bif_t ho0 ?_
  have hB2 : Bd (uI (uI I v0 0 v1) v0 1 v2) := Bd.o1 hB1 ho0 (by omega) (show bnd 10 1 = some _ from rfl) (show (v2 : Int32).toInt = v2.toInt from rfl) (by omega)
  refine bif_t ho0 ?_
  refine sp_J7_fill_d0a16 hB2 hR0 (fa_10_2 ho0).1 (fun x3 y8 I4 J5 hB6 p7 => ?_)
  exact hQ _ _ _ _ hB6 trivial
set_option maxHeartbeats 2000000 in
theorem sp_X6_append {d : Nat} {Q : Qt} {v1 : Int32} {I : Im} {J : Jm} {R : Rm} (hB0 : Bd I) (hR0 : RI R) (hQ : ∀ (x : Int32) (y : Int64) (I2 : Im) (J2 : Jm), Bd I2 → (True) → Q x y I2 J2 R) : AM (d + 2) 60 112 [.ref 3, .int v1] I J R Q := by
  have i_v1 := i32 v1
  refine am_X6_append (fun P hc => ?_)
  have L : ∀ n : Nat, (∀ (v1 : Int32) (v2 : Int32) (I : Im) (J : Jm), Bd I → (-8 ≤ v2.toInt ∧ v2.toInt ≤ 24) → v2.toInt + 8 < (n : Int) → P 3 112 [(0, .ref 3), (1, .int v1), (2, .int v2)] [] I J R) := by
    intro n
    induction n with
    | zero =>
      exact fun v1 v2 I J _ hi hm => absurd hm (by omega)
    | succ n ih =>
      intro v1 v2 I J hB hi hm
      have i_v1 := i32 v1
      have i_v2 := i32 v2
      refine sg_X6_append_3 hc _ _ _ _ _ ?_
      refine ⟨fun c1 => ?_, fun c1 => ?_⟩
      · skip
        have d2 : ((v2.toInt) : Int) < (0) := ci_lt rfl rfl c1
        exact hQ _ _ _ _ hB trivial
      · skip
        have d3 : ((0) : Int) ≤ (v2.toInt) := ci_nlt rfl rfl c1
        refine w_X6_hasRoom ?_
        refine ⟨fun c4 => ?_, fun c4 => ?_⟩
        · skip
          have b5 := Bd.o hB (show isO 112 3 6 = true from rfl) (show bnd 6 1 = some _ from rfl)
          have e6 : (((I 3 1) + 1) : Int32).toInt = ((I 3 1).toInt) + (1) := ti_add rfl rfl (by omega)
          have d7 : ((900) : Int) < (((I 3 1).toInt + 1)) := ci_lt rfl e6 c4
          refine ⟨Or.inl rfl, ?_⟩
          intro o8
          refine ⟨fun c9 => ?_, fun c9 => ?_⟩
          · skip
            exact hQ _ _ _ _ hB trivial
          · exact absurd c9 (by decide)
        · skip
          have b10 := Bd.o hB (show isO 112 3 6 = true from rfl) (show bnd 6 1 = some _ from rfl)
          have e11 : (((I 3 1) + 1) : Int32).toInt = ((I 3 1).toInt) + (1) := ti_add rfl rfl (by omega)
          have d12 : ((((I 3 1).toInt + 1)) : Int) ≤ (900) := ci_nlt rfl e11 c4
          refine ⟨Or.inr rfl, ?_⟩
          intro o13
          refine ⟨fun c14 => ?_, fun c14 => ?_⟩
          · exact absurd c14 (by decide)
          · skip
            refine ⟨vp_of (a := (I 3 1).toInt) rfl (by omega) (by omega), ?_⟩
            have hB15 : Bd (uI I 4 (Int32.toNatClampNeg (I 3 1)) (Int32.toInt8 (Int32.toInt8 (Int32.toUInt32 v1 >>> (Int32.toUInt32 v2 &&& Int32.toUInt32 31)).toInt32).toInt32).toInt32) := Bd.a0 hB (show isA 112 4 2 = true from rfl) (show bna 4 = none from rfl)
            have b17 := Bd.o hB (show isO 112 3 6 = true from rfl) (show bnd 6 1 = some _ from rfl)
            have e18 : ((((uI I 4 (Int32.toNatClampNeg (I 3 1)) (Int32.toInt8 (Int32.toInt8 (Int32.toUInt32 v1 >>> (Int32.toUInt32 v2 &&& Int32.toUInt32 31)).toInt32).toInt32).toInt32) 3 1) + 1) : Int32).toInt = ((I 3 1).toInt) + (1) := ti_add rfl rfl (by omega)
            have hB16 : Bd (uI (uI I 4 (Int32.toNatClampNeg (I 3 1)) (Int32.toInt8 (Int32.toInt8 (Int32.toUInt32 v1 >>> (Int32.toUInt32 v2 &&& Int32.toUInt32 31)).toInt32).toInt32).toInt32) 3 1 (((uI I 4 (Int32.toNatClampNeg (I 3 1)) (Int32.toInt8 (Int32.toInt8 (Int32.toUInt32 v1 >>> (Int32.toUInt32 v2 &&& Int32.toUInt32 31)).toInt32).toInt32).toInt32) 3 1) + 1)) := Bd.o1 hB15 (show isO 112 3 6 = true from rfl) (by omega) (show bnd 6 1 = some _ from rfl) (show ((((uI I 4 (Int32.toNatClampNeg (I 3 1)) (Int32.toInt8 (Int32.toInt8 (Int32.toUInt32 v1 >>> (Int32.toUInt32 v2 &&& Int32.toUInt32 31)).toInt32).toInt32).toInt32) 3 1) + 1) : Int32).toInt = ((I 3 1).toInt + 1) from e18) (by omega)
            have e19 : ((v2 + (-8)) : Int32).toInt = (v2.toInt) + ((-8)) := ti_add rfl rfl (by omega)
            exact ih _ _ _ _ hB16 (by have q0 : ((v2 + (-8)) : Int32).toInt = (v2.toInt + (-8)) := e19; omega) (by have q0 : ((v2 + (-8)) : Int32).toInt = (v2.toInt + (-8)) := e19; omega)
  refine sg_X6_append_0 hc _ _ _ _ ?_
  exact (L 1000000) _ _ _ _ hB0 (by have q0 : (24 : Int32).toInt = 24 := rfl; omega) (by have q0 : (24 : Int32).toInt = 24 := rfl; omega)
