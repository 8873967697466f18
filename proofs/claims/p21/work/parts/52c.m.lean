set_option maxHeartbeats 2000000 in
theorem sp_X12_plates {d : Nat} {Q : Qt} {v1 : Int32} {I : Im} {J : Jm} {R : Rm} (hB0 : Bd I) (hR0 : RI R) (hp30 : pcn v1 30 ≤ 12) (hQ : ∀ (x : Int32) (y : Int64) (I2 : Im) (J2 : Jm), Bd I2 → (True) → Q x y I2 J2 R) : AM (d + 2) 299 112 [.ref 97, .int v1] I J R Q := by
  have i_v1 := i32 v1
  refine am_X12_plates (fun P hc => ?_)
  have L : ∀ n : Nat, (∀ (v2 : Int32) (v3 : Int32) (M : Im) (JM : Jm), Bd M → (v2.toInt = pcn v1 (v3.toInt - 1).toNat) → (MM M v2.toInt) → (0 ≤ v2.toInt ∧ v2.toInt ≤ 12 ∧ 1 ≤ v3.toInt ∧ v3.toInt ≤ 31) → 100000000 - v3.toInt < (n : Int) → P 4 112 [(0, .ref 97), (1, .int v1), (2, .int v2), (3, .int v3)] [] M JM R) ∧ (∀ (v2 : Int32) (v3 : Int32) (M : Im) (JM : Jm), Bd M → (MM M v2.toInt) → (0 ≤ v2.toInt ∧ v2.toInt ≤ 12 ∧ -1 ≤ v3.toInt ∧ v3.toInt ≤ 4095) → 100 * v3.toInt + 200 < (n : Int) → P 45 112 [(0, .ref 97), (2, .int v2), (3, .int v3)] [] M JM R) ∧ (∀ (v2 : Int32) (v3 : Int32) (v4 : Int64) (v6 : Int32) (M : Im) (JM : Jm), Bd M → (MM M v2.toInt) → (0 ≤ v2.toInt ∧ v2.toInt ≤ 12 ∧ 0 ≤ v3.toInt ∧ v3.toInt ≤ 4095 ∧ 0 ≤ v6.toInt ∧ v6.toInt ≤ v2.toInt) → 100 * v3.toInt + 199 - v6.toInt < (n : Int) → P 57 112 [(0, .ref 97), (2, .int v2), (3, .int v3), (4, .long v4), (6, .int v6)] [] M JM R) ∧ (∀ (v2 : Int32) (v3 : Int32) (v4 : Int64) (v6 : Int32) (M : Im) (JM : Jm), Bd M → (MM M v2.toInt) → (0 ≤ v2.toInt ∧ v2.toInt ≤ 12 ∧ 0 ≤ v3.toInt ∧ v3.toInt ≤ 4095 ∧ -1 ≤ v6.toInt ∧ v6.toInt < v2.toInt) → 100 * v3.toInt + 150 + v6.toInt < (n : Int) → P 109 112 [(0, .ref 97), (2, .int v2), (3, .int v3), (4, .long v4), (6, .int v6)] [] M JM R) := by
    intro n
    induction n with
    | zero =>
      exact ⟨fun v2 v3 M J _ _ _ hi hm => absurd hm (by omega), fun v2 v3 M J _ _ hi hm => absurd hm (by omega), fun v2 v3 v4 v6 M J _ _ hi hm => absurd hm (by omega), fun v2 v3 v4 v6 M J _ _ hi hm => absurd hm (by omega)⟩
    | succ n ih =>
      refine ⟨?_, ?_, ?_, ?_⟩
      · skip
        intro v2 v3 M JM hB hq_0 hq_1 hi hm
        have i_v1 := i32 v1
        have i_v2 := i32 v2
        have i_v3 := i32 v3
        refine sg_X12_plates_4 hc _ _ _ _ _ _ ?_
        refine ⟨fun c1 => ?_, fun c1 => ?_⟩
        · skip
          have d2 : ((30) : Int) < (v3.toInt) := ci_lt rfl rfl c1
          have hn12 : v2.toInt ≤ 12 := by have := pcn_le (s := v1) (a := (v3.toInt - 1).toNat) (b := 30) (by omega); omega
          have s3 := shl1 (show (v2 : Int32).toInt = v2.toInt from rfl) (by omega)
          have e4 : (((1 <<< (v2 &&& 31)) - 1) : Int32).toInt = (((1 <<< (v2 &&& 31)) : Int32).toInt) - (1) := ti_sub rfl rfl (by omega)
          have hv5 : MM M v2.toInt := hq_1
          exact ih.2.1 _ _ _ _ hB hv5 (by have q0 : (v2 : Int32).toInt = v2.toInt := rfl; have q1 : (((1 <<< (v2 &&& 31)) - 1) : Int32).toInt = (((1 <<< (v2 &&& 31)) : Int32).toInt - 1) := e4; omega) (by have q0 : (((1 <<< (v2 &&& 31)) - 1) : Int32).toInt = (((1 <<< (v2 &&& 31)) : Int32).toInt - 1) := e4; omega)
        · skip
          have d6 : ((v3.toInt) : Int) ≤ (30) := ci_nlt rfl rfl c1
          refine w_X12_isOf ?_
          refine ⟨fun c7 => ?_, fun c7 => ?_⟩
          · skip
            have d8 : ¬ (((((v1 >>> ((v3 - 1) &&& 31)) &&& 1) : Int32).toInt) : Int) = (1) := ci_ne rfl rfl c7
            refine ⟨Or.inl rfl, ?_⟩
            intro o9
            refine ⟨fun c10 => ?_, fun c10 => ?_⟩
            · exact absurd c10 (by decide)
            · skip
              have e11 : ((v3 + 1) : Int32).toInt = (v3.toInt) + (1) := ti_add rfl rfl (by omega)
              have hv12 : v2.toInt = pcn v1 ((v3 + 1).toInt - 1).toNat := (by have z1 : v2.toInt + 0 = pcn v1 (((v3 + 1)).toInt - 1).toNat := pcn_to hq_0 (by omega) (ti_add rfl rfl (by omega)) (pcb0 c7); rw [← z1]; omega)
              have hv13 : MM M v2.toInt := hq_1
              exact ih.1 _ _ _ _ hB hv12 hv13 (by have q0 : (v2 : Int32).toInt = v2.toInt := rfl; have q1 : ((v3 + 1) : Int32).toInt = (v3.toInt + 1) := e11; omega) (by have q0 : ((v3 + 1) : Int32).toInt = (v3.toInt + 1) := e11; omega)
          · skip
            have d14 : (((((v1 >>> ((v3 - 1) &&& 31)) &&& 1) : Int32).toInt) : Int) = (1) := ci_eq rfl rfl c7
            refine ⟨Or.inr rfl, ?_⟩
            intro o15
            refine ⟨fun c16 => ?_, fun c16 => ?_⟩
            · skip
              have hn11 := pcn_lt hq_0 (by omega) hp30 c7
              refine ⟨vp_of (a := v2.toInt) rfl (by omega) (by omega), ?_⟩
              have hB17 : Bd (uI M 109 (Int32.toNatClampNeg v2) v3) := Bd.a0 hB (show isA 112 109 0 = true from rfl) (show bna 109 = none from rfl)
              have e18 : ((v2 + 1) : Int32).toInt = (v2.toInt) + (1) := ti_add rfl rfl (by omega)
              have e19 : ((v3 + 1) : Int32).toInt = (v3.toInt) + (1) := ti_add rfl rfl (by omega)
              have hv20 : (v2 + 1).toInt = pcn v1 ((v3 + 1).toInt - 1).toNat := (by have z1 : ((v2 + 1) : Int32).toInt = v2.toInt + 1 := ti_add rfl rfl (by omega); rw [z1]; exact pcn_to hq_0 (by omega) (ti_add rfl rfl (by omega)) (pcb1 c7))
              have hv21 : MM (uI M 109 (Int32.toNatClampNeg v2) v3) (v2 + 1).toInt := (MM.add hq_1 (by omega) (ti_add rfl rfl (by omega)) (by omega))
              exact ih.1 _ _ _ _ hB17 hv20 hv21 (by have q0 : ((v2 + 1) : Int32).toInt = (v2.toInt + 1) := e18; have q1 : ((v3 + 1) : Int32).toInt = (v3.toInt + 1) := e19; omega) (by have q0 : ((v3 + 1) : Int32).toInt = (v3.toInt + 1) := e19; omega)
            · exact absurd c16 (by decide)
      · skip
        intro v2 v3 M JM hB hq_0 hi hm
        have i_v2 := i32 v2
        have i_v3 := i32 v3
        refine sg_X12_plates_45 hc _ _ _ _ _ ?_
        refine ⟨fun c22 => ?_, fun c22 => ?_⟩
        · skip
          have d23 : ((v3.toInt) : Int) < (0) := ci_lt rfl rfl c22
          refine ⟨vp_of (a := 0) rfl (by omega) (by omega), ?_⟩
          exact hQ _ _ _ _ hB trivial
        · skip
          have d24 : ((0) : Int) ≤ (v3.toInt) := ci_nlt rfl rfl c22
          have hv25 : MM M v2.toInt := hq_0
          exact ih.2.2.1 _ _ _ _ _ _ hB hv25 (by have q0 : (v2 : Int32).toInt = v2.toInt := rfl; have q1 : (v3 : Int32).toInt = v3.toInt := rfl; have q2 : (0 : Int32).toInt = 0 := rfl; omega) (by have q0 : (v3 : Int32).toInt = v3.toInt := rfl; have q1 : (0 : Int32).toInt = 0 := rfl; omega)
      · skip
        intro v2 v3 v4 v6 M JM hB hq_0 hi hm
        have i_v2 := i32 v2
        have i_v3 := i32 v3
        have i_v4 := i64 v4
        have i_v6 := i32 v6
        refine sg_X12_plates_57 hc _ _ _ _ _ _ _ ?_
        refine ⟨fun c26 => ?_, fun c26 => ?_⟩
        · skip
          have d27 : ((v2.toInt) : Int) ≤ (v6.toInt) := ci_le rfl rfl c26
          refine ⟨vp_of (a := v3.toInt) rfl (by omega) (by omega), ?_⟩
          have hB28 : Bd (uI M 110 (Int32.toNatClampNeg v3) (-1)) := Bd.a0 hB (show isA 112 110 0 = true from rfl) (show bna 110 = none from rfl)
          have e29 : ((v2 - 1) : Int32).toInt = (v2.toInt) - (1) := ti_sub rfl rfl (by omega)
          have hv30 : MM (uI M 110 (Int32.toNatClampNeg v3) (-1)) v2.toInt := (MM.o hq_0)
          exact ih.2.2.2 _ _ _ _ _ _ hB28 hv30 (by have q0 : (v2 : Int32).toInt = v2.toInt := rfl; have q1 : (v3 : Int32).toInt = v3.toInt := rfl; have q2 : ((v2 - 1) : Int32).toInt = (v2.toInt - 1) := e29; omega) (by have q0 : (v3 : Int32).toInt = v3.toInt := rfl; have q1 : ((v2 - 1) : Int32).toInt = (v2.toInt - 1) := e29; omega)
        · skip
          have d31 : ((v6.toInt) : Int) < (v2.toInt) := ci_nle rfl rfl c26
          refine w_X12_isOf ?_
          refine ⟨fun c32 => ?_, fun c32 => ?_⟩
          · skip
            have d33 : ¬ (((((v3 >>> (v6 &&& 31)) &&& 1) : Int32).toInt) : Int) = (1) := ci_ne rfl rfl c32
            refine ⟨Or.inl rfl, ?_⟩
            intro o34
            refine ⟨fun c35 => ?_, fun c35 => ?_⟩
            · skip
              have e36 : ((v6 + 1) : Int32).toInt = (v6.toInt) + (1) := ti_add rfl rfl (by omega)
              have hv37 : MM M v2.toInt := hq_0
              exact ih.2.2.1 _ _ _ _ _ _ hB hv37 (by have q0 : (v2 : Int32).toInt = v2.toInt := rfl; have q1 : (v3 : Int32).toInt = v3.toInt := rfl; have q2 : ((v6 + 1) : Int32).toInt = (v6.toInt + 1) := e36; omega) (by have q0 : (v3 : Int32).toInt = v3.toInt := rfl; have q1 : ((v6 + 1) : Int32).toInt = (v6.toInt + 1) := e36; omega)
            · exact absurd c35 (by decide)
          · skip
            have d38 : (((((v3 >>> (v6 &&& 31)) &&& 1) : Int32).toInt) : Int) = (1) := ci_eq rfl rfl c32
            refine ⟨Or.inr rfl, ?_⟩
            intro o39
            refine ⟨fun c40 => ?_, fun c40 => ?_⟩
            · exact absurd c40 (by decide)
            · skip
              refine ⟨vp_of (a := v6.toInt) rfl (by omega) (by omega), ?_⟩
              refine w_X12_partsOf ?_
              have hm41 := hq_0 v6 (by omega) (by omega)
              have i42 := i32 ((M 109 (Int32.toNatClampNeg v6)))
              refine ⟨(fun z => by have z2 : ((M 109 (Int32.toNatClampNeg v6)).toInt : Int) = 0 := cl_eq (tl_i2l rfl) rfl z; omega), ?_⟩
              have e43 : ((v6 + 1) : Int32).toInt = (v6.toInt) + (1) := ti_add rfl rfl (by omega)
              have hv44 : MM M v2.toInt := hq_0
              exact ih.2.2.1 _ _ _ _ _ _ hB hv44 (by have q0 : (v2 : Int32).toInt = v2.toInt := rfl; have q1 : (v3 : Int32).toInt = v3.toInt := rfl; have q2 : ((v6 + 1) : Int32).toInt = (v6.toInt + 1) := e43; omega) (by have q0 : (v3 : Int32).toInt = v3.toInt := rfl; have q1 : ((v6 + 1) : Int32).toInt = (v6.toInt + 1) := e43; omega)
      · skip
        intro v2 v3 v4 v6 M JM hB hq_0 hi hm
        have i_v2 := i32 v2
        have i_v3 := i32 v3
        have i_v4 := i64 v4
        have i_v6 := i32 v6
        refine sg_X12_plates_109 hc _ _ _ _ _ _ _ ?_
        refine ⟨fun c45 => ?_, fun c45 => ?_⟩
        · skip
          have d46 : ((v6.toInt) : Int) < (0) := ci_lt rfl rfl c45
          have e47 : ((v3 + (-1)) : Int32).toInt = (v3.toInt) + ((-1)) := ti_add rfl rfl (by omega)
          have hv48 : MM M v2.toInt := hq_0
          exact ih.2.1 _ _ _ _ hB hv48 (by have q0 : (v2 : Int32).toInt = v2.toInt := rfl; have q1 : ((v3 + (-1)) : Int32).toInt = (v3.toInt + (-1)) := e47; omega) (by have q0 : ((v3 + (-1)) : Int32).toInt = (v3.toInt + (-1)) := e47; omega)
        · skip
          have d49 : ((0) : Int) ≤ (v6.toInt) := ci_nlt rfl rfl c45
          refine w_X12_isOf ?_
          refine ⟨fun c50 => ?_, fun c50 => ?_⟩
          · skip
            have d51 : ¬ (((((v3 >>> (v6 &&& 31)) &&& 1) : Int32).toInt) : Int) = (1) := ci_ne rfl rfl c50
            refine ⟨Or.inl rfl, ?_⟩
            intro o52
            refine ⟨fun c53 => ?_, fun c53 => ?_⟩
            · exact absurd c53 (by decide)
            · skip
              refine ⟨vp_of (a := v6.toInt) rfl (by omega) (by omega), ?_⟩
              refine w_X12_partsOf ?_
              have hm54 := hq_0 v6 (by omega) (by omega)
              have i55 := i32 ((M 109 (Int32.toNatClampNeg v6)))
              refine ⟨(fun z => by have z2 : ((M 109 (Int32.toNatClampNeg v6)).toInt : Int) = 0 := cl_eq (tl_i2l rfl) rfl z; omega), ?_⟩
              refine ⟨fun c56 => ?_, fun c56 => ?_⟩
              · skip
                rw [lg_cmp_gt] at c56
                have d57 : (((v4 : Int64).toInt) : Int) < (((2329089562800 / (Int32.toInt64 (M 109 (Int32.toNatClampNeg v6)))) : Int64).toInt) := cl_lt rfl rfl c56
                have e58 : ((v6 + (-1)) : Int32).toInt = (v6.toInt) + ((-1)) := ti_add rfl rfl (by omega)
                have hv59 : MM M v2.toInt := hq_0
                exact ih.2.2.2 _ _ _ _ _ _ hB hv59 (by have q0 : (v2 : Int32).toInt = v2.toInt := rfl; have q1 : (v3 : Int32).toInt = v3.toInt := rfl; have q2 : ((v6 + (-1)) : Int32).toInt = (v6.toInt + (-1)) := e58; omega) (by have q0 : (v3 : Int32).toInt = v3.toInt := rfl; have q1 : ((v6 + (-1)) : Int32).toInt = (v6.toInt + (-1)) := e58; omega)
              · skip
                rw [lg_cmp_gt] at c56
                have d60 : ((((2329089562800 / (Int32.toInt64 (M 109 (Int32.toNatClampNeg v6)))) : Int64).toInt) : Int) ≤ ((v4 : Int64).toInt) := cl_nlt rfl rfl c56
                have s61 := shl1 (show (v6 : Int32).toInt = v6.toInt from rfl) (by omega)
                have s62 := or12 (show (v3 : Int32).toInt = v3.toInt from rfl) (show ((1 <<< (v6 &&& 31)) : Int32).toInt = ((1 <<< (v6 &&& 31)) : Int32).toInt from rfl) (by omega) (by omega)
                refine ⟨vp_of (a := ((v3 ||| (1 <<< (v6 &&& 31))) : Int32).toInt) rfl (by omega) (by omega), ?_⟩
                refine ⟨fun c63 => ?_, fun c63 => ?_⟩
                · skip
                  have d64 : ((0) : Int) ≤ ((M 110 (Int32.toNatClampNeg (v3 ||| (1 <<< (v6 &&& 31))))).toInt) := ci_le rfl rfl c63
                  have e65 : ((v6 + (-1)) : Int32).toInt = (v6.toInt) + ((-1)) := ti_add rfl rfl (by omega)
                  have hv66 : MM M v2.toInt := hq_0
                  exact ih.2.2.2 _ _ _ _ _ _ hB hv66 (by have q0 : (v2 : Int32).toInt = v2.toInt := rfl; have q1 : (v3 : Int32).toInt = v3.toInt := rfl; have q2 : ((v6 + (-1)) : Int32).toInt = (v6.toInt + (-1)) := e65; omega) (by have q0 : (v3 : Int32).toInt = v3.toInt := rfl; have q1 : ((v6 + (-1)) : Int32).toInt = (v6.toInt + (-1)) := e65; omega)
                · skip
                  have d67 : (((M 110 (Int32.toNatClampNeg (v3 ||| (1 <<< (v6 &&& 31))))).toInt) : Int) < (0) := ci_nle rfl rfl c63
                  refine ⟨vp_of (a := v6.toInt) rfl (by omega) (by omega), ?_⟩
                  refine ⟨vp_of (a := v3.toInt) rfl (by omega) (by omega), ?_⟩
                  have hB68 : Bd (uI M 110 (Int32.toNatClampNeg v3) (M 109 (Int32.toNatClampNeg v6))) := Bd.a0 hB (show isA 112 110 0 = true from rfl) (show bna 110 = none from rfl)
                  have e69 : ((v6 + (-1)) : Int32).toInt = (v6.toInt) + ((-1)) := ti_add rfl rfl (by omega)
                  have hv70 : MM (uI M 110 (Int32.toNatClampNeg v3) (M 109 (Int32.toNatClampNeg v6))) v2.toInt := (MM.o hq_0)
                  exact ih.2.2.2 _ _ _ _ _ _ hB68 hv70 (by have q0 : (v2 : Int32).toInt = v2.toInt := rfl; have q1 : (v3 : Int32).toInt = v3.toInt := rfl; have q2 : ((v6 + (-1)) : Int32).toInt = (v6.toInt + (-1)) := e69; omega) (by have q0 : (v3 : Int32).toInt = v3.toInt := rfl; have q1 : ((v6 + (-1)) : Int32).toInt = (v6.toInt + (-1)) := e69; omega)
          · skip
            have d71 : (((((v3 >>> (v6 &&& 31)) &&& 1) : Int32).toInt) : Int) = (1) := ci_eq rfl rfl c50
            refine ⟨Or.inr rfl, ?_⟩
            intro o72
            refine ⟨fun c73 => ?_, fun c73 => ?_⟩
            · skip
              have e74 : ((v6 + (-1)) : Int32).toInt = (v6.toInt) + ((-1)) := ti_add rfl rfl (by omega)
              have hv75 : MM M v2.toInt := hq_0
              exact ih.2.2.2 _ _ _ _ _ _ hB hv75 (by have q0 : (v2 : Int32).toInt = v2.toInt := rfl; have q1 : (v3 : Int32).toInt = v3.toInt := rfl; have q2 : ((v6 + (-1)) : Int32).toInt = (v6.toInt + (-1)) := e74; omega) (by have q0 : (v3 : Int32).toInt = v3.toInt := rfl; have q1 : ((v6 + (-1)) : Int32).toInt = (v6.toInt + (-1)) := e74; omega)
            · exact absurd c73 (by decide)
  refine sg_X12_plates_0 hc _ _ _ _ ?_
  have hv76 : (0 : Int32).toInt = pcn v1 ((1 : Int32).toInt - 1).toNat := rfl
  have hv77 : MM I (0 : Int32).toInt := (MM.zero (Int.le_refl 0))
  exact (L 200000000).1 _ _ _ _ hB0 hv76 hv77 (by have q0 : (0 : Int32).toInt = 0 := rfl; have q1 : (1 : Int32).toInt = 1 := rfl; omega) (by have q0 : (1 : Int32).toInt = 1 := rfl; omega)
set_option maxHeartbeats 2000000 in
theorem sp_X12_plate {d : Nat} {Q : Qt} {v1 : Int32} {I : Im} {J : Jm} {R : Rm} (hB0 : Bd I) (hR0 : RI R) (hQ : ∀ (x : Int32) (y : Int64) (I2 : Im) (J2 : Jm), Bd I2 → (True) → Q x y I2 J2 R) : AM (d + 4) 297 112 [.ref 97, .int v1] I J R Q := by
  have i_v1 := i32 v1
  refine w_X12_plate ?_
  have hB1 : Bd (uI I 97 1 0) := Bd.o0 hB0 (show isO 112 97 12 = true from rfl) (by omega) (show bnd 12 1 = none from rfl)
  have hB2 : Bd (uI (uI I 97 1 0) 97 0 0) := Bd.o0 hB1 (show isO 112 97 12 = true from rfl) (by omega) (show bnd 12 0 = none from rfl)
  refine w_X12_isSet ?_
  refine w_X12_isIn ?_
  refine ⟨fun c3 => ?_, fun c3 => ?_⟩
  · skip
    rw [lg_cmp_lt] at c3
    have d4 : ((v1.toInt) : Int) < (0) := cl_lt (tl_i2l rfl) rfl c3
    refine ⟨Or.inl rfl, ?_⟩
    intro o5
    refine ⟨fun c6 => ?_, fun c6 => ?_⟩
    · skip
      refine ⟨Or.inl rfl, ?_⟩
      intro o7
      refine ⟨fun c8 => ?_, fun c8 => ?_⟩
      · exact absurd c8 (by decide)
      · skip
        refine w_X12_refuse ?_
        have hB9 : Bd (uI (uI (uI I 97 1 0) 97 0 0) 97 0 5) := Bd.o0 hB2 (show isO 112 97 12 = true from rfl) (by omega) (show bnd 12 0 = none from rfl)
        exact hQ _ _ _ _ hB9 trivial
    · exact absurd c6 (by decide)
  · skip
    rw [lg_cmp_lt] at c3
    have d10 : ((0) : Int) ≤ (v1.toInt) := cl_nlt (tl_i2l rfl) rfl c3
    refine ⟨fun c11 => ?_, fun c11 => ?_⟩
    · skip
      rw [lg_cmp_gt] at c11
      have d12 : ((1073741823) : Int) < (v1.toInt) := cl_lt rfl (tl_i2l rfl) c11
      refine ⟨Or.inl rfl, ?_⟩
      intro o13
      refine ⟨fun c14 => ?_, fun c14 => ?_⟩
      · skip
        refine ⟨Or.inl rfl, ?_⟩
        intro o15
        refine ⟨fun c16 => ?_, fun c16 => ?_⟩
        · exact absurd c16 (by decide)
        · skip
          refine w_X12_refuse ?_
          have hB17 : Bd (uI (uI (uI I 97 1 0) 97 0 0) 97 0 5) := Bd.o0 hB2 (show isO 112 97 12 = true from rfl) (by omega) (show bnd 12 0 = none from rfl)
          exact hQ _ _ _ _ hB17 trivial
      · exact absurd c14 (by decide)
    · skip
      rw [lg_cmp_gt] at c11
      have d18 : ((v1.toInt) : Int) ≤ (1073741823) := cl_nlt rfl (tl_i2l rfl) c11
      refine ⟨Or.inr rfl, ?_⟩
      intro o19
      refine ⟨fun c20 => ?_, fun c20 => ?_⟩
      · exact absurd c20 (by decide)
      · skip
        refine sp_X12_sizeOf hB2 hR0 (fun x21 y26 I22 J23 hB24 p25 => ?_)
        obtain ⟨heI22, p25⟩ := p25
        subst heI22
        have i27 := i32 x21
        refine ⟨fun c28 => ?_, fun c28 => ?_⟩
        · skip
          have d29 : ((12) : Int) < (x21.toInt) := ci_lt rfl rfl c28
          refine ⟨Or.inl rfl, ?_⟩
          intro o30
          refine ⟨fun c31 => ?_, fun c31 => ?_⟩
          · exact absurd c31 (by decide)
          · skip
            refine w_X12_refuse ?_
            have hB32 : Bd (uI (uI (uI I 97 1 0) 97 0 0) 97 0 5) := Bd.o0 hB2 (show isO 112 97 12 = true from rfl) (by omega) (show bnd 12 0 = none from rfl)
            exact hQ _ _ _ _ hB32 trivial
        · skip
          have d33 : ((x21.toInt) : Int) ≤ (12) := ci_nlt rfl rfl c28
          refine ⟨Or.inr rfl, ?_⟩
          intro o34
          refine ⟨fun c35 => ?_, fun c35 => ?_⟩
          · skip
            refine sp_X12_plates hB2 hR0 (by omega) (fun x36 y41 I37 J38 hB39 p40 => ?_)
            have i42 := i32 x36
            refine ⟨fun c43 => ?_, fun c43 => ?_⟩
            · skip
              have d44 : ((x36.toInt) : Int) ≤ (0) := ci_le rfl rfl c43
              exact hQ _ _ _ _ hB39 trivial
            · skip
              have d45 : ((0) : Int) < (x36.toInt) := ci_nle rfl rfl c43
              exact hQ _ _ _ _ hB39 trivial
          · exact absurd c35 (by decide)
set_option maxHeartbeats 2000000 in
theorem sp_X12_plateMove {d : Nat} {Q : Qt} {v1 : Int32} {I : Im} {J : Jm} {R : Rm} (hB0 : Bd I) (hR0 : RI R) (hQ : ∀ (x : Int32) (y : Int64) (I2 : Im) (J2 : Jm), Bd I2 → (True) → Q x y I2 J2 R) : AM (d + 4) 298 112 [.ref 97, .int v1] I J R Q := by
  have i_v1 := i32 v1
  refine w_X12_plateMove ?_
  have hB1 : Bd (uI I 97 1 0) := Bd.o0 hB0 (show isO 112 97 12 = true from rfl) (by omega) (show bnd 12 1 = none from rfl)
  have hB2 : Bd (uI (uI I 97 1 0) 97 0 0) := Bd.o0 hB1 (show isO 112 97 12 = true from rfl) (by omega) (show bnd 12 0 = none from rfl)
  refine w_X12_isSet ?_
  refine w_X12_isIn ?_
  refine ⟨fun c3 => ?_, fun c3 => ?_⟩
  · skip
    rw [lg_cmp_lt] at c3
    have d4 : ((v1.toInt) : Int) < (0) := cl_lt (tl_i2l rfl) rfl c3
    refine ⟨Or.inl rfl, ?_⟩
    intro o5
    refine ⟨fun c6 => ?_, fun c6 => ?_⟩
    · skip
      refine ⟨Or.inl rfl, ?_⟩
      intro o7
      refine ⟨fun c8 => ?_, fun c8 => ?_⟩
      · skip
        refine w_X12_refuse ?_
        have hB9 : Bd (uI (uI (uI I 97 1 0) 97 0 0) 97 0 5) := Bd.o0 hB2 (show isO 112 97 12 = true from rfl) (by omega) (show bnd 12 0 = none from rfl)
        exact hQ _ _ _ _ hB9 trivial
      · exact absurd c8 (by decide)
    · exact absurd c6 (by decide)
  · skip
    rw [lg_cmp_lt] at c3
    have d10 : ((0) : Int) ≤ (v1.toInt) := cl_nlt (tl_i2l rfl) rfl c3
    refine ⟨fun c11 => ?_, fun c11 => ?_⟩
    · skip
      rw [lg_cmp_gt] at c11
      have d12 : ((1073741823) : Int) < (v1.toInt) := cl_lt rfl (tl_i2l rfl) c11
      refine ⟨Or.inl rfl, ?_⟩
      intro o13
      refine ⟨fun c14 => ?_, fun c14 => ?_⟩
      · skip
        refine ⟨Or.inl rfl, ?_⟩
        intro o15
        refine ⟨fun c16 => ?_, fun c16 => ?_⟩
        · skip
          refine w_X12_refuse ?_
          have hB17 : Bd (uI (uI (uI I 97 1 0) 97 0 0) 97 0 5) := Bd.o0 hB2 (show isO 112 97 12 = true from rfl) (by omega) (show bnd 12 0 = none from rfl)
          exact hQ _ _ _ _ hB17 trivial
        · exact absurd c16 (by decide)
      · exact absurd c14 (by decide)
    · skip
      rw [lg_cmp_gt] at c11
      have d18 : ((v1.toInt) : Int) ≤ (1073741823) := cl_nlt rfl (tl_i2l rfl) c11
      refine ⟨Or.inr rfl, ?_⟩
      intro o19
      refine ⟨fun c20 => ?_, fun c20 => ?_⟩
      · exact absurd c20 (by decide)
      · skip
        refine sp_X12_sizeOf hB2 hR0 (fun x21 y26 I22 J23 hB24 p25 => ?_)
        obtain ⟨heI22, p25⟩ := p25
        subst heI22
        have i27 := i32 x21
        refine ⟨fun c28 => ?_, fun c28 => ?_⟩
        · skip
          have d29 : ((12) : Int) < (x21.toInt) := ci_lt rfl rfl c28
          refine ⟨Or.inl rfl, ?_⟩
          intro o30
          refine ⟨fun c31 => ?_, fun c31 => ?_⟩
          · skip
            refine w_X12_refuse ?_
            have hB32 : Bd (uI (uI (uI I 97 1 0) 97 0 0) 97 0 5) := Bd.o0 hB2 (show isO 112 97 12 = true from rfl) (by omega) (show bnd 12 0 = none from rfl)
            exact hQ _ _ _ _ hB32 trivial
          · exact absurd c31 (by decide)
        · skip
          have d33 : ((x21.toInt) : Int) ≤ (12) := ci_nlt rfl rfl c28
          refine ⟨Or.inr rfl, ?_⟩
          intro o34
          refine ⟨fun c35 => ?_, fun c35 => ?_⟩
          · exact absurd c35 (by decide)
          · skip
            refine sp_X12_plates hB2 hR0 (by omega) (fun x36 y41 I37 J38 hB39 p40 => ?_)
            have i42 := i32 x36
            refine w_X12_answer ?_
            refine ⟨fun c43 => ?_, fun c43 => ?_⟩
            · skip
              have d44 : ((0) : Int) ≤ (x36.toInt) := ci_le rfl rfl c43
              exact hQ _ _ _ _ hB39 trivial
            · skip
              have d45 : ((x36.toInt) : Int) < (0) := ci_nle rfl rfl c43
              refine w_X12_refuse ?_
              have hB46 : Bd (uI I37 97 0 8) := Bd.o0 hB39 (show isO 112 97 12 = true from rfl) (by omega) (show bnd 12 0 = none from rfl)
              exact hQ _ _ _ _ hB46 trivial
