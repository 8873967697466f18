/-- the members are slices -/
def MM (I : Im) (n : Int) : Prop := ∀ k : Int32, 0 ≤ k.toInt → k.toInt < n → 1 ≤ (I 109 k.toNatClampNeg).toInt
theorem MM.zero {I : Im} {n : Int} (h : n ≤ 0) : MM I n := fun k h1 h2 => absurd h2 (by omega)
theorem MM.add {I : Im} {i v : Int32} {n : Int} (h : MM I i.toInt) (h0 : 0 ≤ i.toInt) (hn : n = i.toInt + 1) (hv : 1 ≤ v.toInt) : MM (uI I 109 (Int32.toNatClampNeg i) v) n := by
  intro k h1 h2
  by_cases q : k = i
  · rw [q, rd_eq]; exact hv
  · have h3 : ¬ k.toInt = i.toInt := fun z => q (Int32.toInt_inj.mp z)
    rw [rd_k (by have := tn_of (x := k) rfl h1; have := tn_of (x := i) rfl h0; omega)]
    exact h k h1 (by omega)
theorem MM.o {I : Im} {j : Nat} {v : Int32} {n : Int} (h : MM I n) : MM (uI I 110 j v) n := fun k h1 h2 => by
  rw [rd_ne (by decide)]; exact h k h1 h2
theorem pcn_lt {s i : Int32} {w : Int} (h : w = pcn s (i.toInt - 1).toNat) (h1 : 1 ≤ i.toInt ∧ i.toInt ≤ 30) (hp : pcn s 30 ≤ 12) (hb : ((s >>> ((i - 1) &&& 31)) &&& 1) = 1) : w ≤ 11 := by
  have h2 : (i - 1).toInt = i.toInt - 1 := ti_sub rfl rfl (by omega)
  have h3 := pcn_step (s := s) (i := i - 1) (z := i.toInt) (w := w) (b := 1) (by rw [h2]; exact h) (by omega) (by omega) (pcb1 hb)
  have h4 := pcn_le (s := s) (a := i.toInt.toNat) (b := 30) (by omega)
  omega
theorem pcn_to {s i : Int32} {w b z : Int} (h : w = pcn s (i.toInt - 1).toNat) (h1 : 1 ≤ i.toInt) (hz : z = i.toInt + 1) (hb : b = pcb s (i - 1)) : w + b = pcn s (z - 1).toNat := by
  have h2 : (i - 1).toInt = i.toInt - 1 := ti_sub rfl rfl (by have := i32 i; omega)
  exact pcn_step (s := s) (i := i - 1) (z := z - 1) (w := w) (b := b) (by rw [h2]; exact h) (by omega) (by omega) hb
/-- choices -/
def chz (m : Int32) : Nat → Int64
  | 0 => 1
  | j + 1 => (chz m j * Int32.toInt64 (m + Int32.ofNat (j + 1))) / Int32.toInt64 (Int32.ofNat (j + 1))
theorem chz_step {m i : Int32} {x : Int64} {z : Int} (h : x = chz m (i.toInt - 1).toNat) (h1 : 1 ≤ i.toInt) (hz : z = i.toInt + 1) : (x * Int32.toInt64 (m + i)) / Int32.toInt64 i = chz m (z - 1).toNat := by
  rw [show (z - 1).toNat = (i.toInt - 1).toNat + 1 by omega]
  show _ = (chz m (i.toInt - 1).toNat * Int32.toInt64 (m + Int32.ofNat ((i.toInt - 1).toNat + 1))) / Int32.toInt64 (Int32.ofNat ((i.toInt - 1).toNat + 1))
  rw [show (i.toInt - 1).toNat + 1 = i.toInt.toNat by omega, of_toNat (by omega), ← h]
theorem chz_pos {m : Int32} {k : Nat} (h : 0 ≤ m.toInt ∧ m.toInt ≤ 12) (hk : k ≤ 12) : 0 < (chz m k).toInt := by
  have hd : ∀ a, a < 13 → ∀ k, k < 13 → 0 < (chz (Int32.ofNat a) k).toInt := by decide +kernel
  rw [← of_toNat h.1]
  exact hd _ (by omega) k (by omega)
def p16 : Nat → Int64
  | 0 => 1
  | j + 1 => p16 j * 16
theorem p16_step {i : Int32} {x : Int64} {z : Int} (h : x = p16 i.toInt.toNat) (h1 : 0 ≤ i.toInt) (hz : z = i.toInt + 1) : x * 16 = p16 z.toNat := by
  rw [show z.toNat = i.toInt.toNat + 1 by omega, h]; rfl
theorem p16_pos {k : Nat} (hk : k ≤ 12) : ¬ p16 k = 0 := by
  have hd : ∀ k, k < 13 → ¬ p16 k = 0 := by decide +kernel
  exact hd k (by omega)
set_option maxHeartbeats 2000000 in
theorem sp_X12_greedyAt {d : Nat} {Q : Qt} {v1 : Int32} {v2 : Int32} {v3 : Int32} {I : Im} {J : Jm} {R : Rm} (hB0 : Bd I) (hR0 : RI R) (hQ : ∀ (x : Int32) (y : Int64) (I2 : Im) (J2 : Jm), Bd I2 → (True) → Q x y I2 J2 R) : AM (d + 3) 282 112 [.ref 97, .int v1, .int v2, .int v3] I J R Q := by
  have i_v1 := i32 v1
  have i_v2 := i32 v2
  have i_v3 := i32 v3
  refine am_X12_greedyAt (fun P hc => ?_)
  have L : ∀ n : Nat, (∀ (v4 : Int64) (v6 : Int64) (v8 : Int32) (M : Im) (JM : Jm), Bd M → (0 ≤ v4.toInt ∧ v4.toInt ≤ 29 ∧ 1 ≤ v6.toInt ∧ v6.toInt ≤ 300000000000000000 ∧ 0 ≤ v8.toInt ∧ v8.toInt + v4.toInt ≤ 29) → v4.toInt < (n : Int) → P 40 112 [(0, .ref 97), (3, .int v3), (4, .long v4), (6, .long v6), (8, .int v8)] [] M JM R) := by
    intro n
    induction n with
    | zero =>
      exact fun v4 v6 v8 M J _ hi hm => absurd hm (by omega)
    | succ n ih =>
      intro v4 v6 v8 M JM hB hi hm
      have i_v3 := i32 v3
      have i_v4 := i64 v4
      have i_v6 := i64 v6
      have i_v8 := i32 v8
      refine sg_X12_greedyAt_40 hc _ _ _ _ _ _ _ ?_
      refine ⟨fun c1 => ?_, fun c1 => ?_⟩
      · skip
        have d2 : ((v3.toInt) : Int) < (v8.toInt) := ci_lt rfl rfl c1
        refine w_X12_refuse ?_
        have hB3 : Bd (uI M 97 0 8) := Bd.o0 hB (show isO 112 97 12 = true from rfl) (by omega) (show bnd 12 0 = none from rfl)
        exact hQ _ _ _ _ hB3 trivial
      · skip
        have d4 : ((v8.toInt) : Int) ≤ (v3.toInt) := ci_nlt rfl rfl c1
        refine ⟨fun c5 => ?_, fun c5 => ?_⟩
        · skip
          rw [lg_cmp_le] at c5
          have d6 : (((v4 : Int64).toInt) : Int) ≤ (0) := cl_le rfl rfl c5
          refine w_X12_refuse ?_
          have hB7 : Bd (uI M 97 0 8) := Bd.o0 hB (show isO 112 97 12 = true from rfl) (by omega) (show bnd 12 0 = none from rfl)
          exact hQ _ _ _ _ hB7 trivial
        · skip
          rw [lg_cmp_le] at c5
          have d8 : ((0) : Int) < ((v4 : Int64).toInt) := cl_nle rfl rfl c5
          refine ⟨(fun z => by have z2 : ((v4 : Int64).toInt : Int) = 0 := cl_eq rfl rfl z; omega), ?_⟩
          refine ⟨fun c9 => ?_, fun c9 => ?_⟩
          · skip
            rw [lg_cmp_le] at c9
            have d10 : ((((((v6 + v4) - 1) / v4) : Int64).toInt) : Int) ≤ (100000000) := cl_le rfl rfl c9
            have hg := greedy1 (l := v4) (y := v6) (d := (((v6 + v4) - 1) / v4)) rfl rfl (by omega) (by omega) rfl (by omega)
            refine ⟨fun c11 => ?_, fun c11 => ?_⟩
            · skip
              have d12 : ¬ ((v8.toInt) : Int) = (v3.toInt) := ci_ne rfl rfl c11
              have e13 : ((v8 + 1) : Int32).toInt = (v8.toInt) + (1) := ti_add rfl rfl (by omega)
              exact ih _ _ _ _ _ hB (by have q0 : (((v4 * (((v6 + v4) - 1) / v4)) - v6) : Int64).toInt = (((v4 * (((v6 + v4) - 1) / v4)) - v6) : Int64).toInt := rfl; have q1 : ((v6 * (((v6 + v4) - 1) / v4)) : Int64).toInt = ((v6 * (((v6 + v4) - 1) / v4)) : Int64).toInt := rfl; have q2 : ((v8 + 1) : Int32).toInt = (v8.toInt + 1) := e13; omega) (by have q0 : (((v4 * (((v6 + v4) - 1) / v4)) - v6) : Int64).toInt = (((v4 * (((v6 + v4) - 1) / v4)) - v6) : Int64).toInt := rfl; omega)
            · skip
              have d14 : ((v8.toInt) : Int) = (v3.toInt) := ci_eq rfl rfl c11
              exact hQ _ _ _ _ hB trivial
          · skip
            rw [lg_cmp_le] at c9
            have d15 : ((100000000) : Int) < (((((v6 + v4) - 1) / v4) : Int64).toInt) := cl_nle rfl rfl c9
            refine w_X12_refuse ?_
            have hB16 : Bd (uI M 97 0 9) := Bd.o0 hB (show isO 112 97 12 = true from rfl) (by omega) (show bnd 12 0 = none from rfl)
            exact hQ _ _ _ _ hB16 trivial
  refine sg_X12_greedyAt_0 hc _ _ _ _ _ _ ?_
  have hB17 : Bd (uI I 97 1 0) := Bd.o0 hB0 (show isO 112 97 12 = true from rfl) (by omega) (show bnd 12 1 = none from rfl)
  have hB18 : Bd (uI (uI I 97 1 0) 97 0 0) := Bd.o0 hB17 (show isO 112 97 12 = true from rfl) (by omega) (show bnd 12 0 = none from rfl)
  refine w_X12_isShare ?_
  refine w_X12_isIn ?_
  refine ⟨fun c19 => ?_, fun c19 => ?_⟩
  · skip
    rw [lg_cmp_lt] at c19
    have d20 : ((v1.toInt) : Int) < (1) := cl_lt (tl_i2l rfl) rfl c19
    refine ⟨Or.inl rfl, ?_⟩
    intro o21
    refine ⟨fun c22 => ?_, fun c22 => ?_⟩
    · skip
      refine ⟨Or.inl rfl, ?_⟩
      intro o23
      refine ⟨fun c24 => ?_, fun c24 => ?_⟩
      · skip
        refine w_X12_refuse ?_
        have hB25 : Bd (uI (uI (uI I 97 1 0) 97 0 0) 97 0 5) := Bd.o0 hB18 (show isO 112 97 12 = true from rfl) (by omega) (show bnd 12 0 = none from rfl)
        exact hQ _ _ _ _ hB25 trivial
      · exact absurd c24 (by decide)
    · exact absurd c22 (by decide)
  · skip
    rw [lg_cmp_lt] at c19
    have d26 : ((1) : Int) ≤ (v1.toInt) := cl_nlt (tl_i2l rfl) rfl c19
    refine ⟨fun c27 => ?_, fun c27 => ?_⟩
    · skip
      rw [lg_cmp_gt] at c27
      have d28 : ((99) : Int) < (v1.toInt) := cl_lt rfl (tl_i2l rfl) c27
      refine ⟨Or.inl rfl, ?_⟩
      intro o29
      refine ⟨fun c30 => ?_, fun c30 => ?_⟩
      · skip
        refine ⟨Or.inl rfl, ?_⟩
        intro o31
        refine ⟨fun c32 => ?_, fun c32 => ?_⟩
        · skip
          refine w_X12_refuse ?_
          have hB33 : Bd (uI (uI (uI I 97 1 0) 97 0 0) 97 0 5) := Bd.o0 hB18 (show isO 112 97 12 = true from rfl) (by omega) (show bnd 12 0 = none from rfl)
          exact hQ _ _ _ _ hB33 trivial
        · exact absurd c32 (by decide)
      · exact absurd c30 (by decide)
    · skip
      rw [lg_cmp_gt] at c27
      have d34 : ((v1.toInt) : Int) ≤ (99) := cl_nlt rfl (tl_i2l rfl) c27
      refine ⟨Or.inr rfl, ?_⟩
      intro o35
      refine ⟨fun c36 => ?_, fun c36 => ?_⟩
      · exact absurd c36 (by decide)
      · skip
        refine w_X12_isIn ?_
        refine ⟨fun c37 => ?_, fun c37 => ?_⟩
        · skip
          rw [lg_cmp_lt] at c37
          have d38 : ((v2.toInt) : Int) < (1) := cl_lt (tl_i2l rfl) rfl c37
          refine ⟨Or.inl rfl, ?_⟩
          intro o39
          refine ⟨fun c40 => ?_, fun c40 => ?_⟩
          · skip
            refine ⟨Or.inl rfl, ?_⟩
            intro o41
            refine ⟨fun c42 => ?_, fun c42 => ?_⟩
            · skip
              refine w_X12_refuse ?_
              have hB43 : Bd (uI (uI (uI I 97 1 0) 97 0 0) 97 0 5) := Bd.o0 hB18 (show isO 112 97 12 = true from rfl) (by omega) (show bnd 12 0 = none from rfl)
              exact hQ _ _ _ _ hB43 trivial
            · exact absurd c42 (by decide)
          · exact absurd c40 (by decide)
        · skip
          rw [lg_cmp_lt] at c37
          have d44 : ((1) : Int) ≤ (v2.toInt) := cl_nlt (tl_i2l rfl) rfl c37
          refine ⟨fun c45 => ?_, fun c45 => ?_⟩
          · skip
            rw [lg_cmp_gt] at c45
            have d46 : ((30) : Int) < (v2.toInt) := cl_lt rfl (tl_i2l rfl) c45
            refine ⟨Or.inl rfl, ?_⟩
            intro o47
            refine ⟨fun c48 => ?_, fun c48 => ?_⟩
            · skip
              refine ⟨Or.inl rfl, ?_⟩
              intro o49
              refine ⟨fun c50 => ?_, fun c50 => ?_⟩
              · skip
                refine w_X12_refuse ?_
                have hB51 : Bd (uI (uI (uI I 97 1 0) 97 0 0) 97 0 5) := Bd.o0 hB18 (show isO 112 97 12 = true from rfl) (by omega) (show bnd 12 0 = none from rfl)
                exact hQ _ _ _ _ hB51 trivial
              · exact absurd c50 (by decide)
            · exact absurd c48 (by decide)
          · skip
            rw [lg_cmp_gt] at c45
            have d52 : ((v2.toInt) : Int) ≤ (30) := cl_nlt rfl (tl_i2l rfl) c45
            refine ⟨Or.inr rfl, ?_⟩
            intro o53
            refine ⟨fun c54 => ?_, fun c54 => ?_⟩
            · exact absurd c54 (by decide)
            · skip
              refine ⟨Or.inr rfl, ?_⟩
              intro o55
              refine ⟨fun c56 => ?_, fun c56 => ?_⟩
              · exact absurd c56 (by decide)
              · skip
                refine ⟨fun c57 => ?_, fun c57 => ?_⟩
                · skip
                  have d58 : ((v1.toInt) : Int) < (v2.toInt) := ci_lt rfl rfl c57
                  exact (L 1000000) _ _ _ _ _ hB18 (by have q0 : ((Int32.toInt64 v1) : Int64).toInt = v1.toInt := (tl_i2l rfl); have q1 : ((Int32.toInt64 v2) : Int64).toInt = v2.toInt := (tl_i2l rfl); have q2 : (0 : Int32).toInt = 0 := rfl; omega) (by have q0 : ((Int32.toInt64 v1) : Int64).toInt = v1.toInt := (tl_i2l rfl); omega)
                · skip
                  have d59 : ((v2.toInt) : Int) ≤ (v1.toInt) := ci_nlt rfl rfl c57
                  refine w_X12_refuse ?_
                  have hB60 : Bd (uI (uI (uI I 97 1 0) 97 0 0) 97 0 5) := Bd.o0 hB18 (show isO 112 97 12 = true from rfl) (by omega) (show bnd 12 0 = none from rfl)
                  exact hQ _ _ _ _ hB60 trivial
set_option maxHeartbeats 2000000 in
theorem sp_X12_isRow {d : Nat} {Q : Qt} {v1 : Int32} {v2 : Int32} {v3 : Int32} {v4 : Int32} {v5 : Int64} {I : Im} {J : Jm} {R : Rm} (hB0 : Bd I) (hR0 : RI R) (hv1 : 0 ≤ v1.toInt ∧ v1.toInt ≤ 3) (hv2 : v2.toInt ≤ 8) (hQ : ∀ (x : Int32) (y : Int64) (I2 : Im) (J2 : Jm), Bd I2 → (I = I2) → Q x y I2 J2 R) : AM (d + 2) 284 112 [.ref 97, .int v1, .int v2, .int v3, .int v4, .long v5] I J R Q := by
  have i_v1 := i32 v1
  have i_v2 := i32 v2
  have i_v3 := i32 v3
  have i_v4 := i32 v4
  have i_v5 := i64 v5
  refine am_X12_isRow (fun P hc => ?_)
  have L : ∀ n : Nat, (∀ (v7 : Int32) (v8 : Int64) (v10 : Int32) (M : Im) (JM : Jm), Bd M → I = M → (0 ≤ v1.toInt ∧ v1.toInt ≤ 3 ∧ v2.toInt ≤ 8 ∧ 0 ≤ v10.toInt ∧ v10.toInt ≤ 8) → 20 - v10.toInt < (n : Int) → P 10 112 [(0, .ref 97), (1, .int v1), (2, .int v2), (3, .int v3), (4, .int v4), (7, .int v7), (8, .long v8), (10, .int v10)] [] M JM R) := by
    intro n
    induction n with
    | zero =>
      exact fun v7 v8 v10 M J _ _ hi hm => absurd hm (by omega)
    | succ n ih =>
      intro v7 v8 v10 M JM hB hM hi hm
      have i_v1 := i32 v1
      have i_v2 := i32 v2
      have i_v3 := i32 v3
      have i_v4 := i32 v4
      have i_v7 := i32 v7
      have i_v8 := i64 v8
      have i_v10 := i32 v10
      refine sg_X12_isRow_10 hc _ _ _ _ _ _ _ _ _ _ ?_
      subst hM
      refine ⟨fun c1 => ?_, fun c1 => ?_⟩
      · skip
        have d2 : ((v2.toInt) : Int) ≤ (v10.toInt) := ci_le rfl rfl c1
        refine ⟨fun c3 => ?_, fun c3 => ?_⟩
        · skip
          rw [lg_cmp_eq] at c3
          have d4 : ¬ (((v8 : Int64).toInt) : Int) = (0) := cl_ne rfl rfl c3
          refine ⟨Or.inl rfl, ?_⟩
          exact hQ _ _ _ _ hB0 rfl
        · skip
          rw [lg_cmp_eq] at c3
          have d5 : (((v8 : Int64).toInt) : Int) = (0) := cl_eq rfl rfl c3
          refine ⟨Or.inr rfl, ?_⟩
          exact hQ _ _ _ _ hB0 rfl
      · skip
        have d6 : ((v10.toInt) : Int) < (v2.toInt) := ci_nle rfl rfl c1
        refine ⟨fun c7 => ?_, fun c7 => ?_⟩
        · skip
          have d8 : ¬ ((v10.toInt) : Int) = (v3.toInt) := ci_ne rfl rfl c7
          refine w_X12_numberOf ?_
          have e9 : ((60 * v1) : Int32).toInt = (60) * (v1.toInt) := ti_mul rfl rfl (by omega)
          have e10 : (((60 * v1) + v10) : Int32).toInt = ((60 * v1.toInt)) + (v10.toInt) := ti_add e9 rfl (by omega)
          refine ⟨vp_of (a := ((60 * v1.toInt) + v10.toInt)) e10 (by omega) (by omega), ?_⟩
          refine w_X12_isOf ?_
          refine ⟨fun c11 => ?_, fun c11 => ?_⟩
          · skip
            have d12 : ¬ (((((v7 >>> (((Int64.toInt32 (JM 100 (Int32.toNatClampNeg ((60 * v1) + v10)))) - 1) &&& 31)) &&& 1) : Int32).toInt) : Int) = (1) := ci_ne rfl rfl c11
            refine ⟨Or.inl rfl, ?_⟩
            intro o13
            refine ⟨fun c14 => ?_, fun c14 => ?_⟩
            · exact absurd c14 (by decide)
            · skip
              refine ⟨vp_of (a := 3) rfl (by omega) (by omega), ?_⟩
              refine w_X12_isOf ?_
              refine ⟨fun c15 => ?_, fun c15 => ?_⟩
              · skip
                have d16 : ¬ ((((((I 102 (Int32.toNatClampNeg 3)) >>> (((Int64.toInt32 (JM 100 (Int32.toNatClampNeg ((60 * v1) + v10)))) - 1) &&& 31)) &&& 1) : Int32).toInt) : Int) = (1) := ci_ne rfl rfl c15
                refine ⟨Or.inl rfl, ?_⟩
                intro o17
                refine ⟨fun c18 => ?_, fun c18 => ?_⟩
                · exact absurd c18 (by decide)
                · skip
                  refine ⟨Or.inl rfl, ?_⟩
                  exact hQ _ _ _ _ hB0 rfl
              · skip
                have d19 : ((((((I 102 (Int32.toNatClampNeg 3)) >>> (((Int64.toInt32 (JM 100 (Int32.toNatClampNeg ((60 * v1) + v10)))) - 1) &&& 31)) &&& 1) : Int32).toInt) : Int) = (1) := ci_eq rfl rfl c15
                refine ⟨Or.inr rfl, ?_⟩
                intro o20
                refine ⟨fun c21 => ?_, fun c21 => ?_⟩
                · skip
                  refine w_X12_partsOf ?_
                  have hz22 := of0 (s := (I 102 (Int32.toNatClampNeg 3))) (d := (Int64.toInt32 (JM 100 (Int32.toNatClampNeg ((60 * v1) + v10))))) (Bd.known0 hB0)
                  have i23 := i32 ((Int64.toInt32 (JM 100 (Int32.toNatClampNeg ((60 * v1) + v10)))))
                  refine ⟨(fun z => by have z2 : (((Int64.toInt32 (JM 100 (Int32.toNatClampNeg ((60 * v1) + v10)))) : Int32).toInt : Int) = 0 := cl_eq (tl_i2l rfl) rfl z; omega), ?_⟩
                  have e24 : ((v10 + 1) : Int32).toInt = (v10.toInt) + (1) := ti_add rfl rfl (by omega)
                  exact ih _ _ _ _ _ hB0 rfl (by have q0 : ((v10 + 1) : Int32).toInt = (v10.toInt + 1) := e24; omega) (by have q0 : ((v10 + 1) : Int32).toInt = (v10.toInt + 1) := e24; omega)
                · exact absurd c21 (by decide)
          · skip
            have d25 : (((((v7 >>> (((Int64.toInt32 (JM 100 (Int32.toNatClampNeg ((60 * v1) + v10)))) - 1) &&& 31)) &&& 1) : Int32).toInt) : Int) = (1) := ci_eq rfl rfl c11
            refine ⟨Or.inr rfl, ?_⟩
            intro o26
            refine ⟨fun c27 => ?_, fun c27 => ?_⟩
            · skip
              refine ⟨Or.inl rfl, ?_⟩
              exact hQ _ _ _ _ hB0 rfl
            · exact absurd c27 (by decide)
        · skip
          have d28 : ((v10.toInt) : Int) = (v3.toInt) := ci_eq rfl rfl c7
          refine w_X12_isOf ?_
          refine ⟨fun c29 => ?_, fun c29 => ?_⟩
          · skip
            have d30 : ¬ (((((v7 >>> ((v4 - 1) &&& 31)) &&& 1) : Int32).toInt) : Int) = (1) := ci_ne rfl rfl c29
            refine ⟨Or.inl rfl, ?_⟩
            intro o31
            refine ⟨fun c32 => ?_, fun c32 => ?_⟩
            · exact absurd c32 (by decide)
            · skip
              refine ⟨vp_of (a := 3) rfl (by omega) (by omega), ?_⟩
              refine w_X12_isOf ?_
              refine ⟨fun c33 => ?_, fun c33 => ?_⟩
              · skip
                have d34 : ¬ ((((((I 102 (Int32.toNatClampNeg 3)) >>> ((v4 - 1) &&& 31)) &&& 1) : Int32).toInt) : Int) = (1) := ci_ne rfl rfl c33
                refine ⟨Or.inl rfl, ?_⟩
                intro o35
                refine ⟨fun c36 => ?_, fun c36 => ?_⟩
                · exact absurd c36 (by decide)
                · skip
                  refine ⟨Or.inl rfl, ?_⟩
                  exact hQ _ _ _ _ hB0 rfl
              · skip
                have d37 : ((((((I 102 (Int32.toNatClampNeg 3)) >>> ((v4 - 1) &&& 31)) &&& 1) : Int32).toInt) : Int) = (1) := ci_eq rfl rfl c33
                refine ⟨Or.inr rfl, ?_⟩
                intro o38
                refine ⟨fun c39 => ?_, fun c39 => ?_⟩
                · skip
                  refine w_X12_partsOf ?_
                  have hz40 := of0 (s := (I 102 (Int32.toNatClampNeg 3))) (d := v4) (Bd.known0 hB0)
                  refine ⟨(fun z => by have z2 : (v4.toInt : Int) = 0 := cl_eq (tl_i2l rfl) rfl z; omega), ?_⟩
                  have e41 : ((v10 + 1) : Int32).toInt = (v10.toInt) + (1) := ti_add rfl rfl (by omega)
                  exact ih _ _ _ _ _ hB0 rfl (by have q0 : ((v10 + 1) : Int32).toInt = (v10.toInt + 1) := e41; omega) (by have q0 : ((v10 + 1) : Int32).toInt = (v10.toInt + 1) := e41; omega)
                · exact absurd c39 (by decide)
          · skip
            have d42 : (((((v7 >>> ((v4 - 1) &&& 31)) &&& 1) : Int32).toInt) : Int) = (1) := ci_eq rfl rfl c29
            refine ⟨Or.inr rfl, ?_⟩
            intro o43
            refine ⟨fun c44 => ?_, fun c44 => ?_⟩
            · skip
              refine ⟨Or.inl rfl, ?_⟩
              exact hQ _ _ _ _ hB0 rfl
            · exact absurd c44 (by decide)
  refine sg_X12_isRow_0 hc _ _ _ _ _ _ _ _ ?_
  exact (L 1000000) _ _ _ _ _ hB0 rfl (by have q0 : (0 : Int32).toInt = 0 := rfl; omega) (by have q0 : (0 : Int32).toInt = 0 := rfl; omega)
set_option maxHeartbeats 2000000 in
theorem sp_X12_laysSlips {d : Nat} {Q : Qt} {v1 : Int32} {v2 : Int32} {v3 : Int32} {v4 : Int64} {I : Im} {J : Jm} {R : Rm} (hB0 : Bd I) (hR0 : RI R) (hv1 : 0 ≤ v1.toInt ∧ v1.toInt ≤ 3) (hv2 : v2.toInt ≤ 8) (hQ : ∀ (x : Int32) (y : Int64) (I2 : Im) (J2 : Jm), Bd I2 → (True) → Q x y I2 J2 R) : AM (d + 3) 285 112 [.ref 97, .int v1, .int v2, .int v3, .long v4] I J R Q := by
  have i_v1 := i32 v1
  have i_v2 := i32 v2
  have i_v3 := i32 v3
  have i_v4 := i64 v4
  refine am_X12_laysSlips (fun P hc => ?_)
  have L : ∀ n : Nat, (∀ (v6 : Int32) (M : Im) (JM : Jm), Bd M → (0 ≤ v1.toInt ∧ v1.toInt ≤ 3 ∧ v2.toInt ≤ 8 ∧ 0 ≤ v6.toInt ∧ v6.toInt ≤ 8) → 1000 - 50 * v6.toInt < (n : Int) → P 22 112 [(0, .ref 97), (1, .int v1), (2, .int v2), (3, .int v3), (4, .long v4), (6, .int v6)] [] M JM R) ∧ (∀ (v6 : Int32) (v7 : Int32) (M : Im) (JM : Jm), Bd M → (0 ≤ v1.toInt ∧ v1.toInt ≤ 3 ∧ v2.toInt ≤ 8 ∧ 0 ≤ v6.toInt ∧ v6.toInt ≤ 7 ∧ 1 ≤ v7.toInt ∧ v7.toInt ≤ 31) → 1000 - 50 * v6.toInt - v7.toInt < (n : Int) → P 31 112 [(0, .ref 97), (1, .int v1), (2, .int v2), (3, .int v3), (4, .long v4), (6, .int v6), (7, .int v7)] [] M JM R) := by
    intro n
    induction n with
    | zero =>
      exact ⟨fun v6 M J _ hi hm => absurd hm (by omega), fun v6 v7 M J _ hi hm => absurd hm (by omega)⟩
    | succ n ih =>
      refine ⟨?_, ?_⟩
      · skip
        intro v6 M JM hB hi hm
        have i_v1 := i32 v1
        have i_v2 := i32 v2
        have i_v3 := i32 v3
        have i_v4 := i64 v4
        have i_v6 := i32 v6
        refine sg_X12_laysSlips_22 hc _ _ _ _ _ _ _ _ ?_
        refine ⟨fun c1 => ?_, fun c1 => ?_⟩
        · skip
          have d2 : ((v2.toInt) : Int) ≤ (v6.toInt) := ci_le rfl rfl c1
          exact hQ _ _ _ _ hB trivial
        · skip
          have d3 : ((v6.toInt) : Int) < (v2.toInt) := ci_nle rfl rfl c1
          exact ih.2 _ _ _ _ hB (by have q0 : (v6 : Int32).toInt = v6.toInt := rfl; have q1 : (1 : Int32).toInt = 1 := rfl; omega) (by have q0 : (v6 : Int32).toInt = v6.toInt := rfl; have q1 : (1 : Int32).toInt = 1 := rfl; omega)
      · skip
        intro v6 v7 M JM hB hi hm
        have i_v1 := i32 v1
        have i_v2 := i32 v2
        have i_v3 := i32 v3
        have i_v4 := i64 v4
        have i_v6 := i32 v6
        have i_v7 := i32 v7
        refine sg_X12_laysSlips_31 hc _ _ _ _ _ _ _ _ _ ?_
        refine ⟨fun c4 => ?_, fun c4 => ?_⟩
        · skip
          have d5 : ((30) : Int) < (v7.toInt) := ci_lt rfl rfl c4
          have e6 : ((v6 + 1) : Int32).toInt = (v6.toInt) + (1) := ti_add rfl rfl (by omega)
          exact ih.1 _ _ _ hB (by have q0 : ((v6 + 1) : Int32).toInt = (v6.toInt + 1) := e6; omega) (by have q0 : ((v6 + 1) : Int32).toInt = (v6.toInt + 1) := e6; omega)
        · skip
          have d7 : ((v7.toInt) : Int) ≤ (30) := ci_nlt rfl rfl c4
          refine sp_X12_isRow hB hR0 (by have z1 : (v1 : Int32).toInt = v1.toInt := rfl; omega) (by have z2 : (v2 : Int32).toInt = v2.toInt := rfl; omega) (fun x8 y13 I9 J10 hB11 p12 => ?_)
          intro o14
          subst p12
          have i15 := i32 x8
          refine ⟨fun c16 => ?_, fun c16 => ?_⟩
          · skip
            have d17 : ¬ ((x8.toInt) : Int) = (0) := ci_ne rfl rfl c16
            refine ⟨fun c18 => ?_, fun c18 => ?_⟩
            · skip
              have d19 : ¬ (((M 97 32).toInt) : Int) = (v3.toInt) := ci_ne rfl rfl c18
              have hB20 : Bd (uI M 97 32 ((M 97 32) + 1)) := Bd.o0 hB (show isO 112 97 12 = true from rfl) (by omega) (show bnd 12 32 = none from rfl)
              have e21 : ((v7 + 1) : Int32).toInt = (v7.toInt) + (1) := ti_add rfl rfl (by omega)
              exact ih.2 _ _ _ _ hB20 (by have q0 : (v6 : Int32).toInt = v6.toInt := rfl; have q1 : ((v7 + 1) : Int32).toInt = (v7.toInt + 1) := e21; omega) (by have q0 : (v6 : Int32).toInt = v6.toInt := rfl; have q1 : ((v7 + 1) : Int32).toInt = (v7.toInt + 1) := e21; omega)
            · skip
              have d22 : (((M 97 32).toInt) : Int) = (v3.toInt) := ci_eq rfl rfl c18
              have hB23 : Bd (uI M 97 33 v6) := Bd.o0 hB (show isO 112 97 12 = true from rfl) (by omega) (show bnd 12 33 = none from rfl)
              have hB24 : Bd (uI (uI M 97 33 v6) 97 34 v7) := Bd.o0 hB23 (show isO 112 97 12 = true from rfl) (by omega) (show bnd 12 34 = none from rfl)
              have hB25 : Bd (uI (uI (uI M 97 33 v6) 97 34 v7) 97 32 (((uI (uI M 97 33 v6) 97 34 v7) 97 32) + 1)) := Bd.o0 hB24 (show isO 112 97 12 = true from rfl) (by omega) (show bnd 12 32 = none from rfl)
              have e26 : ((v7 + 1) : Int32).toInt = (v7.toInt) + (1) := ti_add rfl rfl (by omega)
              exact ih.2 _ _ _ _ hB25 (by have q0 : (v6 : Int32).toInt = v6.toInt := rfl; have q1 : ((v7 + 1) : Int32).toInt = (v7.toInt + 1) := e26; omega) (by have q0 : (v6 : Int32).toInt = v6.toInt := rfl; have q1 : ((v7 + 1) : Int32).toInt = (v7.toInt + 1) := e26; omega)
          · skip
            have d27 : ((x8.toInt) : Int) = (0) := ci_eq rfl rfl c16
            have e28 : ((v7 + 1) : Int32).toInt = (v7.toInt) + (1) := ti_add rfl rfl (by omega)
            exact ih.2 _ _ _ _ hB (by have q0 : (v6 : Int32).toInt = v6.toInt := rfl; have q1 : ((v7 + 1) : Int32).toInt = (v7.toInt + 1) := e28; omega) (by have q0 : (v6 : Int32).toInt = v6.toInt := rfl; have q1 : ((v7 + 1) : Int32).toInt = (v7.toInt + 1) := e28; omega)
  refine sg_X12_laysSlips_0 hc _ _ _ _ _ _ _ ?_
  have hB29 : Bd (uI I 97 32 0) := Bd.o0 hB0 (show isO 112 97 12 = true from rfl) (by omega) (show bnd 12 32 = none from rfl)
  refine sp_X12_isRow hB29 hR0 (by have z1 : (v1 : Int32).toInt = v1.toInt := rfl; omega) (by have z2 : (v2 : Int32).toInt = v2.toInt := rfl; omega) (fun x30 y35 I31 J32 hB33 p34 => ?_)
  intro o36
  subst p34
  have i37 := i32 x30
  refine ⟨fun c38 => ?_, fun c38 => ?_⟩
  · skip
    have d39 : ((x30.toInt) : Int) = (0) := ci_eq rfl rfl c38
    exact (L 1000000).1 _ _ _ hB29 (by have q0 : (0 : Int32).toInt = 0 := rfl; omega) (by have q0 : (0 : Int32).toInt = 0 := rfl; omega)
  · skip
    have d40 : ¬ ((x30.toInt) : Int) = (0) := ci_ne rfl rfl c38
    exact hQ _ _ _ _ hB29 trivial
set_option maxHeartbeats 2000000 in
theorem sp_X12_slips {d : Nat} {Q : Qt} {v1 : Int32} {v2 : Int32} {v3 : Int32} {v4 : Int32} {I : Im} {J : Jm} {R : Rm} (hB0 : Bd I) (hR0 : RI R) (hQ : ∀ (x : Int32) (y : Int64) (I2 : Im) (J2 : Jm), Bd I2 → (True) → Q x y I2 J2 R) : AM (d + 4) 286 112 [.ref 97, .int v1, .int v2, .int v3, .int v4] I J R Q := by
  have i_v1 := i32 v1
  have i_v2 := i32 v2
  have i_v3 := i32 v3
  have i_v4 := i32 v4
  refine am_X12_slips (fun P hc => ?_)
  refine sg_X12_slips_0 hc _ _ _ _ _ _ _ ?_
  have hB1 : Bd (uI I 97 1 0) := Bd.o0 hB0 (show isO 112 97 12 = true from rfl) (by omega) (show bnd 12 1 = none from rfl)
  refine sp_X12_whyNoRow hB1 hR0 (fun x2 y7 I3 J4 hB5 p6 => ?_)
  obtain ⟨heI3, p6⟩ := p6
  subst heI3
  have i8 := i32 x2
  have hB9 : Bd (uI (uI I 97 1 0) 97 0 x2) := Bd.o0 hB1 (show isO 112 97 12 = true from rfl) (by omega) (show bnd 12 0 = none from rfl)
  refine ⟨fun c10 => ?_, fun c10 => ?_⟩
  · skip
    have e11 : (((uI (uI I 97 1 0) 97 0 x2) 97 0) : Int32).toInt = x2.toInt := Eq.trans (congrArg Int32.toInt rd_eq) rfl
    have d12 : ((x2.toInt) : Int) ≤ (0) := ci_le e11 rfl c10
    refine w_X12_shareOf ?_
    refine ⟨(fun z => by have z2 : (v4.toInt : Int) = 0 := cl_eq (tl_i2l rfl) rfl z; omega), ?_⟩
    refine sp_X12_laysSlips hB9 hR0 (by have z1 : (v1 : Int32).toInt = v1.toInt := rfl; omega) (by have z2 : (v2 : Int32).toInt = v2.toInt := rfl; omega) (fun x13 y18 I14 J15 hB16 p17 => ?_)
    exact hQ _ _ _ _ hB16 trivial
  · skip
    have e19 : (((uI (uI I 97 1 0) 97 0 x2) 97 0) : Int32).toInt = x2.toInt := Eq.trans (congrArg Int32.toInt rd_eq) rfl
    have d20 : ((0) : Int) < (x2.toInt) := ci_nle e19 rfl c10
    exact hQ _ _ _ _ hB9 trivial
set_option maxHeartbeats 2000000 in
theorem sp_X12_slipAt {d : Nat} {Q : Qt} {v1 : Int32} {v2 : Int32} {v3 : Int32} {v4 : Int32} {v5 : Int32} {v6 : Int32} {I : Im} {J : Jm} {R : Rm} (hB0 : Bd I) (hR0 : RI R) (hQ : ∀ (x : Int32) (y : Int64) (I2 : Im) (J2 : Jm), Bd I2 → (True) → Q x y I2 J2 R) : AM (d + 4) 287 112 [.ref 97, .int v1, .int v2, .int v3, .int v4, .int v5, .int v6] I J R Q := by
  have i_v1 := i32 v1
  have i_v2 := i32 v2
  have i_v3 := i32 v3
  have i_v4 := i32 v4
  have i_v5 := i32 v5
  have i_v6 := i32 v6
  refine am_X12_slipAt (fun P hc => ?_)
  have L : ∀ n : Nat, (∀ (M : Im) (JM : Jm), Bd M → ((M 97 0).toInt ≤ 0 → 0 ≤ v1.toInt ∧ v1.toInt ≤ 3 ∧ 1 ≤ v2.toInt ∧ v2.toInt ≤ 8 ∧ 1 ≤ v4.toInt ∧ v4.toInt ≤ 30) → 1 < (n : Int) → P 41 112 [(0, .ref 97), (1, .int v1), (2, .int v2), (3, .int v3), (4, .int v4), (5, .int v5), (6, .int v6)] [] M JM R) := by
    intro n
    induction n with
    | zero =>
      exact fun  M J _ hi hm => absurd hm (by omega)
    | succ n ih =>
      intro  M JM hB hi hm
      have i_v1 := i32 v1
      have i_v2 := i32 v2
      have i_v3 := i32 v3
      have i_v4 := i32 v4
      have i_v5 := i32 v5
      have i_v6 := i32 v6
      refine sg_X12_slipAt_41 hc _ _ _ _ _ _ _ _ _ ?_
      refine ⟨fun c1 => ?_, fun c1 => ?_⟩
      · skip
        have d2 : (((M 97 0).toInt) : Int) ≤ (0) := ci_le rfl rfl c1
        refine w_X12_shareOf ?_
        refine ⟨(fun z => by have z2 : (v4.toInt : Int) = 0 := cl_eq (tl_i2l rfl) rfl z; omega), ?_⟩
        refine sp_X12_laysSlips hB hR0 (by have z1 : (v1 : Int32).toInt = v1.toInt := rfl; omega) (by have z2 : (v2 : Int32).toInt = v2.toInt := rfl; omega) (fun x3 y8 I4 J5 hB6 p7 => ?_)
        refine w_X12_isIn ?_
        refine ⟨fun c9 => ?_, fun c9 => ?_⟩
        · skip
          rw [lg_cmp_lt] at c9
          have d10 : ((v5.toInt) : Int) < (0) := cl_lt (tl_i2l rfl) rfl c9
          refine ⟨Or.inl rfl, ?_⟩
          intro o11
          refine ⟨fun c12 => ?_, fun c12 => ?_⟩
          · exact absurd c12 (by decide)
          · skip
            refine w_X12_refuse ?_
            have hB13 : Bd (uI I4 97 0 8) := Bd.o0 hB6 (show isO 112 97 12 = true from rfl) (by omega) (show bnd 12 0 = none from rfl)
            exact hQ _ _ _ _ hB13 trivial
        · skip
          rw [lg_cmp_lt] at c9
          have d14 : ((0) : Int) ≤ (v5.toInt) := cl_nlt (tl_i2l rfl) rfl c9
          refine ⟨fun c15 => ?_, fun c15 => ?_⟩
          · skip
            rw [lg_cmp_gt] at c15
            have i16 := i32 (((I4 97 32) - 1))
            have d17 : (((((I4 97 32) - 1) : Int32).toInt) : Int) < (v5.toInt) := cl_lt (tl_i2l rfl) (tl_i2l rfl) c15
            refine ⟨Or.inl rfl, ?_⟩
            intro o18
            refine ⟨fun c19 => ?_, fun c19 => ?_⟩
            · exact absurd c19 (by decide)
            · skip
              refine w_X12_refuse ?_
              have hB20 : Bd (uI I4 97 0 8) := Bd.o0 hB6 (show isO 112 97 12 = true from rfl) (by omega) (show bnd 12 0 = none from rfl)
              exact hQ _ _ _ _ hB20 trivial
          · skip
            rw [lg_cmp_gt] at c15
            have i21 := i32 (((I4 97 32) - 1))
            have d22 : ((v5.toInt) : Int) ≤ ((((I4 97 32) - 1) : Int32).toInt) := cl_nlt (tl_i2l rfl) (tl_i2l rfl) c15
            refine ⟨Or.inr rfl, ?_⟩
            intro o23
            refine ⟨fun c24 => ?_, fun c24 => ?_⟩
            · skip
              refine ⟨fun c25 => ?_, fun c25 => ?_⟩
              · skip
                have d26 : ¬ ((v6.toInt) : Int) = (0) := ci_ne rfl rfl c25
                exact hQ _ _ _ _ hB6 trivial
              · skip
                have d27 : ((v6.toInt) : Int) = (0) := ci_eq rfl rfl c25
                exact hQ _ _ _ _ hB6 trivial
            · exact absurd c24 (by decide)
      · skip
        have d28 : ((0) : Int) < ((M 97 0).toInt) := ci_nle rfl rfl c1
        exact hQ _ _ _ _ hB trivial
  refine sg_X12_slipAt_0 hc _ _ _ _ _ _ _ _ _ ?_
  have hB29 : Bd (uI I 97 1 0) := Bd.o0 hB0 (show isO 112 97 12 = true from rfl) (by omega) (show bnd 12 1 = none from rfl)
  refine sp_X12_whyNoRow hB29 hR0 (fun x30 y35 I31 J32 hB33 p34 => ?_)
  obtain ⟨heI31, p34⟩ := p34
  subst heI31
  have i36 := i32 x30
  have hB37 : Bd (uI (uI I 97 1 0) 97 0 x30) := Bd.o0 hB29 (show isO 112 97 12 = true from rfl) (by omega) (show bnd 12 0 = none from rfl)
  refine ⟨fun c38 => ?_, fun c38 => ?_⟩
  · skip
    have e39 : (((uI (uI I 97 1 0) 97 0 x30) 97 0) : Int32).toInt = x30.toInt := Eq.trans (congrArg Int32.toInt rd_eq) rfl
    have d40 : ¬ ((x30.toInt) : Int) = (0) := ci_ne e39 rfl c38
    exact (L 1000000) _ _ hB37 (by have q0 : (((uI (uI I 97 1 0) 97 0 x30) 97 0) : Int32).toInt = x30.toInt := e39; omega) (by omega)
  · skip
    have e41 : (((uI (uI I 97 1 0) 97 0 x30) 97 0) : Int32).toInt = x30.toInt := Eq.trans (congrArg Int32.toInt rd_eq) rfl
    have d42 : ((x30.toInt) : Int) = (0) := ci_eq e41 rfl c38
    refine w_X12_isIn ?_
    refine ⟨fun c43 => ?_, fun c43 => ?_⟩
    · skip
      rw [lg_cmp_lt] at c43
      have d44 : ((v6.toInt) : Int) < (0) := cl_lt (tl_i2l rfl) rfl c43
      refine ⟨Or.inl rfl, ?_⟩
      intro o45
      refine ⟨fun c46 => ?_, fun c46 => ?_⟩
      · exact absurd c46 (by decide)
      · skip
        have hB47 : Bd (uI (uI (uI I 97 1 0) 97 0 x30) 97 0 5) := Bd.o0 hB37 (show isO 112 97 12 = true from rfl) (by omega) (show bnd 12 0 = none from rfl)
        have e48 : (((uI (uI (uI I 97 1 0) 97 0 x30) 97 0 5) 97 0) : Int32).toInt = 5 := Eq.trans (congrArg Int32.toInt rd_eq) rfl
        exact (L 1000000) _ _ hB47 (by have q0 : (((uI (uI (uI I 97 1 0) 97 0 x30) 97 0 5) 97 0) : Int32).toInt = 5 := e48; omega) (by omega)
    · skip
      rw [lg_cmp_lt] at c43
      have d49 : ((0) : Int) ≤ (v6.toInt) := cl_nlt (tl_i2l rfl) rfl c43
      refine ⟨fun c50 => ?_, fun c50 => ?_⟩
      · skip
        rw [lg_cmp_gt] at c50
        have d51 : ((1) : Int) < (v6.toInt) := cl_lt rfl (tl_i2l rfl) c50
        refine ⟨Or.inl rfl, ?_⟩
        intro o52
        refine ⟨fun c53 => ?_, fun c53 => ?_⟩
        · exact absurd c53 (by decide)
        · skip
          have hB54 : Bd (uI (uI (uI I 97 1 0) 97 0 x30) 97 0 5) := Bd.o0 hB37 (show isO 112 97 12 = true from rfl) (by omega) (show bnd 12 0 = none from rfl)
          have e55 : (((uI (uI (uI I 97 1 0) 97 0 x30) 97 0 5) 97 0) : Int32).toInt = 5 := Eq.trans (congrArg Int32.toInt rd_eq) rfl
          exact (L 1000000) _ _ hB54 (by have q0 : (((uI (uI (uI I 97 1 0) 97 0 x30) 97 0 5) 97 0) : Int32).toInt = 5 := e55; omega) (by omega)
      · skip
        rw [lg_cmp_gt] at c50
        have d56 : ((v6.toInt) : Int) ≤ (1) := cl_nlt rfl (tl_i2l rfl) c50
        refine ⟨Or.inr rfl, ?_⟩
        intro o57
        refine ⟨fun c58 => ?_, fun c58 => ?_⟩
        · skip
          exact (L 1000000) _ _ hB37 (by have q0 : (((uI (uI I 97 1 0) 97 0 x30) 97 0) : Int32).toInt = x30.toInt := e41; omega) (by omega)
        · exact absurd c58 (by decide)
set_option maxHeartbeats 2000000 in
theorem sp_X12_reachAt {d : Nat} {Q : Qt} {v1 : Int32} {v2 : Int32} {I : Im} {J : Jm} {R : Rm} (hB0 : Bd I) (hR0 : RI R) (hQ : ∀ (x : Int32) (y : Int64) (I2 : Im) (J2 : Jm), Bd I2 → (True) → Q x y I2 J2 R) : AM (d + 5) 292 112 [.ref 97, .int v1, .int v2] I J R Q := by
  have i_v1 := i32 v1
  have i_v2 := i32 v2
  refine am_X12_reachAt (fun P hc => ?_)
  have L : ∀ n : Nat, (∀ (v3 : Int32) (v4 : Int32) (M : Im) (JM : Jm), Bd M → (RQ M) → (v2.toInt - v4.toInt ≤ (M 108 v3.toNatClampNeg).toInt) → (1 ≤ v3.toInt ∧ v3.toInt ≤ 30 ∧ 0 ≤ v4.toInt ∧ v4.toInt ≤ v2.toInt) → 100 * (v2.toInt - v4.toInt) < (n : Int) → P 59 112 [(0, .ref 97), (2, .int v2), (3, .int v3), (4, .int v4)] [] M JM R) ∧ (∀ (v3 : Int32) (v4 : Int32) (v5 : Int32) (v6 : Int32) (M : Im) (JM : Jm), Bd M → (RQ M) → (v2.toInt - v4.toInt ≤ (M 108 v3.toNatClampNeg).toInt) → ((1 ≤ v5.toInt ∧ v5.toInt ≤ 30 ∧ (M 108 v5.toNatClampNeg).toInt = (M 108 v3.toNatClampNeg).toInt - 1) ∨ (v5 = -1 ∧ ∃ e : Int32, 1 ≤ e.toInt ∧ e.toInt ≤ v6.toInt ∧ e.toInt ≤ 30 ∧ (M 108 e.toNatClampNeg).toInt = (M 108 v3.toNatClampNeg).toInt - 1 ∧ CO v3 e)) → (1 ≤ v3.toInt ∧ v3.toInt ≤ 30 ∧ 0 ≤ v4.toInt ∧ v4.toInt < v2.toInt ∧ 0 ≤ v6.toInt ∧ v6.toInt ≤ 30) → 100 * (v2.toInt - v4.toInt) - 60 + v6.toInt < (n : Int) → P 72 112 [(0, .ref 97), (2, .int v2), (3, .int v3), (4, .int v4), (5, .int v5), (6, .int v6)] [] M JM R) := by
    intro n
    induction n with
    | zero =>
      exact ⟨fun v3 v4 M J _ _ _ hi hm => absurd hm (by omega), fun v3 v4 v5 v6 M J _ _ _ _ hi hm => absurd hm (by omega)⟩
    | succ n ih =>
      refine ⟨?_, ?_⟩
      · skip
        intro v3 v4 M JM hB hq_0 hq_1 hi hm
        have i_v2 := i32 v2
        have i_v3 := i32 v3
        have i_v4 := i32 v4
        refine sg_X12_reachAt_59 hc _ _ _ _ _ _ ?_
        refine ⟨fun c1 => ?_, fun c1 => ?_⟩
        · skip
          have d2 : ((v2.toInt) : Int) ≤ (v4.toInt) := ci_le rfl rfl c1
          exact hQ _ _ _ _ hB trivial
        · skip
          have d3 : ((v4.toInt) : Int) < (v2.toInt) := ci_nle rfl rfl c1
          have hv4 : RQ M := hq_0
          have hv5 : v2.toInt - v4.toInt ≤ (M 108 v3.toNatClampNeg).toInt := hq_1
          have hv6 : (1 ≤ ((-1) : Int32).toInt ∧ ((-1) : Int32).toInt ≤ 30 ∧ (M 108 ((-1) : Int32).toNatClampNeg).toInt = (M 108 v3.toNatClampNeg).toInt - 1) ∨ (((-1) : Int32) = -1 ∧ ∃ e : Int32, 1 ≤ e.toInt ∧ e.toInt ≤ (30 : Int32).toInt ∧ e.toInt ≤ 30 ∧ (M 108 e.toNatClampNeg).toInt = (M 108 v3.toNatClampNeg).toInt - 1 ∧ CO v3 e) := (Or.inr ⟨rfl, by obtain ⟨e, e1, e2, e3, e4⟩ := hq_0 v3 (by omega) (by omega) (by omega); exact ⟨e, e1, by have z : ((30 : Int32)).toInt = 30 := rfl; omega, e2, e3, e4⟩⟩)
          exact ih.2 _ _ _ _ _ _ hB hv4 hv5 hv6 (by have q0 : (v3 : Int32).toInt = v3.toInt := rfl; have q1 : (v4 : Int32).toInt = v4.toInt := rfl; have q2 : (30 : Int32).toInt = 30 := rfl; omega) (by have q0 : (v4 : Int32).toInt = v4.toInt := rfl; have q1 : (30 : Int32).toInt = 30 := rfl; omega)
      · skip
        intro v3 v4 v5 v6 M JM hB hq_0 hq_1 hq_2 hi hm
        have i_v2 := i32 v2
        have i_v3 := i32 v3
        have i_v4 := i32 v4
        have i_v5 := i32 v5
        have i_v6 := i32 v6
        refine sg_X12_reachAt_72 hc _ _ _ _ _ _ _ _ ?_
        refine ⟨fun c7 => ?_, fun c7 => ?_⟩
        · skip
          have d8 : ((v6.toInt) : Int) < (1) := ci_lt rfl rfl c7
          have hw : 1 ≤ v5.toInt ∧ v5.toInt ≤ 30 ∧ (M 108 v5.toNatClampNeg).toInt = (M 108 v3.toNatClampNeg).toInt - 1 := by
            rcases hq_2 with z | ⟨_, e, e1, e2, _⟩
            · exact z
            · omega
          have e9 : ((v4 + 1) : Int32).toInt = (v4.toInt) + (1) := ti_add rfl rfl (by omega)
          have hv10 : RQ M := hq_0
          have hv11 : v2.toInt - (v4 + 1).toInt ≤ (M 108 v5.toNatClampNeg).toInt := (by have z1 : (v4 + 1 : Int32).toInt = v4.toInt + 1 := ti_add rfl rfl (by omega); omega)
          exact ih.1 _ _ _ _ hB hv10 hv11 (by have q0 : (v5 : Int32).toInt = v5.toInt := rfl; have q1 : ((v4 + 1) : Int32).toInt = (v4.toInt + 1) := e9; omega) (by have q0 : ((v4 + 1) : Int32).toInt = (v4.toInt + 1) := e9; omega)
        · skip
          have d12 : ((1) : Int) ≤ (v6.toInt) := ci_nlt rfl rfl c7
          refine ⟨vp_of (a := v6.toInt) rfl (by omega) (by omega), ?_⟩
          refine ⟨vp_of (a := v3.toInt) rfl (by omega) (by omega), ?_⟩
          refine ⟨fun c13 => ?_, fun c13 => ?_⟩
          · skip
            have d14 : ¬ (((M 108 (Int32.toNatClampNeg v6)).toInt) : Int) = ((((M 108 (Int32.toNatClampNeg v3)) - 1) : Int32).toInt) := ci_ne rfl rfl c13
            have e15 : ((v6 + (-1)) : Int32).toInt = (v6.toInt) + ((-1)) := ti_add rfl rfl (by omega)
            have hv16 : RQ M := hq_0
            have hv17 : v2.toInt - v4.toInt ≤ (M 108 v3.toNatClampNeg).toInt := hq_1
            have hv18 : (1 ≤ v5.toInt ∧ v5.toInt ≤ 30 ∧ (M 108 v5.toNatClampNeg).toInt = (M 108 v3.toNatClampNeg).toInt - 1) ∨ (v5 = -1 ∧ ∃ e : Int32, 1 ≤ e.toInt ∧ e.toInt ≤ (v6 + (-1)).toInt ∧ e.toInt ≤ 30 ∧ (M 108 e.toNatClampNeg).toInt = (M 108 v3.toNatClampNeg).toInt - 1 ∧ CO v3 e) := (by rcases hq_1 with z | ⟨z, e, e1, e2, e0, e3, e4⟩; · exact Or.inl z; · refine Or.inr ⟨z, e, e1, ?_, e0, e3, e4⟩; have y : ¬ e = v6 := (by intro z; subst z; exact (fun z => c13 (Int32.toInt_inj.mp (by have z1 : (((M 108 (Int32.toNatClampNeg v3)) - 1) : Int32).toInt = (M 108 v3.toNatClampNeg).toInt - 1 := ti_sub rfl rfl (by have := i32 (M 108 v3.toNatClampNeg); omega); rw [z1]; exact z))) e3); have y2 : ¬ e.toInt = v6.toInt := fun w => y (Int32.toInt_inj.mp w); have y3 : (v6 + -1 : Int32).toInt = v6.toInt + -1 := ti_add rfl rfl (by omega); omega)
            exact ih.2 _ _ _ _ _ _ hB hv16 hv17 hv18 (by have q0 : (v3 : Int32).toInt = v3.toInt := rfl; have q1 : (v4 : Int32).toInt = v4.toInt := rfl; have q2 : ((v6 + (-1)) : Int32).toInt = (v6.toInt + (-1)) := e15; omega) (by have q0 : (v4 : Int32).toInt = v4.toInt := rfl; have q1 : ((v6 + (-1)) : Int32).toInt = (v6.toInt + (-1)) := e15; omega)
          · skip
            have d19 : (((M 108 (Int32.toNatClampNeg v6)).toInt) : Int) = ((((M 108 (Int32.toNatClampNeg v3)) - 1) : Int32).toInt) := ci_eq rfl rfl c13
            refine sp_X12_comesOf hB hR0 (by have z : (v3 : Int32).toInt = v3.toInt := rfl; omega) (by have z : (v6 : Int32).toInt = v6.toInt := rfl; omega) (fun x20 y25 I21 J22 hB23 p24 => ?_)
            intro o26
            obtain ⟨heI21, p24⟩ := p24
            subst heI21
            have i27 := i32 x20
            refine ⟨fun c28 => ?_, fun c28 => ?_⟩
            · skip
              have d29 : ((x20.toInt) : Int) = (0) := ci_eq rfl rfl c28
              have e30 : ((v6 + (-1)) : Int32).toInt = (v6.toInt) + ((-1)) := ti_add rfl rfl (by omega)
              have hv31 : RQ M := hq_0
              have hv32 : v2.toInt - v4.toInt ≤ (M 108 v3.toNatClampNeg).toInt := hq_1
              have hv33 : (1 ≤ v5.toInt ∧ v5.toInt ≤ 30 ∧ (M 108 v5.toNatClampNeg).toInt = (M 108 v3.toNatClampNeg).toInt - 1) ∨ (v5 = -1 ∧ ∃ e : Int32, 1 ≤ e.toInt ∧ e.toInt ≤ (v6 + (-1)).toInt ∧ e.toInt ≤ 30 ∧ (M 108 e.toNatClampNeg).toInt = (M 108 v3.toNatClampNeg).toInt - 1 ∧ CO v3 e) := (by rcases hq_1 with z | ⟨z, e, e1, e2, e0, e3, e4⟩; · exact Or.inl z; · refine Or.inr ⟨z, e, e1, ?_, e0, e3, e4⟩; have y : ¬ e = v6 := (by intro z; subst z; exact (fun z => p24.1 (by omega) z) e4); have y2 : ¬ e.toInt = v6.toInt := fun w => y (Int32.toInt_inj.mp w); have y3 : (v6 + -1 : Int32).toInt = v6.toInt + -1 := ti_add rfl rfl (by omega); omega)
              exact ih.2 _ _ _ _ _ _ hB hv31 hv32 hv33 (by have q0 : (v3 : Int32).toInt = v3.toInt := rfl; have q1 : (v4 : Int32).toInt = v4.toInt := rfl; have q2 : ((v6 + (-1)) : Int32).toInt = (v6.toInt + (-1)) := e30; omega) (by have q0 : (v4 : Int32).toInt = v4.toInt := rfl; have q1 : ((v6 + (-1)) : Int32).toInt = (v6.toInt + (-1)) := e30; omega)
            · skip
              have d34 : ¬ ((x20.toInt) : Int) = (0) := ci_ne rfl rfl c28
              have e35 : ((v6 + (-1)) : Int32).toInt = (v6.toInt) + ((-1)) := ti_add rfl rfl (by omega)
              have hv36 : RQ M := hq_0
              have hv37 : v2.toInt - v4.toInt ≤ (M 108 v3.toNatClampNeg).toInt := hq_1
              have hv38 : (1 ≤ v6.toInt ∧ v6.toInt ≤ 30 ∧ (M 108 v6.toNatClampNeg).toInt = (M 108 v3.toNatClampNeg).toInt - 1) ∨ (v6 = -1 ∧ ∃ e : Int32, 1 ≤ e.toInt ∧ e.toInt ≤ (v6 + (-1)).toInt ∧ e.toInt ≤ 30 ∧ (M 108 e.toNatClampNeg).toInt = (M 108 v3.toNatClampNeg).toInt - 1 ∧ CO v3 e) := (Or.inl ⟨by omega, by omega, by have z1 : (((M 108 (Int32.toNatClampNeg v3)) - 1) : Int32).toInt = (M 108 v3.toNatClampNeg).toInt - 1 := ti_sub rfl rfl (by have := i32 (M 108 v3.toNatClampNeg); omega); have z2 := congrArg Int32.toInt c13; omega⟩)
              exact ih.2 _ _ _ _ _ _ hB hv36 hv37 hv38 (by have q0 : (v3 : Int32).toInt = v3.toInt := rfl; have q1 : (v4 : Int32).toInt = v4.toInt := rfl; have q2 : ((v6 + (-1)) : Int32).toInt = (v6.toInt + (-1)) := e35; omega) (by have q0 : (v4 : Int32).toInt = v4.toInt := rfl; have q1 : ((v6 + (-1)) : Int32).toInt = (v6.toInt + (-1)) := e35; omega)
  refine sg_X12_reachAt_0 hc _ _ _ _ _ ?_
  have hB39 : Bd (uI I 97 1 0) := Bd.o0 hB0 (show isO 112 97 12 = true from rfl) (by omega) (show bnd 12 1 = none from rfl)
  have hB40 : Bd (uI (uI I 97 1 0) 97 0 0) := Bd.o0 hB39 (show isO 112 97 12 = true from rfl) (by omega) (show bnd 12 0 = none from rfl)
  refine w_X12_isSlice ?_
  refine w_X12_isIn ?_
  refine ⟨fun c41 => ?_, fun c41 => ?_⟩
  · skip
    rw [lg_cmp_lt] at c41
    have d42 : ((v1.toInt) : Int) < (1) := cl_lt (tl_i2l rfl) rfl c41
    refine ⟨Or.inl rfl, ?_⟩
    intro o43
    refine ⟨Or.inl rfl, ?_⟩
    intro o44
    refine ⟨fun c45 => ?_, fun c45 => ?_⟩
    · exact absurd c45 (by decide)
    · skip
      refine w_X12_refuse ?_
      have hB46 : Bd (uI (uI (uI I 97 1 0) 97 0 0) 97 0 2) := Bd.o0 hB40 (show isO 112 97 12 = true from rfl) (by omega) (show bnd 12 0 = none from rfl)
      exact hQ _ _ _ _ hB46 trivial
  · skip
    rw [lg_cmp_lt] at c41
    have d47 : ((1) : Int) ≤ (v1.toInt) := cl_nlt (tl_i2l rfl) rfl c41
    refine ⟨fun c48 => ?_, fun c48 => ?_⟩
    · skip
      rw [lg_cmp_gt] at c48
      have d49 : ((30) : Int) < (v1.toInt) := cl_lt rfl (tl_i2l rfl) c48
      refine ⟨Or.inl rfl, ?_⟩
      intro o50
      refine ⟨Or.inl rfl, ?_⟩
      intro o51
      refine ⟨fun c52 => ?_, fun c52 => ?_⟩
      · exact absurd c52 (by decide)
      · skip
        refine w_X12_refuse ?_
        have hB53 : Bd (uI (uI (uI I 97 1 0) 97 0 0) 97 0 2) := Bd.o0 hB40 (show isO 112 97 12 = true from rfl) (by omega) (show bnd 12 0 = none from rfl)
        exact hQ _ _ _ _ hB53 trivial
    · skip
      rw [lg_cmp_gt] at c48
      have d54 : ((v1.toInt) : Int) ≤ (30) := cl_nlt rfl (tl_i2l rfl) c48
      refine ⟨Or.inr rfl, ?_⟩
      intro o55
      refine ⟨Or.inr rfl, ?_⟩
      intro o56
      refine ⟨fun c57 => ?_, fun c57 => ?_⟩
      · skip
        refine sp_X12_reachFrom hB40 hR0 (fun x58 y63 I59 J60 hB61 p62 => ?_)
        have i64 := i32 x58
        refine ⟨fun c65 => ?_, fun c65 => ?_⟩
        · skip
          have d66 : ((x58.toInt) : Int) < (0) := ci_lt rfl rfl c65
          refine w_X12_refuse ?_
          have hB67 : Bd (uI I59 97 0 8) := Bd.o0 hB61 (show isO 112 97 12 = true from rfl) (by omega) (show bnd 12 0 = none from rfl)
          exact hQ _ _ _ _ hB67 trivial
        · skip
          have d68 : ((0) : Int) ≤ (x58.toInt) := ci_nlt rfl rfl c65
          refine ⟨vp_of (a := x58.toInt) rfl (by omega) (by omega), ?_⟩
          refine w_X12_isIn ?_
          refine ⟨fun c69 => ?_, fun c69 => ?_⟩
          · skip
            rw [lg_cmp_lt] at c69
            have d70 : ((v2.toInt) : Int) < (0) := cl_lt (tl_i2l rfl) rfl c69
            refine ⟨Or.inl rfl, ?_⟩
            intro o71
            refine ⟨fun c72 => ?_, fun c72 => ?_⟩
            · exact absurd c72 (by decide)
            · skip
              refine w_X12_refuse ?_
              have hB73 : Bd (uI I59 97 0 8) := Bd.o0 hB61 (show isO 112 97 12 = true from rfl) (by omega) (show bnd 12 0 = none from rfl)
              exact hQ _ _ _ _ hB73 trivial
          · skip
            rw [lg_cmp_lt] at c69
            have d74 : ((0) : Int) ≤ (v2.toInt) := cl_nlt (tl_i2l rfl) rfl c69
            refine ⟨fun c75 => ?_, fun c75 => ?_⟩
            · skip
              rw [lg_cmp_gt] at c75
              have i76 := i32 ((I59 108 (Int32.toNatClampNeg x58)))
              have d77 : (((I59 108 (Int32.toNatClampNeg x58)).toInt) : Int) < (v2.toInt) := cl_lt (tl_i2l rfl) (tl_i2l rfl) c75
              refine ⟨Or.inl rfl, ?_⟩
              intro o78
              refine ⟨fun c79 => ?_, fun c79 => ?_⟩
              · exact absurd c79 (by decide)
              · skip
                refine w_X12_refuse ?_
                have hB80 : Bd (uI I59 97 0 8) := Bd.o0 hB61 (show isO 112 97 12 = true from rfl) (by omega) (show bnd 12 0 = none from rfl)
                exact hQ _ _ _ _ hB80 trivial
            · skip
              rw [lg_cmp_gt] at c75
              have i81 := i32 ((I59 108 (Int32.toNatClampNeg x58)))
              have d82 : ((v2.toInt) : Int) ≤ ((I59 108 (Int32.toNatClampNeg x58)).toInt) := cl_nlt (tl_i2l rfl) (tl_i2l rfl) c75
              refine ⟨Or.inr rfl, ?_⟩
              intro o83
              refine ⟨fun c84 => ?_, fun c84 => ?_⟩
              · skip
                have hv85 : RQ I59 := p62.2
                have hv86 : v2.toInt - (0 : Int32).toInt ≤ (I59 108 x58.toNatClampNeg).toInt := (by have z0 : (0 : Int32).toInt = 0 := rfl; omega)
                exact (L 300000000000).1 _ _ _ _ hB61 hv85 hv86 (by have q0 : (x58 : Int32).toInt = x58.toInt := rfl; have q1 : (0 : Int32).toInt = 0 := rfl; omega) (by have q0 : (0 : Int32).toInt = 0 := rfl; omega)
              · exact absurd c84 (by decide)
      · exact absurd c57 (by decide)
set_option maxHeartbeats 2000000 in
theorem sp_X12_plates {d : Nat} {Q : Qt} {v1 : Int32} {I : Im} {J : Jm} {R : Rm} (hB0 : Bd I) (hR0 : RI R) (hp30 : pcn v1 30 ≤ 12) (hQ : ∀ (x : Int32) (y : Int64) (I2 : Im) (J2 : Jm), Bd I2 → (True) → Q x y I2 J2 R) : AM (d + 2) 299 112 [.ref 97, .int v1] I J R Q := by
  have i_v1 := i32 v1
  refine am_X12_plates (fun P hc => ?_)
  have L : ∀ n : Nat, (∀ (v2 : Int32) (v3 : Int32) (M : Im) (JM : Jm), Bd M → (v2.toInt = pcn v1 (v3.toInt - 1).toNat) → (MM M v2.toInt) → (0 ≤ v2.toInt ∧ v2.toInt ≤ 12 ∧ 1 ≤ v3.toInt ∧ v3.toInt ≤ 31) → 100000000 - v3.toInt < (n : Int) → P 4 112 [(0, .ref 97), (1, .int v1), (2, .int v2), (3, .int v3)] [] M JM R) ∧ (∀ (v2 : Int32) (v3 : Int32) (M : Im) (JM : Jm), Bd M → (MM M v2.toInt) → (0 ≤ v2.toInt ∧ v2.toInt ≤ 12 ∧ -1 ≤ v3.toInt ∧ v3.toInt ≤ 4095) → 100 * v3.toInt + 200 < (n : Int) → P 45 112 [(0, .ref 97), (2, .int v2), (3, .int v3)] [] M JM R) ∧ (∀ (v2 : Int32) (v3 : Int32) (v4 : Int64) (v6 : Int32) (M : Im) (JM : Jm), Bd M → (MM M v2.toInt) → (0 ≤ v2.toInt ∧ v2.toInt ≤ 12 ∧ 0 ≤ v3.toInt ∧ v3.toInt ≤ 4095 ∧ 0 ≤ v6.toInt ∧ v6.toInt ≤ v2.toInt) → 100 * v3.toInt + 199 - v6.toInt < (n : Int) → P 57 112 [(0, .ref 97), (2, .int v2), (3, .int v3), (4, .long v4), (6, .int v6)] [] M JM R) ∧ (∀ (v2 : Int32) (v3 : Int32) (v4 : Int64) (v6 : Int32) (M : Im) (JM : Jm), Bd M → (MM M v2.toInt) → (0 ≤ v2.toInt ∧ v2.toInt ≤ 12 ∧ 0 ≤ v3.toInt ∧ v3.toInt ≤ 4095 ∧ -1 ≤ v6.toInt ∧ v6.toInt < v2.toInt) → 100 * v3.toInt + 150 + v6.toInt < (n : Int) → P 109 112 [(0, .ref 97), (2, .int v2), (3, .int v3), (4, .long v4), (6, .int v6)] [] M JM R) := by
    intro n
    induction n with
    | zero =>
      exact ⟨fun v2 v3 M J _ _ _ hi hm => absurd hm (by omega), fun v2 v3 M J _ _ hi hm => absurd hm (by omega), fun v2 v3 v4 v6 M J _ _ hi hm => absurd hm (by omega), fun v2 v3 v4 v6 M J _ _ hi hm => absurd hm (by omega)⟩
    | succ n ih =>
      refine ⟨?_, ?_, ?_, ?_⟩
      · skip
        intro v2 v3 M JM hB hq_0 hq_1 hi hm
        have i_v1 := i32 v1
        have i_v2 := i32 v2
        have i_v3 := i32 v3
        refine sg_X12_plates_4 hc _ _ _ _ _ _ ?_
        refine ⟨fun c1 => ?_, fun c1 => ?_⟩
        · skip
          have d2 : ((30) : Int) < (v3.toInt) := ci_lt rfl rfl c1
          have hn12 : v2.toInt ≤ 12 := by have := pcn_le (s := v1) (a := (v3.toInt - 1).toNat) (b := 30) (by omega); omega
          have s3 := shl1 (show (v2 : Int32).toInt = v2.toInt from rfl) (by omega)
          have e4 : (((1 <<< (v2 &&& 31)) - 1) : Int32).toInt = (((1 <<< (v2 &&& 31)) : Int32).toInt) - (1) := ti_sub rfl rfl (by omega)
          have hv5 : MM M v2.toInt := hq_1
          exact ih.2.1 _ _ _ _ hB hv5 (by have q0 : (v2 : Int32).toInt = v2.toInt := rfl; have q1 : (((1 <<< (v2 &&& 31)) - 1) : Int32).toInt = (((1 <<< (v2 &&& 31)) : Int32).toInt - 1) := e4; omega) (by have q0 : (((1 <<< (v2 &&& 31)) - 1) : Int32).toInt = (((1 <<< (v2 &&& 31)) : Int32).toInt - 1) := e4; omega)
        · skip
          have d6 : ((v3.toInt) : Int) ≤ (30) := ci_nlt rfl rfl c1
          refine w_X12_isOf ?_
          refine ⟨fun c7 => ?_, fun c7 => ?_⟩
          · skip
            have d8 : ¬ (((((v1 >>> ((v3 - 1) &&& 31)) &&& 1) : Int32).toInt) : Int) = (1) := ci_ne rfl rfl c7
            refine ⟨Or.inl rfl, ?_⟩
            intro o9
            refine ⟨fun c10 => ?_, fun c10 => ?_⟩
            · exact absurd c10 (by decide)
            · skip
              have e11 : ((v3 + 1) : Int32).toInt = (v3.toInt) + (1) := ti_add rfl rfl (by omega)
              have hv12 : v2.toInt = pcn v1 ((v3 + 1).toInt - 1).toNat := (by have z1 : v2.toInt + 0 = _ := pcn_to hq_0 (by omega) (ti_add rfl rfl (by omega)) (pcb0 c7); rw [← z1]; omega)
              have hv13 : MM M v2.toInt := hq_1
              exact ih.1 _ _ _ _ hB hv12 hv13 (by have q0 : (v2 : Int32).toInt = v2.toInt := rfl; have q1 : ((v3 + 1) : Int32).toInt = (v3.toInt + 1) := e11; omega) (by have q0 : ((v3 + 1) : Int32).toInt = (v3.toInt + 1) := e11; omega)
          · skip
            have d14 : (((((v1 >>> ((v3 - 1) &&& 31)) &&& 1) : Int32).toInt) : Int) = (1) := ci_eq rfl rfl c7
            refine ⟨Or.inr rfl, ?_⟩
            intro o15
            refine ⟨fun c16 => ?_, fun c16 => ?_⟩
            · skip
              have hn11 := pcn_lt hq_0 (by omega) hp30 c7
              refine ⟨vp_of (a := v2.toInt) rfl (by omega) (by omega), ?_⟩
              have hB17 : Bd (uI M 109 (Int32.toNatClampNeg v2) v3) := Bd.a0 hB (show isA 112 109 0 = true from rfl) (show bna 109 = none from rfl)
              have e18 : ((v2 + 1) : Int32).toInt = (v2.toInt) + (1) := ti_add rfl rfl (by omega)
              have e19 : ((v3 + 1) : Int32).toInt = (v3.toInt) + (1) := ti_add rfl rfl (by omega)
              have hv20 : (v2 + 1).toInt = pcn v1 ((v3 + 1).toInt - 1).toNat := (by have z1 : ((v2 + 1) : Int32).toInt = v2.toInt + 1 := ti_add rfl rfl (by omega); rw [z1]; exact pcn_to hq_0 (by omega) (ti_add rfl rfl (by omega)) (pcb1 c7))
              have hv21 : MM (uI M 109 (Int32.toNatClampNeg v2) v3) (v2 + 1).toInt := (MM.add hq_1 (by omega) (ti_add rfl rfl (by omega)) (by omega))
              exact ih.1 _ _ _ _ hB17 hv20 hv21 (by have q0 : ((v2 + 1) : Int32).toInt = (v2.toInt + 1) := e18; have q1 : ((v3 + 1) : Int32).toInt = (v3.toInt + 1) := e19; omega) (by have q0 : ((v3 + 1) : Int32).toInt = (v3.toInt + 1) := e19; omega)
            · exact absurd c16 (by decide)
      · skip
        intro v2 v3 M JM hB hq_0 hi hm
        have i_v2 := i32 v2
        have i_v3 := i32 v3
        refine sg_X12_plates_45 hc _ _ _ _ _ ?_
        refine ⟨fun c22 => ?_, fun c22 => ?_⟩
        · skip
          have d23 : ((v3.toInt) : Int) < (0) := ci_lt rfl rfl c22
          refine ⟨vp_of (a := 0) rfl (by omega) (by omega), ?_⟩
          exact hQ _ _ _ _ hB trivial
        · skip
          have d24 : ((0) : Int) ≤ (v3.toInt) := ci_nlt rfl rfl c22
          have hv25 : MM M v2.toInt := hq_0
          exact ih.2.2.1 _ _ _ _ _ _ hB hv25 (by have q0 : (v2 : Int32).toInt = v2.toInt := rfl; have q1 : (v3 : Int32).toInt = v3.toInt := rfl; have q2 : (0 : Int32).toInt = 0 := rfl; omega) (by have q0 : (v3 : Int32).toInt = v3.toInt := rfl; have q1 : (0 : Int32).toInt = 0 := rfl; omega)
      · skip
        intro v2 v3 v4 v6 M JM hB hq_0 hi hm
        have i_v2 := i32 v2
        have i_v3 := i32 v3
        have i_v4 := i64 v4
        have i_v6 := i32 v6
        refine sg_X12_plates_57 hc _ _ _ _ _ _ _ ?_
        refine ⟨fun c26 => ?_, fun c26 => ?_⟩
        · skip
          have d27 : ((v2.toInt) : Int) ≤ (v6.toInt) := ci_le rfl rfl c26
          refine ⟨vp_of (a := v3.toInt) rfl (by omega) (by omega), ?_⟩
          have hB28 : Bd (uI M 110 (Int32.toNatClampNeg v3) (-1)) := Bd.a0 hB (show isA 112 110 0 = true from rfl) (show bna 110 = none from rfl)
          have e29 : ((v2 - 1) : Int32).toInt = (v2.toInt) - (1) := ti_sub rfl rfl (by omega)
          have hv30 : MM (uI M 110 (Int32.toNatClampNeg v3) (-1)) v2.toInt := (MM.o hq_0)
          exact ih.2.2.2 _ _ _ _ _ _ hB28 hv30 (by have q0 : (v2 : Int32).toInt = v2.toInt := rfl; have q1 : (v3 : Int32).toInt = v3.toInt := rfl; have q2 : ((v2 - 1) : Int32).toInt = (v2.toInt - 1) := e29; omega) (by have q0 : (v3 : Int32).toInt = v3.toInt := rfl; have q1 : ((v2 - 1) : Int32).toInt = (v2.toInt - 1) := e29; omega)
        · skip
          have d31 : ((v6.toInt) : Int) < (v2.toInt) := ci_nle rfl rfl c26
          refine w_X12_isOf ?_
          refine ⟨fun c32 => ?_, fun c32 => ?_⟩
          · skip
            have d33 : ¬ (((((v3 >>> (v6 &&& 31)) &&& 1) : Int32).toInt) : Int) = (1) := ci_ne rfl rfl c32
            refine ⟨Or.inl rfl, ?_⟩
            intro o34
            refine ⟨fun c35 => ?_, fun c35 => ?_⟩
            · skip
              have e36 : ((v6 + 1) : Int32).toInt = (v6.toInt) + (1) := ti_add rfl rfl (by omega)
              have hv37 : MM M v2.toInt := hq_0
              exact ih.2.2.1 _ _ _ _ _ _ hB hv37 (by have q0 : (v2 : Int32).toInt = v2.toInt := rfl; have q1 : (v3 : Int32).toInt = v3.toInt := rfl; have q2 : ((v6 + 1) : Int32).toInt = (v6.toInt + 1) := e36; omega) (by have q0 : (v3 : Int32).toInt = v3.toInt := rfl; have q1 : ((v6 + 1) : Int32).toInt = (v6.toInt + 1) := e36; omega)
            · exact absurd c35 (by decide)
          · skip
            have d38 : (((((v3 >>> (v6 &&& 31)) &&& 1) : Int32).toInt) : Int) = (1) := ci_eq rfl rfl c32
            refine ⟨Or.inr rfl, ?_⟩
            intro o39
            refine ⟨fun c40 => ?_, fun c40 => ?_⟩
            · exact absurd c40 (by decide)
            · skip
              refine ⟨vp_of (a := v6.toInt) rfl (by omega) (by omega), ?_⟩
              refine w_X12_partsOf ?_
              have hm41 := hq_0 v6 (by omega) (by omega)
              have i42 := i32 ((M 109 (Int32.toNatClampNeg v6)))
              refine ⟨(fun z => by have z2 : ((M 109 (Int32.toNatClampNeg v6)).toInt : Int) = 0 := cl_eq (tl_i2l rfl) rfl z; omega), ?_⟩
              have e43 : ((v6 + 1) : Int32).toInt = (v6.toInt) + (1) := ti_add rfl rfl (by omega)
              have hv44 : MM M v2.toInt := hq_0
              exact ih.2.2.1 _ _ _ _ _ _ hB hv44 (by have q0 : (v2 : Int32).toInt = v2.toInt := rfl; have q1 : (v3 : Int32).toInt = v3.toInt := rfl; have q2 : ((v6 + 1) : Int32).toInt = (v6.toInt + 1) := e43; omega) (by have q0 : (v3 : Int32).toInt = v3.toInt := rfl; have q1 : ((v6 + 1) : Int32).toInt = (v6.toInt + 1) := e43; omega)
      · skip
        intro v2 v3 v4 v6 M JM hB hq_0 hi hm
        have i_v2 := i32 v2
        have i_v3 := i32 v3
        have i_v4 := i64 v4
        have i_v6 := i32 v6
        refine sg_X12_plates_109 hc _ _ _ _ _ _ _ ?_
        refine ⟨fun c45 => ?_, fun c45 => ?_⟩
        · skip
          have d46 : ((v6.toInt) : Int) < (0) := ci_lt rfl rfl c45
          have e47 : ((v3 + (-1)) : Int32).toInt = (v3.toInt) + ((-1)) := ti_add rfl rfl (by omega)
          have hv48 : MM M v2.toInt := hq_0
          exact ih.2.1 _ _ _ _ hB hv48 (by have q0 : (v2 : Int32).toInt = v2.toInt := rfl; have q1 : ((v3 + (-1)) : Int32).toInt = (v3.toInt + (-1)) := e47; omega) (by have q0 : ((v3 + (-1)) : Int32).toInt = (v3.toInt + (-1)) := e47; omega)
        · skip
          have d49 : ((0) : Int) ≤ (v6.toInt) := ci_nlt rfl rfl c45
          refine w_X12_isOf ?_
          refine ⟨fun c50 => ?_, fun c50 => ?_⟩
          · skip
            have d51 : ¬ (((((v3 >>> (v6 &&& 31)) &&& 1) : Int32).toInt) : Int) = (1) := ci_ne rfl rfl c50
            refine ⟨Or.inl rfl, ?_⟩
            intro o52
            refine ⟨fun c53 => ?_, fun c53 => ?_⟩
            · exact absurd c53 (by decide)
            · skip
              refine ⟨vp_of (a := v6.toInt) rfl (by omega) (by omega), ?_⟩
              refine w_X12_partsOf ?_
              have hm54 := hq_0 v6 (by omega) (by omega)
              have i55 := i32 ((M 109 (Int32.toNatClampNeg v6)))
              refine ⟨(fun z => by have z2 : ((M 109 (Int32.toNatClampNeg v6)).toInt : Int) = 0 := cl_eq (tl_i2l rfl) rfl z; omega), ?_⟩
              refine ⟨fun c56 => ?_, fun c56 => ?_⟩
              · skip
                rw [lg_cmp_gt] at c56
                have d57 : (((v4 : Int64).toInt) : Int) < (((2329089562800 / (Int32.toInt64 (M 109 (Int32.toNatClampNeg v6)))) : Int64).toInt) := cl_lt rfl rfl c56
                have e58 : ((v6 + (-1)) : Int32).toInt = (v6.toInt) + ((-1)) := ti_add rfl rfl (by omega)
                have hv59 : MM M v2.toInt := hq_0
                exact ih.2.2.2 _ _ _ _ _ _ hB hv59 (by have q0 : (v2 : Int32).toInt = v2.toInt := rfl; have q1 : (v3 : Int32).toInt = v3.toInt := rfl; have q2 : ((v6 + (-1)) : Int32).toInt = (v6.toInt + (-1)) := e58; omega) (by have q0 : (v3 : Int32).toInt = v3.toInt := rfl; have q1 : ((v6 + (-1)) : Int32).toInt = (v6.toInt + (-1)) := e58; omega)
              · skip
                rw [lg_cmp_gt] at c56
                have d60 : ((((2329089562800 / (Int32.toInt64 (M 109 (Int32.toNatClampNeg v6)))) : Int64).toInt) : Int) ≤ ((v4 : Int64).toInt) := cl_nlt rfl rfl c56
                have s61 := shl1 (show (v6 : Int32).toInt = v6.toInt from rfl) (by omega)
                have s62 := or12 (show (v3 : Int32).toInt = v3.toInt from rfl) (show ((1 <<< (v6 &&& 31)) : Int32).toInt = ((1 <<< (v6 &&& 31)) : Int32).toInt from rfl) (by omega) (by omega)
                refine ⟨vp_of (a := ((v3 ||| (1 <<< (v6 &&& 31))) : Int32).toInt) rfl (by omega) (by omega), ?_⟩
                refine ⟨fun c63 => ?_, fun c63 => ?_⟩
                · skip
                  have d64 : ((0) : Int) ≤ ((M 110 (Int32.toNatClampNeg (v3 ||| (1 <<< (v6 &&& 31))))).toInt) := ci_le rfl rfl c63
                  have e65 : ((v6 + (-1)) : Int32).toInt = (v6.toInt) + ((-1)) := ti_add rfl rfl (by omega)
                  have hv66 : MM M v2.toInt := hq_0
                  exact ih.2.2.2 _ _ _ _ _ _ hB hv66 (by have q0 : (v2 : Int32).toInt = v2.toInt := rfl; have q1 : (v3 : Int32).toInt = v3.toInt := rfl; have q2 : ((v6 + (-1)) : Int32).toInt = (v6.toInt + (-1)) := e65; omega) (by have q0 : (v3 : Int32).toInt = v3.toInt := rfl; have q1 : ((v6 + (-1)) : Int32).toInt = (v6.toInt + (-1)) := e65; omega)
                · skip
                  have d67 : (((M 110 (Int32.toNatClampNeg (v3 ||| (1 <<< (v6 &&& 31))))).toInt) : Int) < (0) := ci_nle rfl rfl c63
                  refine ⟨vp_of (a := v6.toInt) rfl (by omega) (by omega), ?_⟩
                  refine ⟨vp_of (a := v3.toInt) rfl (by omega) (by omega), ?_⟩
                  have hB68 : Bd (uI M 110 (Int32.toNatClampNeg v3) (M 109 (Int32.toNatClampNeg v6))) := Bd.a0 hB (show isA 112 110 0 = true from rfl) (show bna 110 = none from rfl)
                  have e69 : ((v6 + (-1)) : Int32).toInt = (v6.toInt) + ((-1)) := ti_add rfl rfl (by omega)
                  have hv70 : MM (uI M 110 (Int32.toNatClampNeg v3) (M 109 (Int32.toNatClampNeg v6))) v2.toInt := (MM.o hq_0)
                  exact ih.2.2.2 _ _ _ _ _ _ hB68 hv70 (by have q0 : (v2 : Int32).toInt = v2.toInt := rfl; have q1 : (v3 : Int32).toInt = v3.toInt := rfl; have q2 : ((v6 + (-1)) : Int32).toInt = (v6.toInt + (-1)) := e69; omega) (by have q0 : (v3 : Int32).toInt = v3.toInt := rfl; have q1 : ((v6 + (-1)) : Int32).toInt = (v6.toInt + (-1)) := e69; omega)
          · skip
            have d71 : (((((v3 >>> (v6 &&& 31)) &&& 1) : Int32).toInt) : Int) = (1) := ci_eq rfl rfl c50
            refine ⟨Or.inr rfl, ?_⟩
            intro o72
            refine ⟨fun c73 => ?_, fun c73 => ?_⟩
            · skip
              have e74 : ((v6 + (-1)) : Int32).toInt = (v6.toInt) + ((-1)) := ti_add rfl rfl (by omega)
              have hv75 : MM M v2.toInt := hq_0
              exact ih.2.2.2 _ _ _ _ _ _ hB hv75 (by have q0 : (v2 : Int32).toInt = v2.toInt := rfl; have q1 : (v3 : Int32).toInt = v3.toInt := rfl; have q2 : ((v6 + (-1)) : Int32).toInt = (v6.toInt + (-1)) := e74; omega) (by have q0 : (v3 : Int32).toInt = v3.toInt := rfl; have q1 : ((v6 + (-1)) : Int32).toInt = (v6.toInt + (-1)) := e74; omega)
            · exact absurd c73 (by decide)
  refine sg_X12_plates_0 hc _ _ _ _ ?_
  have hv76 : (0 : Int32).toInt = pcn v1 ((1 : Int32).toInt - 1).toNat := rfl
  have hv77 : MM I (0 : Int32).toInt := (MM.zero (Int.le_refl 0))
  exact (L 200000000).1 _ _ _ _ hB0 hv76 hv77 (by have q0 : (0 : Int32).toInt = 0 := rfl; have q1 : (1 : Int32).toInt = 1 := rfl; omega) (by have q0 : (1 : Int32).toInt = 1 := rfl; omega)
set_option maxHeartbeats 2000000 in
theorem sp_X12_plate {d : Nat} {Q : Qt} {v1 : Int32} {I : Im} {J : Jm} {R : Rm} (hB0 : Bd I) (hR0 : RI R) (hQ : ∀ (x : Int32) (y : Int64) (I2 : Im) (J2 : Jm), Bd I2 → (True) → Q x y I2 J2 R) : AM (d + 4) 297 112 [.ref 97, .int v1] I J R Q := by
  have i_v1 := i32 v1
  refine am_X12_plate (fun P hc => ?_)
  refine sg_X12_plate_0 hc _ _ _ _ ?_
  have hB1 : Bd (uI I 97 1 0) := Bd.o0 hB0 (show isO 112 97 12 = true from rfl) (by omega) (show bnd 12 1 = none from rfl)
  have hB2 : Bd (uI (uI I 97 1 0) 97 0 0) := Bd.o0 hB1 (show isO 112 97 12 = true from rfl) (by omega) (show bnd 12 0 = none from rfl)
  refine w_X12_isSet ?_
  refine w_X12_isIn ?_
  refine ⟨fun c3 => ?_, fun c3 => ?_⟩
  · skip
    rw [lg_cmp_lt] at c3
    have d4 : ((v1.toInt) : Int) < (0) := cl_lt (tl_i2l rfl) rfl c3
    refine ⟨Or.inl rfl, ?_⟩
    intro o5
    refine ⟨fun c6 => ?_, fun c6 => ?_⟩
    · skip
      refine ⟨Or.inl rfl, ?_⟩
      intro o7
      refine ⟨fun c8 => ?_, fun c8 => ?_⟩
      · exact absurd c8 (by decide)
      · skip
        refine w_X12_refuse ?_
        have hB9 : Bd (uI (uI (uI I 97 1 0) 97 0 0) 97 0 5) := Bd.o0 hB2 (show isO 112 97 12 = true from rfl) (by omega) (show bnd 12 0 = none from rfl)
        exact hQ _ _ _ _ hB9 trivial
    · exact absurd c6 (by decide)
  · skip
    rw [lg_cmp_lt] at c3
    have d10 : ((0) : Int) ≤ (v1.toInt) := cl_nlt (tl_i2l rfl) rfl c3
    refine ⟨fun c11 => ?_, fun c11 => ?_⟩
    · skip
      rw [lg_cmp_gt] at c11
      have d12 : ((1073741823) : Int) < (v1.toInt) := cl_lt rfl (tl_i2l rfl) c11
      refine ⟨Or.inl rfl, ?_⟩
      intro o13
      refine ⟨fun c14 => ?_, fun c14 => ?_⟩
      · skip
        refine ⟨Or.inl rfl, ?_⟩
        intro o15
        refine ⟨fun c16 => ?_, fun c16 => ?_⟩
        · exact absurd c16 (by decide)
        · skip
          refine w_X12_refuse ?_
          have hB17 : Bd (uI (uI (uI I 97 1 0) 97 0 0) 97 0 5) := Bd.o0 hB2 (show isO 112 97 12 = true from rfl) (by omega) (show bnd 12 0 = none from rfl)
          exact hQ _ _ _ _ hB17 trivial
      · exact absurd c14 (by decide)
    · skip
      rw [lg_cmp_gt] at c11
      have d18 : ((v1.toInt) : Int) ≤ (1073741823) := cl_nlt rfl (tl_i2l rfl) c11
      refine ⟨Or.inr rfl, ?_⟩
      intro o19
      refine ⟨fun c20 => ?_, fun c20 => ?_⟩
      · exact absurd c20 (by decide)
      · skip
        refine sp_X12_sizeOf hB2 hR0 (fun x21 y26 I22 J23 hB24 p25 => ?_)
        obtain ⟨heI22, p25⟩ := p25
        subst heI22
        have i27 := i32 x21
        refine ⟨fun c28 => ?_, fun c28 => ?_⟩
        · skip
          have d29 : ((12) : Int) < (x21.toInt) := ci_lt rfl rfl c28
          refine ⟨Or.inl rfl, ?_⟩
          intro o30
          refine ⟨fun c31 => ?_, fun c31 => ?_⟩
          · exact absurd c31 (by decide)
          · skip
            refine w_X12_refuse ?_
            have hB32 : Bd (uI (uI (uI I 97 1 0) 97 0 0) 97 0 5) := Bd.o0 hB2 (show isO 112 97 12 = true from rfl) (by omega) (show bnd 12 0 = none from rfl)
            exact hQ _ _ _ _ hB32 trivial
        · skip
          have d33 : ((x21.toInt) : Int) ≤ (12) := ci_nlt rfl rfl c28
          refine ⟨Or.inr rfl, ?_⟩
          intro o34
          refine ⟨fun c35 => ?_, fun c35 => ?_⟩
          · skip
            refine sp_X12_plates hB2 hR0 (by omega) (fun x36 y41 I37 J38 hB39 p40 => ?_)
            have i42 := i32 x36
            refine ⟨fun c43 => ?_, fun c43 => ?_⟩
            · skip
              have d44 : ((x36.toInt) : Int) ≤ (0) := ci_le rfl rfl c43
              exact hQ _ _ _ _ hB39 trivial
            · skip
              have d45 : ((0) : Int) < (x36.toInt) := ci_nle rfl rfl c43
              exact hQ _ _ _ _ hB39 trivial
          · exact absurd c35 (by decide)
set_option maxHeartbeats 2000000 in
theorem sp_X12_plateMove {d : Nat} {Q : Qt} {v1 : Int32} {I : Im} {J : Jm} {R : Rm} (hB0 : Bd I) (hR0 : RI R) (hQ : ∀ (x : Int32) (y : Int64) (I2 : Im) (J2 : Jm), Bd I2 → (True) → Q x y I2 J2 R) : AM (d + 4) 298 112 [.ref 97, .int v1] I J R Q := by
  have i_v1 := i32 v1
  refine am_X12_plateMove (fun P hc => ?_)
  refine sg_X12_plateMove_0 hc _ _ _ _ ?_
  have hB1 : Bd (uI I 97 1 0) := Bd.o0 hB0 (show isO 112 97 12 = true from rfl) (by omega) (show bnd 12 1 = none from rfl)
  have hB2 : Bd (uI (uI I 97 1 0) 97 0 0) := Bd.o0 hB1 (show isO 112 97 12 = true from rfl) (by omega) (show bnd 12 0 = none from rfl)
  refine w_X12_isSet ?_
  refine w_X12_isIn ?_
  refine ⟨fun c3 => ?_, fun c3 => ?_⟩
  · skip
    rw [lg_cmp_lt] at c3
    have d4 : ((v1.toInt) : Int) < (0) := cl_lt (tl_i2l rfl) rfl c3
    refine ⟨Or.inl rfl, ?_⟩
    intro o5
    refine ⟨fun c6 => ?_, fun c6 => ?_⟩
    · skip
      refine ⟨Or.inl rfl, ?_⟩
      intro o7
      refine ⟨fun c8 => ?_, fun c8 => ?_⟩
      · skip
        refine w_X12_refuse ?_
        have hB9 : Bd (uI (uI (uI I 97 1 0) 97 0 0) 97 0 5) := Bd.o0 hB2 (show isO 112 97 12 = true from rfl) (by omega) (show bnd 12 0 = none from rfl)
        exact hQ _ _ _ _ hB9 trivial
      · exact absurd c8 (by decide)
    · exact absurd c6 (by decide)
  · skip
    rw [lg_cmp_lt] at c3
    have d10 : ((0) : Int) ≤ (v1.toInt) := cl_nlt (tl_i2l rfl) rfl c3
    refine ⟨fun c11 => ?_, fun c11 => ?_⟩
    · skip
      rw [lg_cmp_gt] at c11
      have d12 : ((1073741823) : Int) < (v1.toInt) := cl_lt rfl (tl_i2l rfl) c11
      refine ⟨Or.inl rfl, ?_⟩
      intro o13
      refine ⟨fun c14 => ?_, fun c14 => ?_⟩
      · skip
        refine ⟨Or.inl rfl, ?_⟩
        intro o15
        refine ⟨fun c16 => ?_, fun c16 => ?_⟩
        · skip
          refine w_X12_refuse ?_
          have hB17 : Bd (uI (uI (uI I 97 1 0) 97 0 0) 97 0 5) := Bd.o0 hB2 (show isO 112 97 12 = true from rfl) (by omega) (show bnd 12 0 = none from rfl)
          exact hQ _ _ _ _ hB17 trivial
        · exact absurd c16 (by decide)
      · exact absurd c14 (by decide)
    · skip
      rw [lg_cmp_gt] at c11
      have d18 : ((v1.toInt) : Int) ≤ (1073741823) := cl_nlt rfl (tl_i2l rfl) c11
      refine ⟨Or.inr rfl, ?_⟩
      intro o19
      refine ⟨fun c20 => ?_, fun c20 => ?_⟩
      · exact absurd c20 (by decide)
      · skip
        refine sp_X12_sizeOf hB2 hR0 (fun x21 y26 I22 J23 hB24 p25 => ?_)
        obtain ⟨heI22, p25⟩ := p25
        subst heI22
        have i27 := i32 x21
        refine ⟨fun c28 => ?_, fun c28 => ?_⟩
        · skip
          have d29 : ((12) : Int) < (x21.toInt) := ci_lt rfl rfl c28
          refine ⟨Or.inl rfl, ?_⟩
          intro o30
          refine ⟨fun c31 => ?_, fun c31 => ?_⟩
          · skip
            refine w_X12_refuse ?_
            have hB32 : Bd (uI (uI (uI I 97 1 0) 97 0 0) 97 0 5) := Bd.o0 hB2 (show isO 112 97 12 = true from rfl) (by omega) (show bnd 12 0 = none from rfl)
            exact hQ _ _ _ _ hB32 trivial
          · exact absurd c31 (by decide)
        · skip
          have d33 : ((x21.toInt) : Int) ≤ (12) := ci_nlt rfl rfl c28
          refine ⟨Or.inr rfl, ?_⟩
          intro o34
          refine ⟨fun c35 => ?_, fun c35 => ?_⟩
          · exact absurd c35 (by decide)
          · skip
            refine sp_X12_plates hB2 hR0 (by omega) (fun x36 y41 I37 J38 hB39 p40 => ?_)
            have i42 := i32 x36
            refine w_X12_answer ?_
            refine ⟨fun c43 => ?_, fun c43 => ?_⟩
            · skip
              have d44 : ((0) : Int) ≤ (x36.toInt) := ci_le rfl rfl c43
              exact hQ _ _ _ _ hB39 trivial
            · skip
              have d45 : ((x36.toInt) : Int) < (0) := ci_nle rfl rfl c43
              refine w_X12_refuse ?_
              have hB46 : Bd (uI I37 97 0 8) := Bd.o0 hB39 (show isO 112 97 12 = true from rfl) (by omega) (show bnd 12 0 = none from rfl)
              exact hQ _ _ _ _ hB46 trivial
set_option maxHeartbeats 2000000 in
theorem sp_X12_lucks_r (m : Nat) : ∀ {d : Nat} {Q : Qt} {v1 : Int32} {v2 : Int32} {v3 : Int32} {v4 : Int64} {I : Im} {J : Jm} {R : Rm} (hB0 : Bd I) (hR0 : RI R) (hv1 : 0 ≤ v1.toInt ∧ v1.toInt ≤ 12) (hv2 : 1 ≤ v2.toInt ∧ v2.toInt ≤ 31) (hm0 : 1 + v1.toInt ≤ (m : Int)) (hQ : ∀ (x : Int32) (y : Int64) (I2 : Im) (J2 : Jm), Bd I2 → (I = I2) → Q x y I2 J2 R), AM (d + m + 3) 300 112 [.ref 97, .int v1, .int v2, .int v3, .long v4] I J R Q := by
  induction m with
  | zero => intro d Q v1 v2 v3 v4 I J R hB0 hR0 hv1 hv2 hm0 hQ; exact absurd hm0 (by omega)
  | succ m ihm =>
  intro d Q v1 v2 v3 v4 I J R hB0 hR0 hv1 hv2 hm0 hQ
  have i_v1 := i32 v1
  have i_v2 := i32 v2
  have i_v3 := i32 v3
  have i_v4 := i64 v4
  refine am_X12_lucks (fun P hc => ?_)
  have L : ∀ n : Nat, (∀ (v6 : Int64) (v8 : Int32) (M : Im) (JM : Jm), Bd M → I = M → (0 ≤ v1.toInt ∧ v1.toInt ≤ 12 ∧ ¬ v1.toInt = 0 ∧ 1 ≤ v8.toInt ∧ v8.toInt ≤ 31) → 50 - v8.toInt < (n : Int) → P 23 112 [(0, .ref 97), (1, .int v1), (3, .int v3), (4, .long v4), (6, .long v6), (8, .int v8)] [] M JM R) := by
    intro n
    induction n with
    | zero =>
      exact fun v6 v8 M J _ _ hi hm => absurd hm (by omega)
    | succ n ih =>
      intro v6 v8 M JM hB hM hi hm
      have i_v1 := i32 v1
      have i_v3 := i32 v3
      have i_v4 := i64 v4
      have i_v6 := i64 v6
      have i_v8 := i32 v8
      refine sg_X12_lucks_23 hc _ _ _ _ _ _ _ _ ?_
      subst hM
      refine ⟨fun c1 => ?_, fun c1 => ?_⟩
      · skip
        have d2 : ((30) : Int) < (v8.toInt) := ci_lt rfl rfl c1
        exact hQ _ _ _ _ hB0 rfl
      · skip
        have d3 : ((v8.toInt) : Int) ≤ (30) := ci_nlt rfl rfl c1
        refine w_X12_isOf ?_
        refine ⟨fun c4 => ?_, fun c4 => ?_⟩
        · skip
          have d5 : ¬ (((((v3 >>> ((v8 - 1) &&& 31)) &&& 1) : Int32).toInt) : Int) = (1) := ci_ne rfl rfl c4
          refine ⟨Or.inl rfl, ?_⟩
          intro o6
          refine ⟨fun c7 => ?_, fun c7 => ?_⟩
          · skip
            have e8 : ((v8 + 1) : Int32).toInt = (v8.toInt) + (1) := ti_add rfl rfl (by omega)
            exact ih _ _ _ _ hB0 rfl (by have q0 : ((v8 + 1) : Int32).toInt = (v8.toInt + 1) := e8; omega) (by have q0 : ((v8 + 1) : Int32).toInt = (v8.toInt + 1) := e8; omega)
          · exact absurd c7 (by decide)
        · skip
          have d9 : (((((v3 >>> ((v8 - 1) &&& 31)) &&& 1) : Int32).toInt) : Int) = (1) := ci_eq rfl rfl c4
          refine ⟨Or.inr rfl, ?_⟩
          intro o10
          refine ⟨fun c11 => ?_, fun c11 => ?_⟩
          · exact absurd c11 (by decide)
          · skip
            refine w_X12_partsOf ?_
            refine ⟨(fun z => by have z2 : (v8.toInt : Int) = 0 := cl_eq (tl_i2l rfl) rfl z; omega), ?_⟩
            have e12 : ((v1 - 1) : Int32).toInt = (v1.toInt) - (1) := ti_sub rfl rfl (by omega)
            have e13 : ((v8 + 1) : Int32).toInt = (v8.toInt) + (1) := ti_add rfl rfl (by omega)
            refine ihm (d := d) hB0 hR0 (by have z1 : ((v1 - 1) : Int32).toInt = (v1.toInt - 1) := e12; omega) (by have z2 : ((v8 + 1) : Int32).toInt = (v8.toInt + 1) := e13; omega) (by have z : ((v1 - 1) : Int32).toInt = (v1.toInt - 1) := e12; omega) (fun x14 y19 I15 J16 hB17 p18 => ?_)
            subst p18
            exact ih _ _ _ _ hB0 rfl (by have q0 : ((v8 + 1) : Int32).toInt = (v8.toInt + 1) := e13; omega) (by have q0 : ((v8 + 1) : Int32).toInt = (v8.toInt + 1) := e13; omega)
  refine sg_X12_lucks_0 hc _ _ _ _ _ _ _ ?_
  refine ⟨fun c20 => ?_, fun c20 => ?_⟩
  · skip
    have d21 : ¬ ((v1.toInt) : Int) = (0) := ci_ne rfl rfl c20
    exact (L 1000000) _ _ _ _ hB0 rfl (by have q0 : (v2 : Int32).toInt = v2.toInt := rfl; omega) (by have q0 : (v2 : Int32).toInt = v2.toInt := rfl; omega)
  · skip
    have d22 : ((v1.toInt) : Int) = (0) := ci_eq rfl rfl c20
    refine ⟨fun c23 => ?_, fun c23 => ?_⟩
    · skip
      rw [lg_cmp_lt] at c23
      have d24 : (((v4 : Int64).toInt) : Int) < (0) := cl_lt rfl rfl c23
      exact hQ _ _ _ _ hB0 rfl
    · skip
      rw [lg_cmp_lt] at c23
      have d25 : ((0) : Int) ≤ ((v4 : Int64).toInt) := cl_nlt rfl rfl c23
      exact hQ _ _ _ _ hB0 rfl
theorem sp_X12_lucks {d : Nat} {Q : Qt} {v1 : Int32} {v2 : Int32} {v3 : Int32} {v4 : Int64} {I : Im} {J : Jm} {R : Rm} (hB0 : Bd I) (hR0 : RI R) (hv1 : 0 ≤ v1.toInt ∧ v1.toInt ≤ 12) (hv2 : 1 ≤ v2.toInt ∧ v2.toInt ≤ 31) (hQ : ∀ (x : Int32) (y : Int64) (I2 : Im) (J2 : Jm), Bd I2 → (I = I2) → Q x y I2 J2 R) : AM (d + 16) 300 112 [.ref 97, .int v1, .int v2, .int v3, .long v4] I J R Q := sp_X12_lucks_r 13 (d := d) hB0 hR0 hv1 hv2 (by omega) hQ
set_option maxHeartbeats 2000000 in
theorem sp_X12_choices {d : Nat} {Q : Qt} {v0 : Int32} {v1 : Int32} {I : Im} {J : Jm} {R : Rm} (hB0 : Bd I) (hR0 : RI R) (hv0 : 0 ≤ v1.toInt ∧ v1.toInt ≤ v0.toInt ∧ v0.toInt ≤ 12) (hQ : ∀ (x : Int32) (y : Int64) (I2 : Im) (J2 : Jm), Bd I2 → (I = I2 ∧ (0 < y.toInt)) → Q x y I2 J2 R) : AM (d + 1) 301 112 [.int v0, .int v1] I J R Q := by
  have i_v0 := i32 v0
  have i_v1 := i32 v1
  refine am_X12_choices (fun P hc => ?_)
  have L : ∀ n : Nat, (∀ (v2 : Int64) (v4 : Int32) (M : Im) (JM : Jm), Bd M → I = M → (v2 = chz (v0 - v1) (v4.toInt - 1).toNat) → (0 ≤ v1.toInt ∧ v1.toInt ≤ v0.toInt ∧ v0.toInt ≤ 12 ∧ 1 ≤ v4.toInt ∧ v4.toInt ≤ v1.toInt + 1) → 20 - v4.toInt < (n : Int) → P 5 112 [(0, .int v0), (1, .int v1), (2, .long v2), (4, .int v4)] [] M JM R) := by
    intro n
    induction n with
    | zero =>
      exact fun v2 v4 M J _ _ _ hi hm => absurd hm (by omega)
    | succ n ih =>
      intro v2 v4 M JM hB hM hq_0 hi hm
      have i_v0 := i32 v0
      have i_v1 := i32 v1
      have i_v2 := i64 v2
      have i_v4 := i32 v4
      refine sg_X12_choices_5 hc _ _ _ _ _ _ _ ?_
      subst hM
      refine ⟨fun c1 => ?_, fun c1 => ?_⟩
      · skip
        have d2 : ((v1.toInt) : Int) < (v4.toInt) := ci_lt rfl rfl c1
        exact hQ _ _ _ _ hB0 ⟨rfl, (by rw [hq_0]; have z1 : (v0 - v1 : Int32).toInt = v0.toInt - v1.toInt := ti_sub rfl rfl (by omega); exact chz_pos (by omega) (by omega))⟩
      · skip
        have d3 : ((v4.toInt) : Int) ≤ (v1.toInt) := ci_nlt rfl rfl c1
        refine ⟨(fun z => by have z2 : (v4.toInt : Int) = 0 := cl_eq (tl_i2l rfl) rfl z; omega), ?_⟩
        have e4 : ((v4 + 1) : Int32).toInt = (v4.toInt) + (1) := ti_add rfl rfl (by omega)
        have hv5 : ((v2 * (Int32.toInt64 ((v0 - v1) + v4))) / (Int32.toInt64 v4)) = chz (v0 - v1) ((v4 + 1).toInt - 1).toNat := (chz_step hq_0 (by omega) (ti_add rfl rfl (by omega)))
        exact ih _ _ _ _ hB0 rfl hv5 (by have q0 : ((v4 + 1) : Int32).toInt = (v4.toInt + 1) := e4; omega) (by have q0 : ((v4 + 1) : Int32).toInt = (v4.toInt + 1) := e4; omega)
  refine sg_X12_choices_0 hc _ _ _ _ _ ?_
  have hv6 : (1 : Int64) = chz (v0 - v1) ((1 : Int32).toInt - 1).toNat := rfl
  exact (L 1000000) _ _ _ _ hB0 rfl hv6 (by have q0 : (1 : Int32).toInt = 1 := rfl; omega) (by have q0 : (1 : Int32).toInt = 1 := rfl; omega)
set_option maxHeartbeats 2000000 in
theorem sp_X12_luck {d : Nat} {Q : Qt} {v1 : Int32} {v2 : Int32} {v3 : Int32} {v4 : Int32} {I : Im} {J : Jm} {R : Rm} (hB0 : Bd I) (hR0 : RI R) (hQ : ∀ (x : Int32) (y : Int64) (I2 : Im) (J2 : Jm), Bd I2 → (True) → Q x y I2 J2 R) : AM (d + 17) 302 112 [.ref 97, .int v1, .int v2, .int v3, .int v4] I J R Q := by
  have i_v1 := i32 v1
  have i_v2 := i32 v2
  have i_v3 := i32 v3
  have i_v4 := i32 v4
  refine am_X12_luck (fun P hc => ?_)
  refine sg_X12_luck_0 hc _ _ _ _ _ _ _ ?_
  have hB1 : Bd (uI I 97 1 0) := Bd.o0 hB0 (show isO 112 97 12 = true from rfl) (by omega) (show bnd 12 1 = none from rfl)
  have hB2 : Bd (uI (uI I 97 1 0) 97 0 0) := Bd.o0 hB1 (show isO 112 97 12 = true from rfl) (by omega) (show bnd 12 0 = none from rfl)
  refine w_X12_isSet ?_
  refine w_X12_isIn ?_
  refine ⟨fun c3 => ?_, fun c3 => ?_⟩
  · skip
    rw [lg_cmp_lt] at c3
    have d4 : ((v1.toInt) : Int) < (0) := cl_lt (tl_i2l rfl) rfl c3
    refine ⟨Or.inl rfl, ?_⟩
    intro o5
    refine ⟨fun c6 => ?_, fun c6 => ?_⟩
    · skip
      refine ⟨Or.inl rfl, ?_⟩
      intro o7
      refine ⟨fun c8 => ?_, fun c8 => ?_⟩
      · skip
        refine w_X12_no ?_
        have hB9 : Bd (uI (uI (uI I 97 1 0) 97 0 0) 97 0 5) := Bd.o0 hB2 (show isO 112 97 12 = true from rfl) (by omega) (show bnd 12 0 = none from rfl)
        refine ⟨Or.inl rfl, ?_⟩
        intro o10
        refine ⟨Or.inl rfl, ?_⟩
        exact hQ _ _ _ _ hB9 trivial
      · exact absurd c8 (by decide)
    · exact absurd c6 (by decide)
  · skip
    rw [lg_cmp_lt] at c3
    have d11 : ((0) : Int) ≤ (v1.toInt) := cl_nlt (tl_i2l rfl) rfl c3
    refine ⟨fun c12 => ?_, fun c12 => ?_⟩
    · skip
      rw [lg_cmp_gt] at c12
      have d13 : ((1073741823) : Int) < (v1.toInt) := cl_lt rfl (tl_i2l rfl) c12
      refine ⟨Or.inl rfl, ?_⟩
      intro o14
      refine ⟨fun c15 => ?_, fun c15 => ?_⟩
      · skip
        refine ⟨Or.inl rfl, ?_⟩
        intro o16
        refine ⟨fun c17 => ?_, fun c17 => ?_⟩
        · skip
          refine w_X12_no ?_
          have hB18 : Bd (uI (uI (uI I 97 1 0) 97 0 0) 97 0 5) := Bd.o0 hB2 (show isO 112 97 12 = true from rfl) (by omega) (show bnd 12 0 = none from rfl)
          refine ⟨Or.inl rfl, ?_⟩
          intro o19
          refine ⟨Or.inl rfl, ?_⟩
          exact hQ _ _ _ _ hB18 trivial
        · exact absurd c17 (by decide)
      · exact absurd c15 (by decide)
    · skip
      rw [lg_cmp_gt] at c12
      have d20 : ((v1.toInt) : Int) ≤ (1073741823) := cl_nlt rfl (tl_i2l rfl) c12
      refine ⟨Or.inr rfl, ?_⟩
      intro o21
      refine ⟨fun c22 => ?_, fun c22 => ?_⟩
      · exact absurd c22 (by decide)
      · skip
        refine sp_X12_sizeOf hB2 hR0 (fun x23 y28 I24 J25 hB26 p27 => ?_)
        obtain ⟨heI24, p27⟩ := p27
        subst heI24
        have i29 := i32 x23
        refine ⟨fun c30 => ?_, fun c30 => ?_⟩
        · skip
          have d31 : ((12) : Int) < (x23.toInt) := ci_lt rfl rfl c30
          refine ⟨Or.inl rfl, ?_⟩
          intro o32
          refine ⟨fun c33 => ?_, fun c33 => ?_⟩
          · skip
            refine w_X12_no ?_
            have hB34 : Bd (uI (uI (uI I 97 1 0) 97 0 0) 97 0 5) := Bd.o0 hB2 (show isO 112 97 12 = true from rfl) (by omega) (show bnd 12 0 = none from rfl)
            refine ⟨Or.inl rfl, ?_⟩
            intro o35
            refine ⟨Or.inl rfl, ?_⟩
            exact hQ _ _ _ _ hB34 trivial
          · exact absurd c33 (by decide)
        · skip
          have d36 : ((x23.toInt) : Int) ≤ (12) := ci_nlt rfl rfl c30
          refine ⟨Or.inr rfl, ?_⟩
          intro o37
          refine ⟨fun c38 => ?_, fun c38 => ?_⟩
          · exact absurd c38 (by decide)
          · skip
            refine w_X12_isIn ?_
            refine ⟨fun c39 => ?_, fun c39 => ?_⟩
            · skip
              rw [lg_cmp_lt] at c39
              have d40 : ((v2.toInt) : Int) < (0) := cl_lt (tl_i2l rfl) rfl c39
              refine ⟨Or.inl rfl, ?_⟩
              intro o41
              refine ⟨fun c42 => ?_, fun c42 => ?_⟩
              · skip
                refine w_X12_no ?_
                have hB43 : Bd (uI (uI (uI I 97 1 0) 97 0 0) 97 0 5) := Bd.o0 hB2 (show isO 112 97 12 = true from rfl) (by omega) (show bnd 12 0 = none from rfl)
                refine ⟨Or.inl rfl, ?_⟩
                intro o44
                refine ⟨Or.inl rfl, ?_⟩
                exact hQ _ _ _ _ hB43 trivial
              · exact absurd c42 (by decide)
            · skip
              rw [lg_cmp_lt] at c39
              have d45 : ((0) : Int) ≤ (v2.toInt) := cl_nlt (tl_i2l rfl) rfl c39
              refine ⟨fun c46 => ?_, fun c46 => ?_⟩
              · skip
                rw [lg_cmp_gt] at c46
                have d47 : ((12) : Int) < (v2.toInt) := cl_lt rfl (tl_i2l rfl) c46
                refine ⟨Or.inl rfl, ?_⟩
                intro o48
                refine ⟨fun c49 => ?_, fun c49 => ?_⟩
                · skip
                  refine w_X12_no ?_
                  have hB50 : Bd (uI (uI (uI I 97 1 0) 97 0 0) 97 0 5) := Bd.o0 hB2 (show isO 112 97 12 = true from rfl) (by omega) (show bnd 12 0 = none from rfl)
                  refine ⟨Or.inl rfl, ?_⟩
                  intro o51
                  refine ⟨Or.inl rfl, ?_⟩
                  exact hQ _ _ _ _ hB50 trivial
                · exact absurd c49 (by decide)
              · skip
                rw [lg_cmp_gt] at c46
                have d52 : ((v2.toInt) : Int) ≤ (12) := cl_nlt rfl (tl_i2l rfl) c46
                refine ⟨Or.inr rfl, ?_⟩
                intro o53
                refine ⟨fun c54 => ?_, fun c54 => ?_⟩
                · exact absurd c54 (by decide)
                · skip
                  refine w_X12_isShare ?_
                  refine w_X12_isIn ?_
                  refine ⟨fun c55 => ?_, fun c55 => ?_⟩
                  · skip
                    rw [lg_cmp_lt] at c55
                    have d56 : ((v3.toInt) : Int) < (1) := cl_lt (tl_i2l rfl) rfl c55
                    refine ⟨Or.inl rfl, ?_⟩
                    intro o57
                    refine ⟨fun c58 => ?_, fun c58 => ?_⟩
                    · skip
                      refine ⟨Or.inl rfl, ?_⟩
                      intro o59
                      refine ⟨fun c60 => ?_, fun c60 => ?_⟩
                      · exact absurd c60 (by decide)
                      · skip
                        refine w_X12_no ?_
                        have hB61 : Bd (uI (uI (uI I 97 1 0) 97 0 0) 97 0 5) := Bd.o0 hB2 (show isO 112 97 12 = true from rfl) (by omega) (show bnd 12 0 = none from rfl)
                        refine ⟨Or.inl rfl, ?_⟩
                        intro o62
                        refine ⟨Or.inl rfl, ?_⟩
                        exact hQ _ _ _ _ hB61 trivial
                    · exact absurd c58 (by decide)
                  · skip
                    rw [lg_cmp_lt] at c55
                    have d63 : ((1) : Int) ≤ (v3.toInt) := cl_nlt (tl_i2l rfl) rfl c55
                    refine ⟨fun c64 => ?_, fun c64 => ?_⟩
                    · skip
                      rw [lg_cmp_gt] at c64
                      have d65 : ((99) : Int) < (v3.toInt) := cl_lt rfl (tl_i2l rfl) c64
                      refine ⟨Or.inl rfl, ?_⟩
                      intro o66
                      refine ⟨fun c67 => ?_, fun c67 => ?_⟩
                      · skip
                        refine ⟨Or.inl rfl, ?_⟩
                        intro o68
                        refine ⟨fun c69 => ?_, fun c69 => ?_⟩
                        · exact absurd c69 (by decide)
                        · skip
                          refine w_X12_no ?_
                          have hB70 : Bd (uI (uI (uI I 97 1 0) 97 0 0) 97 0 5) := Bd.o0 hB2 (show isO 112 97 12 = true from rfl) (by omega) (show bnd 12 0 = none from rfl)
                          refine ⟨Or.inl rfl, ?_⟩
                          intro o71
                          refine ⟨Or.inl rfl, ?_⟩
                          exact hQ _ _ _ _ hB70 trivial
                      · exact absurd c67 (by decide)
                    · skip
                      rw [lg_cmp_gt] at c64
                      have d72 : ((v3.toInt) : Int) ≤ (99) := cl_nlt rfl (tl_i2l rfl) c64
                      refine ⟨Or.inr rfl, ?_⟩
                      intro o73
                      refine ⟨fun c74 => ?_, fun c74 => ?_⟩
                      · exact absurd c74 (by decide)
                      · skip
                        refine w_X12_isIn ?_
                        refine ⟨fun c75 => ?_, fun c75 => ?_⟩
                        · skip
                          rw [lg_cmp_lt] at c75
                          have d76 : ((v4.toInt) : Int) < (1) := cl_lt (tl_i2l rfl) rfl c75
                          refine ⟨Or.inl rfl, ?_⟩
                          intro o77
                          refine ⟨fun c78 => ?_, fun c78 => ?_⟩
                          · skip
                            refine ⟨Or.inl rfl, ?_⟩
                            intro o79
                            refine ⟨fun c80 => ?_, fun c80 => ?_⟩
                            · exact absurd c80 (by decide)
                            · skip
                              refine w_X12_no ?_
                              have hB81 : Bd (uI (uI (uI I 97 1 0) 97 0 0) 97 0 5) := Bd.o0 hB2 (show isO 112 97 12 = true from rfl) (by omega) (show bnd 12 0 = none from rfl)
                              refine ⟨Or.inl rfl, ?_⟩
                              intro o82
                              refine ⟨Or.inl rfl, ?_⟩
                              exact hQ _ _ _ _ hB81 trivial
                          · exact absurd c78 (by decide)
                        · skip
                          rw [lg_cmp_lt] at c75
                          have d83 : ((1) : Int) ≤ (v4.toInt) := cl_nlt (tl_i2l rfl) rfl c75
                          refine ⟨fun c84 => ?_, fun c84 => ?_⟩
                          · skip
                            rw [lg_cmp_gt] at c84
                            have d85 : ((30) : Int) < (v4.toInt) := cl_lt rfl (tl_i2l rfl) c84
                            refine ⟨Or.inl rfl, ?_⟩
                            intro o86
                            refine ⟨fun c87 => ?_, fun c87 => ?_⟩
                            · skip
                              refine ⟨Or.inl rfl, ?_⟩
                              intro o88
                              refine ⟨fun c89 => ?_, fun c89 => ?_⟩
                              · exact absurd c89 (by decide)
                              · skip
                                refine w_X12_no ?_
                                have hB90 : Bd (uI (uI (uI I 97 1 0) 97 0 0) 97 0 5) := Bd.o0 hB2 (show isO 112 97 12 = true from rfl) (by omega) (show bnd 12 0 = none from rfl)
                                refine ⟨Or.inl rfl, ?_⟩
                                intro o91
                                refine ⟨Or.inl rfl, ?_⟩
                                exact hQ _ _ _ _ hB90 trivial
                            · exact absurd c87 (by decide)
                          · skip
                            rw [lg_cmp_gt] at c84
                            have d92 : ((v4.toInt) : Int) ≤ (30) := cl_nlt rfl (tl_i2l rfl) c84
                            refine ⟨Or.inr rfl, ?_⟩
                            intro o93
                            refine ⟨fun c94 => ?_, fun c94 => ?_⟩
                            · exact absurd c94 (by decide)
                            · skip
                              refine ⟨Or.inr rfl, ?_⟩
                              intro o95
                              refine ⟨fun c96 => ?_, fun c96 => ?_⟩
                              · skip
                                refine sp_X12_sizeOf hB2 hR0 (fun x97 y102 I98 J99 hB100 p101 => ?_)
                                obtain ⟨heI98, p101⟩ := p101
                                subst heI98
                                have i103 := i32 x97
                                refine ⟨fun c104 => ?_, fun c104 => ?_⟩
                                · skip
                                  have d105 : ((v2.toInt) : Int) ≤ (x97.toInt) := ci_le rfl rfl c104
                                  refine w_X12_shareOf ?_
                                  refine ⟨(fun z => by have z2 : (v4.toInt : Int) = 0 := cl_eq (tl_i2l rfl) rfl z; omega), ?_⟩
                                  refine sp_X12_lucks hB2 hR0 (by have z1 : (v2 : Int32).toInt = v2.toInt := rfl; omega) (by have z2 : (1 : Int32).toInt = 1 := rfl; omega) (fun x106 y111 I107 J108 hB109 p110 => ?_)
                                  subst p110
                                  refine sp_X12_sizeOf hB2 hR0 (fun x112 y117 I113 J114 hB115 p116 => ?_)
                                  obtain ⟨heI113, p116⟩ := p116
                                  subst heI113
                                  have i118 := i32 x112
                                  refine sp_X12_choices hB2 hR0 (by have z0 : (x112 : Int32).toInt = x112.toInt := rfl; have z1 : (v2 : Int32).toInt = v2.toInt := rfl; omega) (fun x119 y124 I120 J121 hB122 p123 => ?_)
                                  obtain ⟨heI120, p123⟩ := p123
                                  subst heI120
                                  refine sp_X12_fraction hB2 hR0 (fun z => by have z1 := p123; rw [z] at z1; exact absurd z1 (by decide)) (fun x125 y130 I126 J127 hB128 p129 => ?_)
                                  intro o131
                                  have i132 := i32 x125
                                  refine ⟨o131, ?_⟩
                                  exact hQ _ _ _ _ hB128 trivial
                                · skip
                                  have d133 : ((x97.toInt) : Int) < (v2.toInt) := ci_nle rfl rfl c104
                                  refine w_X12_no ?_
                                  have hB134 : Bd (uI (uI (uI I 97 1 0) 97 0 0) 97 0 8) := Bd.o0 hB2 (show isO 112 97 12 = true from rfl) (by omega) (show bnd 12 0 = none from rfl)
                                  refine ⟨Or.inl rfl, ?_⟩
                                  intro o135
                                  refine ⟨Or.inl rfl, ?_⟩
                                  exact hQ _ _ _ _ hB134 trivial
                              · exact absurd c96 (by decide)
set_option maxHeartbeats 2000000 in
theorem sp_X12_burnt {d : Nat} {Q : Qt} {v1 : Int32} {v2 : Int32} {I : Im} {J : Jm} {R : Rm} (hB0 : Bd I) (hR0 : RI R) (hQ : ∀ (x : Int32) (y : Int64) (I2 : Im) (J2 : Jm), Bd I2 → ((0 ≤ x.toInt ∧ x.toInt ≤ 1 ∧ (x.toInt = 1 → 0 ≤ v1.toInt ∧ v1.toInt ≤ 12 ∧ 0 ≤ v2.toInt ∧ v2.toInt ≤ 12) ∧ (0 ≤ v1.toInt ∧ v1.toInt ≤ 12 ∧ 0 ≤ v2.toInt ∧ v2.toInt ≤ 12 → x.toInt = 1))) → Q x y I2 J2 R) : AM (d + 2) 303 112 [.ref 97, .int v1, .int v2] I J R Q := by
  have i_v1 := i32 v1
  have i_v2 := i32 v2
  refine am_X12_burnt (fun P hc => ?_)
  have L : ∀ n : Nat, (∀ (v3 : Int64) (v5 : Int32) (M : Im) (JM : Jm), Bd M → (v3 = 1) → (0 ≤ v1.toInt ∧ v1.toInt ≤ 12 ∧ 0 ≤ v2.toInt ∧ v2.toInt ≤ 12 ∧ 0 ≤ v5.toInt ∧ v5.toInt ≤ 13) → 5000 - v5.toInt < (n : Int) → P 45 112 [(0, .ref 97), (1, .int v1), (2, .int v2), (3, .long v3), (5, .int v5)] [] M JM R) ∧ (∀ (v3 : Int64) (v5 : Int32) (M : Im) (JM : Jm), Bd M → (v3 = p16 v5.toInt.toNat) → (0 ≤ v1.toInt ∧ v1.toInt ≤ 12 ∧ 0 ≤ v2.toInt ∧ v2.toInt ≤ 12 ∧ 0 ≤ v5.toInt ∧ v5.toInt ≤ v1.toInt) → 4000 - 100 * v5.toInt < (n : Int) → P 78 112 [(0, .ref 97), (1, .int v1), (2, .int v2), (3, .long v3), (5, .int v5)] [] M JM R) ∧ (∀ (v3 : Int64) (v5 : Int32) (v6 : Int32) (M : Im) (JM : Jm), Bd M → (v3 = p16 v5.toInt.toNat) → (0 ≤ v1.toInt ∧ v1.toInt ≤ 12 ∧ 0 ≤ v2.toInt ∧ v2.toInt ≤ 12 ∧ 0 ≤ v5.toInt ∧ v5.toInt < v1.toInt ∧ -1 ≤ v6.toInt ∧ v6.toInt ≤ 12) → 4000 - 100 * v5.toInt - 50 + v6.toInt < (n : Int) → P 88 112 [(0, .ref 97), (1, .int v1), (2, .int v2), (3, .long v3), (5, .int v5), (6, .int v6)] [] M JM R) ∧ (∀ (v3 : Int64) (v5 : Int64) (v7 : Int32) (M : Im) (JM : Jm), Bd M → (¬ v3 = 0) → (0 ≤ v1.toInt ∧ v1.toInt ≤ 12 ∧ 0 ≤ v2.toInt ∧ v2.toInt ≤ 12 ∧ 0 ≤ v7.toInt ∧ v7.toInt ≤ 13) → 100 - v7.toInt < (n : Int) → P 169 112 [(0, .ref 97), (3, .long v3), (5, .long v5), (7, .int v7)] [] M JM R) := by
    intro n
    induction n with
    | zero =>
      exact ⟨fun v3 v5 M J _ _ hi hm => absurd hm (by omega), fun v3 v5 M J _ _ hi hm => absurd hm (by omega), fun v3 v5 v6 M J _ _ hi hm => absurd hm (by omega), fun v3 v5 v7 M J _ _ hi hm => absurd hm (by omega)⟩
    | succ n ih =>
      refine ⟨?_, ?_, ?_, ?_⟩
      · skip
        intro v3 v5 M JM hB hq_0 hi hm
        have i_v1 := i32 v1
        have i_v2 := i32 v2
        have i_v3 := i64 v3
        have i_v5 := i32 v5
        refine sg_X12_burnt_45 hc _ _ _ _ _ _ _ ?_
        refine ⟨fun c1 => ?_, fun c1 => ?_⟩
        · skip
          have d2 : ((12) : Int) < (v5.toInt) := ci_lt rfl rfl c1
          have hv3 : v3 = p16 (0 : Int32).toInt.toNat := (by rw [hq_0]; rfl)
          exact ih.2.1 _ _ _ _ hB hv3 (by have q0 : (0 : Int32).toInt = 0 := rfl; omega) (by have q0 : (0 : Int32).toInt = 0 := rfl; omega)
        · skip
          have d4 : ((v5.toInt) : Int) ≤ (12) := ci_nlt rfl rfl c1
          refine ⟨fun c5 => ?_, fun c5 => ?_⟩
          · skip
            have d6 : ¬ ((v5.toInt) : Int) = (0) := ci_ne rfl rfl c5
            refine ⟨vp_of (a := v5.toInt) rfl (by omega) (by omega), ?_⟩
            have e7 : ((v5 + 1) : Int32).toInt = (v5.toInt) + (1) := ti_add rfl rfl (by omega)
            have hv8 : v3 = 1 := hq_0
            exact ih.1 _ _ _ _ hB hv8 (by have q0 : ((v5 + 1) : Int32).toInt = (v5.toInt + 1) := e7; omega) (by have q0 : ((v5 + 1) : Int32).toInt = (v5.toInt + 1) := e7; omega)
          · skip
            have d9 : ((v5.toInt) : Int) = (0) := ci_eq rfl rfl c5
            refine ⟨vp_of (a := v5.toInt) rfl (by omega) (by omega), ?_⟩
            have e10 : ((v5 + 1) : Int32).toInt = (v5.toInt) + (1) := ti_add rfl rfl (by omega)
            have hv11 : v3 = 1 := hq_0
            exact ih.1 _ _ _ _ hB hv11 (by have q0 : ((v5 + 1) : Int32).toInt = (v5.toInt + 1) := e10; omega) (by have q0 : ((v5 + 1) : Int32).toInt = (v5.toInt + 1) := e10; omega)
      · skip
        intro v3 v5 M JM hB hq_0 hi hm
        have i_v1 := i32 v1
        have i_v2 := i32 v2
        have i_v3 := i64 v3
        have i_v5 := i32 v5
        refine sg_X12_burnt_78 hc _ _ _ _ _ _ _ ?_
        refine ⟨fun c12 => ?_, fun c12 => ?_⟩
        · skip
          have d13 : ((v1.toInt) : Int) ≤ (v5.toInt) := ci_le rfl rfl c12
          have hv14 : ¬ v3 = 0 := (by rw [hq_0]; exact p16_pos (by omega))
          exact ih.2.2.2 _ _ _ _ _ hB hv14 (by have q0 : (v2 : Int32).toInt = v2.toInt := rfl; omega) (by have q0 : (v2 : Int32).toInt = v2.toInt := rfl; omega)
        · skip
          have d15 : ((v5.toInt) : Int) < (v1.toInt) := ci_nle rfl rfl c12
          have hv16 : v3 = p16 v5.toInt.toNat := hq_0
          exact ih.2.2.1 _ _ _ _ _ hB hv16 (by have q0 : (v5 : Int32).toInt = v5.toInt := rfl; have q1 : (12 : Int32).toInt = 12 := rfl; omega) (by have q0 : (v5 : Int32).toInt = v5.toInt := rfl; have q1 : (12 : Int32).toInt = 12 := rfl; omega)
      · skip
        intro v3 v5 v6 M JM hB hq_0 hi hm
        have i_v1 := i32 v1
        have i_v2 := i32 v2
        have i_v3 := i64 v3
        have i_v5 := i32 v5
        have i_v6 := i32 v6
        refine sg_X12_burnt_88 hc _ _ _ _ _ _ _ _ ?_
        refine ⟨fun c17 => ?_, fun c17 => ?_⟩
        · skip
          have d18 : ((v6.toInt) : Int) < (0) := ci_lt rfl rfl c17
          have e19 : ((v5 + 1) : Int32).toInt = (v5.toInt) + (1) := ti_add rfl rfl (by omega)
          have hv20 : (v3 * 16) = p16 (v5 + 1).toInt.toNat := (p16_step hq_0 (by omega) (ti_add rfl rfl (by omega)))
          exact ih.2.1 _ _ _ _ hB hv20 (by have q0 : ((v5 + 1) : Int32).toInt = (v5.toInt + 1) := e19; omega) (by have q0 : ((v5 + 1) : Int32).toInt = (v5.toInt + 1) := e19; omega)
        · skip
          have d21 : ((0) : Int) ≤ (v6.toInt) := ci_nlt rfl rfl c17
          refine ⟨vp_of (a := v6.toInt) rfl (by omega) (by omega), ?_⟩
          refine ⟨vp_of (a := 1) rfl (by omega) (by omega), ?_⟩
          refine ⟨fun c22 => ?_, fun c22 => ?_⟩
          · skip
            have d23 : ((v6.toInt) : Int) ≤ (0) := ci_le rfl rfl c22
            refine ⟨vp_of (a := v6.toInt) rfl (by omega) (by omega), ?_⟩
            have e24 : ((v6 + (-1)) : Int32).toInt = (v6.toInt) + ((-1)) := ti_add rfl rfl (by omega)
            have hv25 : v3 = p16 v5.toInt.toNat := hq_0
            exact ih.2.2.1 _ _ _ _ _ hB hv25 (by have q0 : (v5 : Int32).toInt = v5.toInt := rfl; have q1 : ((v6 + (-1)) : Int32).toInt = (v6.toInt + (-1)) := e24; omega) (by have q0 : (v5 : Int32).toInt = v5.toInt := rfl; have q1 : ((v6 + (-1)) : Int32).toInt = (v6.toInt + (-1)) := e24; omega)
          · skip
            have d26 : ((0) : Int) < (v6.toInt) := ci_nle rfl rfl c22
            have e27 : ((v6 - 1) : Int32).toInt = (v6.toInt) - (1) := ti_sub rfl rfl (by omega)
            refine ⟨vp_of (a := (v6.toInt - 1)) e27 (by omega) (by omega), ?_⟩
            refine ⟨vp_of (a := 1) rfl (by omega) (by omega), ?_⟩
            refine ⟨vp_of (a := v6.toInt) rfl (by omega) (by omega), ?_⟩
            have e28 : ((v6 + (-1)) : Int32).toInt = (v6.toInt) + ((-1)) := ti_add rfl rfl (by omega)
            have hv29 : v3 = p16 v5.toInt.toNat := hq_0
            exact ih.2.2.1 _ _ _ _ _ hB hv29 (by have q0 : (v5 : Int32).toInt = v5.toInt := rfl; have q1 : ((v6 + (-1)) : Int32).toInt = (v6.toInt + (-1)) := e28; omega) (by have q0 : (v5 : Int32).toInt = v5.toInt := rfl; have q1 : ((v6 + (-1)) : Int32).toInt = (v6.toInt + (-1)) := e28; omega)
      · skip
        intro v3 v5 v7 M JM hB hq_0 hi hm
        have i_v3 := i64 v3
        have i_v5 := i64 v5
        have i_v7 := i32 v7
        refine sg_X12_burnt_169 hc _ _ _ _ _ _ ?_
        refine ⟨fun c30 => ?_, fun c30 => ?_⟩
        · skip
          have d31 : ((12) : Int) < (v7.toInt) := ci_lt rfl rfl c30
          refine sp_X12_fraction hB hR0 hq_0 (fun x32 y37 I33 J34 hB35 p36 => ?_)
          intro o38
          have i39 := i32 x32
          refine ⟨o38, ?_⟩
          exact hQ _ _ _ _ hB35 (by have q0 : (x32 : Int32).toInt = x32.toInt := rfl; omega)
        · skip
          have d40 : ((v7.toInt) : Int) ≤ (12) := ci_nlt rfl rfl c30
          refine ⟨vp_of (a := v7.toInt) rfl (by omega) (by omega), ?_⟩
          have e41 : ((v7 + 1) : Int32).toInt = (v7.toInt) + (1) := ti_add rfl rfl (by omega)
          have hv42 : ¬ v3 = 0 := hq_0
          exact ih.2.2.2 _ _ _ _ _ hB hv42 (by have q0 : ((v7 + 1) : Int32).toInt = (v7.toInt + 1) := e41; omega) (by have q0 : ((v7 + 1) : Int32).toInt = (v7.toInt + 1) := e41; omega)
  refine sg_X12_burnt_0 hc _ _ _ _ _ ?_
  have hB43 : Bd (uI I 97 1 0) := Bd.o0 hB0 (show isO 112 97 12 = true from rfl) (by omega) (show bnd 12 1 = none from rfl)
  have hB44 : Bd (uI (uI I 97 1 0) 97 0 0) := Bd.o0 hB43 (show isO 112 97 12 = true from rfl) (by omega) (show bnd 12 0 = none from rfl)
  refine w_X12_isIn ?_
  refine ⟨fun c45 => ?_, fun c45 => ?_⟩
  · skip
    rw [lg_cmp_lt] at c45
    have d46 : ((v1.toInt) : Int) < (0) := cl_lt (tl_i2l rfl) rfl c45
    refine ⟨Or.inl rfl, ?_⟩
    intro o47
    refine ⟨fun c48 => ?_, fun c48 => ?_⟩
    · skip
      refine w_X12_no ?_
      have hB49 : Bd (uI (uI (uI I 97 1 0) 97 0 0) 97 0 5) := Bd.o0 hB44 (show isO 112 97 12 = true from rfl) (by omega) (show bnd 12 0 = none from rfl)
      refine ⟨Or.inl rfl, ?_⟩
      intro o50
      refine ⟨Or.inl rfl, ?_⟩
      exact hQ _ _ _ _ hB49 (by have q0 : (0 : Int32).toInt = 0 := rfl; omega)
    · exact absurd c48 (by decide)
  · skip
    rw [lg_cmp_lt] at c45
    have d51 : ((0) : Int) ≤ (v1.toInt) := cl_nlt (tl_i2l rfl) rfl c45
    refine ⟨fun c52 => ?_, fun c52 => ?_⟩
    · skip
      rw [lg_cmp_gt] at c52
      have d53 : ((12) : Int) < (v1.toInt) := cl_lt rfl (tl_i2l rfl) c52
      refine ⟨Or.inl rfl, ?_⟩
      intro o54
      refine ⟨fun c55 => ?_, fun c55 => ?_⟩
      · skip
        refine w_X12_no ?_
        have hB56 : Bd (uI (uI (uI I 97 1 0) 97 0 0) 97 0 5) := Bd.o0 hB44 (show isO 112 97 12 = true from rfl) (by omega) (show bnd 12 0 = none from rfl)
        refine ⟨Or.inl rfl, ?_⟩
        intro o57
        refine ⟨Or.inl rfl, ?_⟩
        exact hQ _ _ _ _ hB56 (by have q0 : (0 : Int32).toInt = 0 := rfl; omega)
      · exact absurd c55 (by decide)
    · skip
      rw [lg_cmp_gt] at c52
      have d58 : ((v1.toInt) : Int) ≤ (12) := cl_nlt rfl (tl_i2l rfl) c52
      refine ⟨Or.inr rfl, ?_⟩
      intro o59
      refine ⟨fun c60 => ?_, fun c60 => ?_⟩
      · exact absurd c60 (by decide)
      · skip
        refine w_X12_isIn ?_
        refine ⟨fun c61 => ?_, fun c61 => ?_⟩
        · skip
          rw [lg_cmp_lt] at c61
          have d62 : ((v2.toInt) : Int) < (0) := cl_lt (tl_i2l rfl) rfl c61
          refine ⟨Or.inl rfl, ?_⟩
          intro o63
          refine ⟨fun c64 => ?_, fun c64 => ?_⟩
          · exact absurd c64 (by decide)
          · skip
            refine w_X12_no ?_
            have hB65 : Bd (uI (uI (uI I 97 1 0) 97 0 0) 97 0 5) := Bd.o0 hB44 (show isO 112 97 12 = true from rfl) (by omega) (show bnd 12 0 = none from rfl)
            refine ⟨Or.inl rfl, ?_⟩
            intro o66
            refine ⟨Or.inl rfl, ?_⟩
            exact hQ _ _ _ _ hB65 (by have q0 : (0 : Int32).toInt = 0 := rfl; omega)
        · skip
          rw [lg_cmp_lt] at c61
          have d67 : ((0) : Int) ≤ (v2.toInt) := cl_nlt (tl_i2l rfl) rfl c61
          refine ⟨fun c68 => ?_, fun c68 => ?_⟩
          · skip
            rw [lg_cmp_gt] at c68
            have d69 : ((12) : Int) < (v2.toInt) := cl_lt rfl (tl_i2l rfl) c68
            refine ⟨Or.inl rfl, ?_⟩
            intro o70
            refine ⟨fun c71 => ?_, fun c71 => ?_⟩
            · exact absurd c71 (by decide)
            · skip
              refine w_X12_no ?_
              have hB72 : Bd (uI (uI (uI I 97 1 0) 97 0 0) 97 0 5) := Bd.o0 hB44 (show isO 112 97 12 = true from rfl) (by omega) (show bnd 12 0 = none from rfl)
              refine ⟨Or.inl rfl, ?_⟩
              intro o73
              refine ⟨Or.inl rfl, ?_⟩
              exact hQ _ _ _ _ hB72 (by have q0 : (0 : Int32).toInt = 0 := rfl; omega)
          · skip
            rw [lg_cmp_gt] at c68
            have d74 : ((v2.toInt) : Int) ≤ (12) := cl_nlt rfl (tl_i2l rfl) c68
            refine ⟨Or.inr rfl, ?_⟩
            intro o75
            refine ⟨fun c76 => ?_, fun c76 => ?_⟩
            · skip
              have hv77 : (1 : Int64) = 1 := rfl
              exact (L 1000000).1 _ _ _ _ hB44 hv77 (by have q0 : (0 : Int32).toInt = 0 := rfl; omega) (by have q0 : (0 : Int32).toInt = 0 := rfl; omega)
            · exact absurd c76 (by decide)
set_option maxHeartbeats 2000000 in
theorem sp_X12_oddsThat {d : Nat} {Q : Qt} {v1 : Int32} {v2 : Int32} {v3 : Int32} {v4 : Int32} {I : Im} {J : Jm} {R : Rm} (hB0 : Bd I) (hR0 : RI R) (hQ : ∀ (x : Int32) (y : Int64) (I2 : Im) (J2 : Jm), Bd I2 → (True) → Q x y I2 J2 R) : AM (d + 11) 278 112 [.ref 97, .int v1, .int v2, .int v3, .int v4] I J R Q := by
  have i_v1 := i32 v1
  have i_v2 := i32 v2
  have i_v3 := i32 v3
  have i_v4 := i32 v4
  refine am_X12_oddsThat (fun P hc => ?_)
  refine sg_X12_oddsThat_0 hc _ _ _ _ _ _ _ ?_
  have hB1 : Bd (uI I 97 1 0) := Bd.o0 hB0 (show isO 112 97 12 = true from rfl) (by omega) (show bnd 12 1 = none from rfl)
  have hB2 : Bd (uI (uI I 97 1 0) 97 0 0) := Bd.o0 hB1 (show isO 112 97 12 = true from rfl) (by omega) (show bnd 12 0 = none from rfl)
  refine w_X12_isSlice ?_
  refine w_X12_isIn ?_
  refine ⟨fun c3 => ?_, fun c3 => ?_⟩
  · skip
    rw [lg_cmp_lt] at c3
    have d4 : ((v4.toInt) : Int) < (1) := cl_lt (tl_i2l rfl) rfl c3
    refine ⟨Or.inl rfl, ?_⟩
    intro o5
    refine ⟨Or.inl rfl, ?_⟩
    intro o6
    refine ⟨fun c7 => ?_, fun c7 => ?_⟩
    · exact absurd c7 (by decide)
    · skip
      refine w_X12_no ?_
      have hB8 : Bd (uI (uI (uI I 97 1 0) 97 0 0) 97 0 2) := Bd.o0 hB2 (show isO 112 97 12 = true from rfl) (by omega) (show bnd 12 0 = none from rfl)
      refine ⟨Or.inl rfl, ?_⟩
      intro o9
      refine ⟨Or.inl rfl, ?_⟩
      exact hQ _ _ _ _ hB8 trivial
  · skip
    rw [lg_cmp_lt] at c3
    have d10 : ((1) : Int) ≤ (v4.toInt) := cl_nlt (tl_i2l rfl) rfl c3
    refine ⟨fun c11 => ?_, fun c11 => ?_⟩
    · skip
      rw [lg_cmp_gt] at c11
      have d12 : ((30) : Int) < (v4.toInt) := cl_lt rfl (tl_i2l rfl) c11
      refine ⟨Or.inl rfl, ?_⟩
      intro o13
      refine ⟨Or.inl rfl, ?_⟩
      intro o14
      refine ⟨fun c15 => ?_, fun c15 => ?_⟩
      · exact absurd c15 (by decide)
      · skip
        refine w_X12_no ?_
        have hB16 : Bd (uI (uI (uI I 97 1 0) 97 0 0) 97 0 2) := Bd.o0 hB2 (show isO 112 97 12 = true from rfl) (by omega) (show bnd 12 0 = none from rfl)
        refine ⟨Or.inl rfl, ?_⟩
        intro o17
        refine ⟨Or.inl rfl, ?_⟩
        exact hQ _ _ _ _ hB16 trivial
    · skip
      rw [lg_cmp_gt] at c11
      have d18 : ((v4.toInt) : Int) ≤ (30) := cl_nlt rfl (tl_i2l rfl) c11
      refine ⟨Or.inr rfl, ?_⟩
      intro o19
      refine ⟨Or.inr rfl, ?_⟩
      intro o20
      refine ⟨fun c21 => ?_, fun c21 => ?_⟩
      · skip
        refine w_X12_isShare ?_
        refine w_X12_isIn ?_
        refine ⟨fun c22 => ?_, fun c22 => ?_⟩
        · skip
          rw [lg_cmp_lt] at c22
          have d23 : ((v1.toInt) : Int) < (1) := cl_lt (tl_i2l rfl) rfl c22
          refine ⟨Or.inl rfl, ?_⟩
          intro o24
          refine ⟨fun c25 => ?_, fun c25 => ?_⟩
          · skip
            refine ⟨Or.inl rfl, ?_⟩
            intro o26
            refine ⟨fun c27 => ?_, fun c27 => ?_⟩
            · skip
              refine w_X12_no ?_
              have hB28 : Bd (uI (uI (uI I 97 1 0) 97 0 0) 97 0 5) := Bd.o0 hB2 (show isO 112 97 12 = true from rfl) (by omega) (show bnd 12 0 = none from rfl)
              refine ⟨Or.inl rfl, ?_⟩
              intro o29
              refine ⟨Or.inl rfl, ?_⟩
              exact hQ _ _ _ _ hB28 trivial
            · exact absurd c27 (by decide)
          · exact absurd c25 (by decide)
        · skip
          rw [lg_cmp_lt] at c22
          have d30 : ((1) : Int) ≤ (v1.toInt) := cl_nlt (tl_i2l rfl) rfl c22
          refine ⟨fun c31 => ?_, fun c31 => ?_⟩
          · skip
            rw [lg_cmp_gt] at c31
            have d32 : ((99) : Int) < (v1.toInt) := cl_lt rfl (tl_i2l rfl) c31
            refine ⟨Or.inl rfl, ?_⟩
            intro o33
            refine ⟨fun c34 => ?_, fun c34 => ?_⟩
            · skip
              refine ⟨Or.inl rfl, ?_⟩
              intro o35
              refine ⟨fun c36 => ?_, fun c36 => ?_⟩
              · skip
                refine w_X12_no ?_
                have hB37 : Bd (uI (uI (uI I 97 1 0) 97 0 0) 97 0 5) := Bd.o0 hB2 (show isO 112 97 12 = true from rfl) (by omega) (show bnd 12 0 = none from rfl)
                refine ⟨Or.inl rfl, ?_⟩
                intro o38
                refine ⟨Or.inl rfl, ?_⟩
                exact hQ _ _ _ _ hB37 trivial
              · exact absurd c36 (by decide)
            · exact absurd c34 (by decide)
          · skip
            rw [lg_cmp_gt] at c31
            have d39 : ((v1.toInt) : Int) ≤ (99) := cl_nlt rfl (tl_i2l rfl) c31
            refine ⟨Or.inr rfl, ?_⟩
            intro o40
            refine ⟨fun c41 => ?_, fun c41 => ?_⟩
            · exact absurd c41 (by decide)
            · skip
              refine w_X12_isIn ?_
              refine ⟨fun c42 => ?_, fun c42 => ?_⟩
              · skip
                rw [lg_cmp_lt] at c42
                have d43 : ((v2.toInt) : Int) < (1) := cl_lt (tl_i2l rfl) rfl c42
                refine ⟨Or.inl rfl, ?_⟩
                intro o44
                refine ⟨fun c45 => ?_, fun c45 => ?_⟩
                · skip
                  refine ⟨Or.inl rfl, ?_⟩
                  intro o46
                  refine ⟨fun c47 => ?_, fun c47 => ?_⟩
                  · skip
                    refine w_X12_no ?_
                    have hB48 : Bd (uI (uI (uI I 97 1 0) 97 0 0) 97 0 5) := Bd.o0 hB2 (show isO 112 97 12 = true from rfl) (by omega) (show bnd 12 0 = none from rfl)
                    refine ⟨Or.inl rfl, ?_⟩
                    intro o49
                    refine ⟨Or.inl rfl, ?_⟩
                    exact hQ _ _ _ _ hB48 trivial
                  · exact absurd c47 (by decide)
                · exact absurd c45 (by decide)
              · skip
                rw [lg_cmp_lt] at c42
                have d50 : ((1) : Int) ≤ (v2.toInt) := cl_nlt (tl_i2l rfl) rfl c42
                refine ⟨fun c51 => ?_, fun c51 => ?_⟩
                · skip
                  rw [lg_cmp_gt] at c51
                  have d52 : ((30) : Int) < (v2.toInt) := cl_lt rfl (tl_i2l rfl) c51
                  refine ⟨Or.inl rfl, ?_⟩
                  intro o53
                  refine ⟨fun c54 => ?_, fun c54 => ?_⟩
                  · skip
                    refine ⟨Or.inl rfl, ?_⟩
                    intro o55
                    refine ⟨fun c56 => ?_, fun c56 => ?_⟩
                    · skip
                      refine w_X12_no ?_
                      have hB57 : Bd (uI (uI (uI I 97 1 0) 97 0 0) 97 0 5) := Bd.o0 hB2 (show isO 112 97 12 = true from rfl) (by omega) (show bnd 12 0 = none from rfl)
                      refine ⟨Or.inl rfl, ?_⟩
                      intro o58
                      refine ⟨Or.inl rfl, ?_⟩
                      exact hQ _ _ _ _ hB57 trivial
                    · exact absurd c56 (by decide)
                  · exact absurd c54 (by decide)
                · skip
                  rw [lg_cmp_gt] at c51
                  have d59 : ((v2.toInt) : Int) ≤ (30) := cl_nlt rfl (tl_i2l rfl) c51
                  refine ⟨Or.inr rfl, ?_⟩
                  intro o60
                  refine ⟨fun c61 => ?_, fun c61 => ?_⟩
                  · exact absurd c61 (by decide)
                  · skip
                    refine ⟨Or.inr rfl, ?_⟩
                    intro o62
                    refine ⟨fun c63 => ?_, fun c63 => ?_⟩
                    · exact absurd c63 (by decide)
                    · skip
                      refine w_X12_isIn ?_
                      refine ⟨fun c64 => ?_, fun c64 => ?_⟩
                      · skip
                        rw [lg_cmp_lt] at c64
                        have d65 : ((v3.toInt) : Int) < (1) := cl_lt (tl_i2l rfl) rfl c64
                        refine ⟨Or.inl rfl, ?_⟩
                        intro o66
                        refine ⟨fun c67 => ?_, fun c67 => ?_⟩
                        · exact absurd c67 (by decide)
                        · skip
                          refine w_X12_no ?_
                          have hB68 : Bd (uI (uI (uI I 97 1 0) 97 0 0) 97 0 5) := Bd.o0 hB2 (show isO 112 97 12 = true from rfl) (by omega) (show bnd 12 0 = none from rfl)
                          refine ⟨Or.inl rfl, ?_⟩
                          intro o69
                          refine ⟨Or.inl rfl, ?_⟩
                          exact hQ _ _ _ _ hB68 trivial
                      · skip
                        rw [lg_cmp_lt] at c64
                        have d70 : ((1) : Int) ≤ (v3.toInt) := cl_nlt (tl_i2l rfl) rfl c64
                        refine ⟨fun c71 => ?_, fun c71 => ?_⟩
                        · skip
                          rw [lg_cmp_gt] at c71
                          have d72 : ((5) : Int) < (v3.toInt) := cl_lt rfl (tl_i2l rfl) c71
                          refine ⟨Or.inl rfl, ?_⟩
                          intro o73
                          refine ⟨fun c74 => ?_, fun c74 => ?_⟩
                          · exact absurd c74 (by decide)
                          · skip
                            refine w_X12_no ?_
                            have hB75 : Bd (uI (uI (uI I 97 1 0) 97 0 0) 97 0 5) := Bd.o0 hB2 (show isO 112 97 12 = true from rfl) (by omega) (show bnd 12 0 = none from rfl)
                            refine ⟨Or.inl rfl, ?_⟩
                            intro o76
                            refine ⟨Or.inl rfl, ?_⟩
                            exact hQ _ _ _ _ hB75 trivial
                        · skip
                          rw [lg_cmp_gt] at c71
                          have d77 : ((v3.toInt) : Int) ≤ (5) := cl_nlt rfl (tl_i2l rfl) c71
                          refine ⟨Or.inr rfl, ?_⟩
                          intro o78
                          refine ⟨fun c79 => ?_, fun c79 => ?_⟩
                          · skip
                            refine w_X12_shareOf ?_
                            refine ⟨(fun z => by have z2 : (v2.toInt : Int) = 0 := cl_eq (tl_i2l rfl) rfl z; omega), ?_⟩
                            refine ⟨vp_of (a := 3) rfl (by omega) (by omega), ?_⟩
                            refine sp_X12_laysRows hB2 hR0 (by have z1 : (v3 : Int32).toInt = v3.toInt := rfl; omega) (by have z2 : (31 : Int32).toInt = 31 := rfl; omega) (fun x80 y85 I81 J82 hB83 p84 => ?_)
                            intro o86
                            have q87 : (31 : Int32).toInt = 31 := rfl
                            have i88 := i32 x80
                            refine ⟨fun c89 => ?_, fun c89 => ?_⟩
                            · skip
                              have d90 : ((x80.toInt) : Int) = (0) := ci_eq rfl rfl c89
                              refine w_X12_no ?_
                              have hB91 : Bd (uI I81 97 0 8) := Bd.o0 hB83 (show isO 112 97 12 = true from rfl) (by omega) (show bnd 12 0 = none from rfl)
                              refine ⟨Or.inl rfl, ?_⟩
                              intro o92
                              refine ⟨Or.inl rfl, ?_⟩
                              exact hQ _ _ _ _ hB91 trivial
                            · skip
                              have d93 : ¬ ((x80.toInt) : Int) = (0) := ci_ne rfl rfl c89
                              refine ⟨vp_of (a := v4.toInt) rfl (by omega) (by omega), ?_⟩
                              have i94 := i32 ((I81 97 31))
                              refine sp_X12_fraction hB83 hR0 (fun z => by have z1 : ((Int32.toInt64 (I81 97 31)) : Int64).toInt = (I81 97 31).toInt := (tl_i2l rfl); have z2 : ((Int32.toInt64 (I81 97 31)) : Int64).toInt = 0 := congrArg Int64.toInt z; omega) (fun x95 y100 I96 J97 hB98 p99 => ?_)
                              intro o101
                              have i102 := i32 x95
                              refine ⟨o101, ?_⟩
                              exact hQ _ _ _ _ hB98 trivial
                          · exact absurd c79 (by decide)
      · exact absurd c21 (by decide)
