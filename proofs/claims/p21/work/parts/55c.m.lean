noncomputable def AllS (m : Nat) : Prop := ∀ {d : Nat} {Q : Qt} {v1 v2 : Int32} {I : Im} {J : Jm} {R : Rm} (hB0 : Bd I) (hR0 : RI R) (hv1 : 0 ≤ v1.toInt) (hv2 : v2.toInt ≤ (I 102 53).toInt) (h52 : ¬ (I 102 52).toInt = 0) (hm0 : 301 - (I 97 43).toInt ≤ (m : Int)) (hQ : ∀ (x : Int32) (y : Int64) (I2 : Im) (J2 : Jm), Bd I2 → (Fr pD I I2 ∧ ((I 97 43).toInt ≤ (I2 97 43).toInt)) → Q x y I2 J2 R), AM (d + 2 * m + 7) 311 112 [.ref 97, .int v1, .int v2] I J R Q
noncomputable def BEq (I : Im) (k : Int) : Prop := ∀ j : Nat, (j : Int) < k → I 103 j = I 102 j
theorem BEq.zero {I : Im} {k : Int} (h : k ≤ 0) : BEq I k := fun j hj => absurd hj (by omega)
theorem BEq.keep {I : Im} {v : Int32} {k : Int} (h : BEq I v.toInt) (h0 : 0 ≤ v.toInt) (hk : k = v.toInt + 1) : BEq (uI I 103 (Int32.toNatClampNeg v) (I 102 (Int32.toNatClampNeg v))) k := by
  have t := tn_of (x := v) rfl h0
  intro j hj
  refine Eq.trans ?_ (rd_ne (show ¬ (102 : Nat) = 103 by decide)).symm
  by_cases q : j = Int32.toNatClampNeg v
  · subst q; exact rd_eq
  · exact (rd_k q).trans (h j (by omega))
noncomputable def BD (I : Im) : Prop := I 103 0 = I 102 0 ∧ (∀ j : Nat, 40 ≤ j → j ≤ 45 → I 103 j = I 102 j) ∧ 0 ≤ (I 103 3).toInt ∧ I 103 3 = I 102 3
theorem BD.of {M I : Im} (h : BEq M 52) (fr : Fr pD M I) (hB : Bd M) : BD I := by
  refine ⟨?_, fun j h1 h2 => ?_, ?_, ?_⟩
  · rw [fr.2, fr.1 0 (Or.inl rfl)]; exact h 0 (by decide)
  · rw [fr.2, fr.1 j (Or.inr (Or.inl ⟨h1, h2⟩))]; exact h j (by omega)
  · rw [fr.2, h 3 (by decide)]; exact hB.known0
  · rw [fr.2, fr.1 3 (Or.inr (Or.inr (Or.inr rfl)))]; exact h 3 (by decide)
theorem BD.w {M : Im} {v : Int32} (h : BD M) (h0 : 0 ≤ v.toInt) : BD (uI M 102 (Int32.toNatClampNeg v) (M 103 (Int32.toNatClampNeg v))) := by
  have g : ∀ j : Nat, M 103 j = M 102 j → uI M 102 (Int32.toNatClampNeg v) (M 103 (Int32.toNatClampNeg v)) 103 j = uI M 102 (Int32.toNatClampNeg v) (M 103 (Int32.toNatClampNeg v)) 102 j := fun j hj => by
    rw [rd_ne (by decide)]
    by_cases q : j = Int32.toNatClampNeg v
    · subst q; rw [rd_eq]
    · rw [rd_k q]; exact hj
  exact ⟨g 0 h.1, fun j h1 h2 => g j (h.2.1 j h1 h2), by rw [rd_ne (by decide)]; exact h.2.2.1, g 3 h.2.2.2⟩
/-- the mean leaves the men and what is known -/
noncomputable def FK (I0 I : Im) : Prop := I 102 0 = I0 102 0 ∧ I 102 3 = I0 102 3 ∧ ∀ j, 52 ≤ j → I 102 j = I0 102 j
theorem FK.rf {I : Im} : FK I I := ⟨rfl, rfl, fun _ _ => rfl⟩
theorem FK.u {I0 I : Im} {o k : Nat} {v : Int32} (h : FK I0 I) (ho : ¬ (102 : Nat) = o) : FK I0 (uI I o k v) := by
  have e : uI I o k v 102 = I 102 := uI_ne ho
  unfold FK at h ⊢
  rw [e]; exact h
theorem FK.fr {I0 M I : Im} (h : FK I0 M) (f : Fr pD M I) : FK I0 I := ⟨(f.1 0 (Or.inl rfl)).trans h.1, (f.1 3 (Or.inr (Or.inr (Or.inr rfl)))).trans h.2.1, fun j hj => (f.1 j (Or.inr (Or.inr (Or.inl hj)))).trans (h.2.2 j hj)⟩
theorem FK.w {I0 M : Im} {v : Int32} (h : FK I0 M) (hd : BD M) (h0 : 0 ≤ v.toInt) (h1 : v.toInt < 52) : FK I0 (uI M 102 (Int32.toNatClampNeg v) (M 103 (Int32.toNatClampNeg v))) := by
  have t := tn_of (x := v) rfl h0
  have g : ∀ j : Nat, M 103 j = M 102 j → uI M 102 (Int32.toNatClampNeg v) (M 103 (Int32.toNatClampNeg v)) 102 j = M 102 j := fun j hj => by
    by_cases q : j = Int32.toNatClampNeg v
    · subst q; rw [rd_eq]; exact hj
    · rw [rd_k q]
  exact ⟨(g 0 hd.1).trans h.1, (g 3 hd.2.2.2).trans h.2.1, fun j hj => (rd_k (by omega)).trans (h.2.2 j hj)⟩
theorem FK.kc {I I2 : Im} (h : FK I I2) : KC I I2 := fun j hj => by
  unfold pK at hj
  rcases hj with rfl | rfl | rfl | rfl | rfl | rfl | rfl | rfl
  · exact h.1
  · exact h.2.1
  all_goals exact h.2.2 _ (by decide)
theorem BEq.w {M : Im} {v : Int32} {k : Int} (h : BEq M v.toInt) (h0 : 0 ≤ v.toInt) (hk : k = v.toInt + 1) : BEq (uI M 102 (Int32.toNatClampNeg v) (M 103 (Int32.toNatClampNeg v))) k := by
  have t := tn_of (x := v) rfl h0
  intro j hj
  rw [rd_ne (by decide)]
  by_cases q : j = Int32.toNatClampNeg v
  · subst q; rw [rd_eq]
  · rw [rd_k q]; exact h j (by omega)
theorem Bd.rest {M : Im} {v : Int32} (hB : Bd M) (h : BD M) (h0 : 0 ≤ v.toInt ∧ v.toInt < 52) : Bd (uI M 102 (Int32.toNatClampNeg v) (M 103 (Int32.toNatClampNeg v))) := by
  have t := tn_of (x := v) rfl h0.1
  have same : M 103 (Int32.toNatClampNeg v) = M 102 (Int32.toNatClampNeg v) → Bd (uI M 102 (Int32.toNatClampNeg v) (M 103 (Int32.toNatClampNeg v))) := fun e => by
    have : uI M 102 (Int32.toNatClampNeg v) (M 102 (Int32.toNatClampNeg v)) = M := by
      funext o j
      by_cases q : o = 102
      · subst q
        by_cases r : j = Int32.toNatClampNeg v
        · subst r; exact rd_eq
        · exact rd_k r
      · exact rd_ne q
    rw [e, this]; exact hB
  by_cases q0 : v.toInt = 0
  · exact same (by rw [show Int32.toNatClampNeg v = 0 by omega]; exact h.1)
  · by_cases q1 : 40 ≤ v.toInt ∧ v.toInt ≤ 45
    · exact same (h.2.1 _ (by omega) (by omega))
    · by_cases q3 : v.toInt = 3
      · exact Bd.cknown hB rfl rfl (by omega) (by omega) (by rw [show Int32.toNatClampNeg v = 3 by omega]; exact h.2.2.1)
      · exact Bd.cfree hB rfl (by omega) (by omega) (by omega) (by omega)
theorem loafs {v : Int32} (h : 1 ≤ v.toInt ∧ v.toInt ≤ 20) : ¬ (Int32.toInt64 v * 2329089562800 : Int64) = 0 := fun z => by
  have h1 : (Int32.toInt64 v * 2329089562800 : Int64).toInt = v.toInt * 2329089562800 := by
    rw [Int64.toInt_mul, tl_i2l (x := v) rfl, show (2329089562800 : Int64).toInt = 2329089562800 from rfl]; exact tl_bmod (by omega) (by omega)
  rw [z] at h1
  have h2 : (0 : Int64).toInt = 0 := rfl
  omega
set_option maxHeartbeats 2000000 in
theorem sp_X12_doOne_s {m : Nat} (ihA : AllS m) {d : Nat} {Q : Qt} {v1 : Int32} {I : Im} {J : Jm} {R : Rm} (hB0 : Bd I) (hR0 : RI R) (hv1 : 0 ≤ v1.toInt ∧ v1.toInt < (I 102 53).toInt) (h52 : ¬ (I 102 52).toInt = 0) (hm0 : 301 - (I 97 43).toInt ≤ (m : Int) + 1) (hQ : ∀ (x : Int32) (y : Int64) (I2 : Im) (J2 : Jm), Bd I2 → (Fr pD I I2 ∧ ((I 97 43).toInt ≤ (I2 97 43).toInt)) → Q x y I2 J2 R) : AM (d + 2 * m + 8) 310 112 [.ref 97, .int v1] I J R Q := by
  have i_v1 := i32 v1
  refine am_X12_doOne (fun P hc => ?_)
  have L : ∀ n : Nat, (∀ (v2 : Int32) (v3 : Int32) (M : Im) (JM : Jm), Bd M → Fr pD I M → (0 ≤ v1.toInt ∧ v1.toInt < (M 102 53).toInt ∧ ¬ (M 102 52).toInt = 0 ∧ v2.toInt = 54 + 9 * v1.toInt ∧ (I 97 43).toInt + 1 ≤ (M 97 43).toInt) → 1000 < (n : Int) → P 110 112 [(0, .ref 97), (1, .int v1), (2, .int v2), (3, .int v3)] [] M JM R) ∧ (∀ (v2 : Int32) (v4 : Int32) (M : Im) (JM : Jm), Bd M → Fr pD I M → (0 ≤ v1.toInt ∧ v1.toInt < (M 102 53).toInt ∧ ¬ (M 102 52).toInt = 0 ∧ v2.toInt = 54 + 9 * v1.toInt ∧ (I 97 43).toInt + 1 ≤ (M 97 43).toInt ∧ 0 ≤ v4.toInt ∧ v4.toInt ≤ 99) → 200 - v4.toInt < (n : Int) → P 119 112 [(0, .ref 97), (1, .int v1), (2, .int v2), (4, .int v4)] [] M JM R) := by
    intro n
    induction n with
    | zero =>
      exact ⟨fun v2 v3 M J _ _ hi hm => absurd hm (by omega), fun v2 v4 M J _ _ hi hm => absurd hm (by omega)⟩
    | succ n ih =>
      refine ⟨?_, ?_⟩
      · skip
        intro v2 v3 M JM hB hf hi hm
        have i_v1 := i32 v1
        have i_v2 := i32 v2
        have i_v3 := i32 v3
        refine sg_X12_doOne_110 hc _ _ _ _ _ _ ?_
        have e1 : ((M 102 52) : Int32).toInt = (I 102 52).toInt := Eq.trans (congrArg Int32.toInt (hf.1 52 (by unfold pD; omega))) rfl
        have b2 := (Bd.c hB0 (j := 53) (z := 53) rfl).2.2.1 (by decide)
        have e3 : ((M 102 53) : Int32).toInt = (I 102 53).toInt := Eq.trans (congrArg Int32.toInt (hf.1 53 (by unfold pD; omega))) rfl
        have b4 := Bd.o hB (show isO 112 97 12 = true from rfl) (show bnd 12 43 = some _ from rfl)
        refine ⟨fun c5 => ?_, fun c5 => ?_⟩
        · skip
          have d6 : ¬ ((v3.toInt) : Int) = (7) := ci_ne rfl rfl c5
          refine ⟨fun c7 => ?_, fun c7 => ?_⟩
          · skip
            have d8 : ((v3.toInt) : Int) ≤ (7) := ci_le rfl rfl c7
            have b9 := Bd.o hB0 (show isO 112 97 12 = true from rfl) (show bnd 12 43 = some _ from rfl)
            exact hQ _ _ _ _ hB ⟨hf, (by have q2 : ((M 97 43) : Int32).toInt = (M 97 43).toInt := rfl; omega)⟩
          · skip
            have d10 : ((7) : Int) < (v3.toInt) := ci_nle rfl rfl c7
            refine ⟨Or.inr rfl, ?_⟩
            have hB11 : Bd (uI M 97 41 1) := Bd.o1 hB (show isO 112 97 12 = true from rfl) (by omega) (show bnd 12 41 = some _ from rfl) rfl (bl_ti (Or.inr rfl))
            have f12 : Fr pD I (uI M 97 41 1) := Fr.o hf (by decide) (by decide)
            have b13 := Bd.o hB0 (show isO 112 97 12 = true from rfl) (show bnd 12 43 = some _ from rfl)
            have e14 : (((uI M 97 41 1) 97 43) : Int32).toInt = (M 97 43).toInt := Eq.trans (congrArg Int32.toInt (rd_k (by decide))) rfl
            exact hQ _ _ _ _ hB11 ⟨f12, (by have q2 : (((uI M 97 41 1) 97 43) : Int32).toInt = (M 97 43).toInt := e14; omega)⟩
        · skip
          have d15 : ((v3.toInt) : Int) = (7) := ci_eq rfl rfl c5
          exact ih.2 _ _ _ _ hB hf (by have q0 : (v2 : Int32).toInt = v2.toInt := rfl; have q1 : (0 : Int32).toInt = 0 := rfl; have q2 : ((M 102 53) : Int32).toInt = (I 102 53).toInt := e3; have q3 : ((M 102 52) : Int32).toInt = (I 102 52).toInt := e1; have q4 : ((M 97 43) : Int32).toInt = (M 97 43).toInt := rfl; omega) (by have q0 : (0 : Int32).toInt = 0 := rfl; omega)
      · skip
        intro v2 v4 M JM hB hf hi hm
        have i_v1 := i32 v1
        have i_v2 := i32 v2
        have i_v4 := i32 v4
        refine sg_X12_doOne_119 hc _ _ _ _ _ _ ?_
        have e16 : ((M 102 52) : Int32).toInt = (I 102 52).toInt := Eq.trans (congrArg Int32.toInt (hf.1 52 (by unfold pD; omega))) rfl
        have b17 := (Bd.c hB0 (j := 53) (z := 53) rfl).2.2.1 (by decide)
        have e18 : ((M 102 53) : Int32).toInt = (I 102 53).toInt := Eq.trans (congrArg Int32.toInt (hf.1 53 (by unfold pD; omega))) rfl
        have b19 := Bd.o hB (show isO 112 97 12 = true from rfl) (show bnd 12 43 = some _ from rfl)
        have w20 : ((M 102 52) : Int32).toInt = (I 102 52).toInt := e16
        have w21 : ((M 102 53) : Int32).toInt = (I 102 53).toInt := e18
        have hr := Bd.rec hB (s := v1) (w := v2) (by omega) (by omega) (show (v2 : Int32).toInt = 54 + 9 * v1.toInt by have z : (v2 : Int32).toInt = v2.toInt := rfl; omega)
        have h99 := (Bd.c hB (j := Int32.toNatClampNeg (v2 + 1)) (z := v2.toInt + 1) (tn_of (ti_add rfl (show (1 : Int32).toInt = 1 from rfl) (by omega)) (by omega))).2.2.2.2.2 (by omega) (by omega) (by omega)
        have e22 : ((v2 + 1) : Int32).toInt = (v2.toInt) + (1) := ti_add rfl rfl (by omega)
        refine ⟨vp_of (a := (v2.toInt + 1)) e22 (by omega) (by omega), ?_⟩
        refine ⟨fun c23 => ?_, fun c23 => ?_⟩
        · skip
          have d24 : (((M 102 (Int32.toNatClampNeg (v2 + 1))).toInt) : Int) ≤ (v4.toInt) := ci_le rfl rfl c23
          have b25 := Bd.o hB0 (show isO 112 97 12 = true from rfl) (show bnd 12 43 = some _ from rfl)
          exact hQ _ _ _ _ hB ⟨hf, (by have q2 : ((M 97 43) : Int32).toInt = (M 97 43).toInt := rfl; omega)⟩
        · skip
          have d26 : ((v4.toInt) : Int) < ((M 102 (Int32.toNatClampNeg (v2 + 1))).toInt) := ci_nle rfl rfl c23
          refine ⟨fun c27 => ?_, fun c27 => ?_⟩
          · skip
            have b28 := Bd.o hB (show isO 112 97 12 = true from rfl) (show bnd 12 41 = some _ from rfl)
            have d29 : ¬ (((M 97 41).toInt) : Int) = (0) := ci_ne rfl rfl c27
            have b30 := Bd.o hB0 (show isO 112 97 12 = true from rfl) (show bnd 12 43 = some _ from rfl)
            exact hQ _ _ _ _ hB ⟨hf, (by have q2 : ((M 97 43) : Int32).toInt = (M 97 43).toInt := rfl; omega)⟩
          · skip
            have b31 := Bd.o hB (show isO 112 97 12 = true from rfl) (show bnd 12 41 = some _ from rfl)
            have d32 : (((M 97 41).toInt) : Int) = (0) := ci_eq rfl rfl c27
            have e33 : ((v2 + 8) : Int32).toInt = (v2.toInt) + (8) := ti_add rfl rfl (by omega)
            refine ⟨vp_of (a := (v2.toInt + 8)) e33 (by omega) (by omega), ?_⟩
            have e34 : ((v1 + 1) : Int32).toInt = (v1.toInt) + (1) := ti_add rfl rfl (by omega)
            refine ihA hB hR0 (by have z1 : ((v1 + 1) : Int32).toInt = (v1.toInt + 1) := e34; have y52 : ((M 102 52)).toInt = (I 102 52).toInt := e16; have y53 : ((M 102 53)).toInt = (I 102 53).toInt := e18; omega) (by have z2 : ((M 102 (Int32.toNatClampNeg (v2 + 8))) : Int32).toInt = (M 102 (Int32.toNatClampNeg (v2 + 8))).toInt := rfl; have y52 : ((M 102 52)).toInt = (I 102 52).toInt := e16; have y53 : ((M 102 53)).toInt = (I 102 53).toInt := e18; omega) (by have y52 : ((M 102 52)).toInt = (I 102 52).toInt := e16; have y53 : ((M 102 53)).toInt = (I 102 53).toInt := e18; omega) (by have z : ((M 97 43)).toInt = (M 97 43).toInt := rfl; omega) (fun x35 y40 I36 J37 hB38 p39 => ?_)
            have f41 : Fr pD M I36 := p39.1
            have f42 : Fr pD I I36 := Fr.tr hf f41 (fun _ z => z)
            have q43 : ((v1 + 1) : Int32).toInt = (v1.toInt + 1) := e34
            have b44 := Bd.o hB38 (show isO 112 97 12 = true from rfl) (show bnd 12 43 = some _ from rfl)
            have e45 : ((v4 + 1) : Int32).toInt = (v4.toInt) + (1) := ti_add rfl rfl (by omega)
            have e46 : ((I36 102 53) : Int32).toInt = (I 102 53).toInt := Eq.trans (congrArg Int32.toInt (Eq.trans (f41.1 53 (by unfold pD; omega)) (hf.1 53 (by unfold pD; omega)))) rfl
            have e47 : ((I36 102 52) : Int32).toInt = (I 102 52).toInt := Eq.trans (congrArg Int32.toInt (Eq.trans (f41.1 52 (by unfold pD; omega)) (hf.1 52 (by unfold pD; omega)))) rfl
            exact ih.2 _ _ _ _ hB38 f42 (by have q0 : (v2 : Int32).toInt = v2.toInt := rfl; have q1 : ((v4 + 1) : Int32).toInt = (v4.toInt + 1) := e45; have q2 : ((I36 102 53) : Int32).toInt = (I 102 53).toInt := e46; have q3 : ((I36 102 52) : Int32).toInt = (I 102 52).toInt := e47; have q4 : ((I36 97 43) : Int32).toInt = (I36 97 43).toInt := rfl; omega) (by have q0 : ((v4 + 1) : Int32).toInt = (v4.toInt + 1) := e45; omega)
  refine sg_X12_doOne_0 hc _ _ _ _ ?_
  refine ⟨fun c48 => ?_, fun c48 => ?_⟩
  · skip
    have b49 := Bd.o hB0 (show isO 112 97 12 = true from rfl) (show bnd 12 43 = some _ from rfl)
    have d50 : ¬ (((I 97 43).toInt) : Int) = (300) := ci_ne rfl rfl c48
    have e52 : (((I 97 43) + 1) : Int32).toInt = ((I 97 43).toInt) + (1) := ti_add rfl rfl (by omega)
    have hB51 : Bd (uI I 97 43 ((I 97 43) + 1)) := Bd.o1 hB0 (show isO 112 97 12 = true from rfl) (by omega) (show bnd 12 43 = some _ from rfl) (show (((I 97 43) + 1) : Int32).toInt = ((I 97 43).toInt + 1) from e52) (by omega)
    have f53 : Fr pD I (uI I 97 43 ((I 97 43) + 1)) := Fr.o (Fr.refl _ _) (by decide) (by decide)
    have h53 := (Bd.c hB0 (j := 53) (z := 53) rfl).2.2.1 (by decide)
    have hr := Bd.rec hB0 (s := v1) (w := (54 + (9 * v1))) h52 hv1 (ti_add (show (54 : Int32).toInt = 54 from rfl) (ti_mul (show (9 : Int32).toInt = 9 from rfl) rfl (by omega)) (by omega))
    have e54 : ((9 * v1) : Int32).toInt = (9) * (v1.toInt) := ti_mul rfl rfl (by omega)
    have e55 : ((54 + (9 * v1)) : Int32).toInt = (54) + ((9 * v1.toInt)) := ti_add rfl e54 (by omega)
    refine ⟨vp_of (a := (54 + (9 * v1.toInt))) e55 (by omega) (by omega), ?_⟩
    refine ⟨fun c56 => ?_, fun c56 => ?_⟩
    · skip
      have e57 : (((uI I 97 43 ((I 97 43) + 1)) 102 (Int32.toNatClampNeg (54 + (9 * v1)))) : Int32).toInt = (I 102 (Int32.toNatClampNeg (54 + (9 * v1)))).toInt := Eq.trans (congrArg Int32.toInt (rd_ne (by omega))) rfl
      have d58 : ((6) : Int) ≤ ((I 102 (Int32.toNatClampNeg (54 + (9 * v1)))).toInt) := ci_le rfl e57 c56
      refine ⟨fun c59 => ?_, fun c59 => ?_⟩
      · skip
        have d60 : ¬ (((I 102 (Int32.toNatClampNeg (54 + (9 * v1)))).toInt) : Int) = (6) := ci_ne e57 rfl c59
        have b61 := (Bd.c hB0 (j := 53) (z := 53) rfl).2.2.1 (by decide)
        have e62 : (((uI I 97 43 ((I 97 43) + 1)) 102 53) : Int32).toInt = (I 102 53).toInt := Eq.trans (congrArg Int32.toInt (rd_ne (by omega))) rfl
        have e63 : (((uI I 97 43 ((I 97 43) + 1)) 102 52) : Int32).toInt = (I 102 52).toInt := Eq.trans (congrArg Int32.toInt (rd_ne (by omega))) rfl
        have e64 : (((uI I 97 43 ((I 97 43) + 1)) 97 43) : Int32).toInt = ((I 97 43).toInt + 1) := Eq.trans (congrArg Int32.toInt rd_eq) e52
        exact (L 1000000).1 _ _ _ _ hB51 f53 (by have q0 : ((54 + (9 * v1)) : Int32).toInt = (54 + (9 * v1.toInt)) := e55; have q1 : (((uI I 97 43 ((I 97 43) + 1)) 102 53) : Int32).toInt = (I 102 53).toInt := e62; have q2 : (((uI I 97 43 ((I 97 43) + 1)) 102 52) : Int32).toInt = (I 102 52).toInt := e63; have q3 : (((uI I 97 43 ((I 97 43) + 1)) 97 43) : Int32).toInt = ((I 97 43).toInt + 1) := e64; omega) (by omega)
      · skip
        have d65 : (((I 102 (Int32.toNatClampNeg (54 + (9 * v1)))).toInt) : Int) = (6) := ci_eq e57 rfl c59
        refine sp_X12_holds hB51 hR0 (by rw [show ((uI I 97 43 ((I 97 43) + 1)) 102) = I 102 from (uI_ne (by decide))]; exact hr.1) (by have z1 : ((54 + (9 * v1)) : Int32).toInt = (54 + (9 * v1.toInt)) := e55; omega) (by have z : (((uI I 97 43 ((I 97 43) + 1)) 102 (Int32.toNatClampNeg (54 + (9 * v1)))) : Int32).toInt = (I 102 (Int32.toNatClampNeg (54 + (9 * v1)))).toInt := e57; omega) (fun x66 y71 I67 J68 hB69 p70 => ?_)
        intro o72
        subst p70
        have i73 := i32 x66
        refine ⟨fun c74 => ?_, fun c74 => ?_⟩
        · skip
          have d75 : ((x66.toInt) : Int) = (0) := ci_eq rfl rfl c74
          have b76 := (Bd.c hB0 (j := 53) (z := 53) rfl).2.2.1 (by decide)
          have e77 : (((uI I 97 43 ((I 97 43) + 1)) 102 53) : Int32).toInt = (I 102 53).toInt := Eq.trans (congrArg Int32.toInt (rd_ne (by omega))) rfl
          have e78 : (((uI I 97 43 ((I 97 43) + 1)) 102 52) : Int32).toInt = (I 102 52).toInt := Eq.trans (congrArg Int32.toInt (rd_ne (by omega))) rfl
          have e79 : (((uI I 97 43 ((I 97 43) + 1)) 97 43) : Int32).toInt = ((I 97 43).toInt + 1) := Eq.trans (congrArg Int32.toInt rd_eq) e52
          exact (L 1000000).1 _ _ _ _ hB51 f53 (by have q0 : ((54 + (9 * v1)) : Int32).toInt = (54 + (9 * v1.toInt)) := e55; have q1 : (((uI I 97 43 ((I 97 43) + 1)) 102 53) : Int32).toInt = (I 102 53).toInt := e77; have q2 : (((uI I 97 43 ((I 97 43) + 1)) 102 52) : Int32).toInt = (I 102 52).toInt := e78; have q3 : (((uI I 97 43 ((I 97 43) + 1)) 97 43) : Int32).toInt = ((I 97 43).toInt + 1) := e79; omega) (by omega)
        · skip
          have d80 : ¬ ((x66.toInt) : Int) = (0) := ci_ne rfl rfl c74
          have e81 : (((54 + (9 * v1)) + 8) : Int32).toInt = ((54 + (9 * v1.toInt))) + (8) := ti_add e55 rfl (by omega)
          refine ⟨vp_of (a := ((54 + (9 * v1.toInt)) + 8)) e81 (by omega) (by omega), ?_⟩
          have e82 : ((v1 + 1) : Int32).toInt = (v1.toInt) + (1) := ti_add rfl rfl (by omega)
          have e83 : (((uI I 97 43 ((I 97 43) + 1)) 102 52) : Int32).toInt = (I 102 52).toInt := Eq.trans (congrArg Int32.toInt (rd_ne (by omega))) rfl
          have b84 := (Bd.c hB0 (j := 53) (z := 53) rfl).2.2.1 (by decide)
          have e85 : (((uI I 97 43 ((I 97 43) + 1)) 102 53) : Int32).toInt = (I 102 53).toInt := Eq.trans (congrArg Int32.toInt (rd_ne (by omega))) rfl
          have e86 : (((uI I 97 43 ((I 97 43) + 1)) 102 (Int32.toNatClampNeg ((54 + (9 * v1)) + 8))) : Int32).toInt = (I 102 (Int32.toNatClampNeg ((54 + (9 * v1)) + 8))).toInt := Eq.trans (congrArg Int32.toInt (rd_ne (by omega))) rfl
          have e87 : (((uI I 97 43 ((I 97 43) + 1)) 97 43) : Int32).toInt = ((I 97 43).toInt + 1) := Eq.trans (congrArg Int32.toInt rd_eq) e52
          refine ihA hB51 hR0 (by have z1 : ((v1 + 1) : Int32).toInt = (v1.toInt + 1) := e82; have y52 : (((uI I 97 43 ((I 97 43) + 1)) 102 52)).toInt = (I 102 52).toInt := e83; have y53 : (((uI I 97 43 ((I 97 43) + 1)) 102 53)).toInt = (I 102 53).toInt := e85; omega) (by have z2 : (((uI I 97 43 ((I 97 43) + 1)) 102 (Int32.toNatClampNeg ((54 + (9 * v1)) + 8))) : Int32).toInt = (I 102 (Int32.toNatClampNeg ((54 + (9 * v1)) + 8))).toInt := e86; have y52 : (((uI I 97 43 ((I 97 43) + 1)) 102 52)).toInt = (I 102 52).toInt := e83; have y53 : (((uI I 97 43 ((I 97 43) + 1)) 102 53)).toInt = (I 102 53).toInt := e85; omega) (by have y52 : (((uI I 97 43 ((I 97 43) + 1)) 102 52)).toInt = (I 102 52).toInt := e83; have y53 : (((uI I 97 43 ((I 97 43) + 1)) 102 53)).toInt = (I 102 53).toInt := e85; omega) (by have z : (((uI I 97 43 ((I 97 43) + 1)) 97 43)).toInt = ((I 97 43).toInt + 1) := e87; omega) (fun x88 y93 I89 J90 hB91 p92 => ?_)
          have f94 : Fr pD (uI I 97 43 ((I 97 43) + 1)) I89 := p92.1
          have f95 : Fr pD I I89 := Fr.tr f53 f94 (fun _ z => z)
          have q96 : ((v1 + 1) : Int32).toInt = (v1.toInt + 1) := e82
          have b97 := Bd.o hB91 (show isO 112 97 12 = true from rfl) (show bnd 12 43 = some _ from rfl)
          exact hQ _ _ _ _ hB91 ⟨f95, (by have q2 : ((I89 97 43) : Int32).toInt = (I89 97 43).toInt := rfl; omega)⟩
    · skip
      have e98 : (((uI I 97 43 ((I 97 43) + 1)) 102 (Int32.toNatClampNeg (54 + (9 * v1)))) : Int32).toInt = (I 102 (Int32.toNatClampNeg (54 + (9 * v1)))).toInt := Eq.trans (congrArg Int32.toInt (rd_ne (by omega))) rfl
      have d99 : (((I 102 (Int32.toNatClampNeg (54 + (9 * v1)))).toInt) : Int) < (6) := ci_nle rfl e98 c56
      refine sp_X12_does hB51 hR0 (by rw [show ((uI I 97 43 ((I 97 43) + 1)) 102) = I 102 from (uI_ne (by decide))]; exact hr.1) (by have z1 : ((54 + (9 * v1)) : Int32).toInt = (54 + (9 * v1.toInt)) := e55; omega) (fun x100 y105 I101 J102 hB103 p104 => ?_)
      intro o106
      have f107 : Fr pD (uI I 97 43 ((I 97 43) + 1)) I101 := p104.2
      have f108 : Fr pD I I101 := Fr.tr f53 f107 (fun _ z => z)
      have i109 := i32 x100
      refine ⟨fun c110 => ?_, fun c110 => ?_⟩
      · skip
        have d111 : ((x100.toInt) : Int) = (0) := ci_eq rfl rfl c110
        have hB112 : Bd (uI I101 97 44 (((uI I 97 43 ((I 97 43) + 1)) 97 44) + 1)) := Bd.o0 hB103 (show isO 112 97 12 = true from rfl) (by omega) (show bnd 12 44 = none from rfl)
        have f113 : Fr pD I (uI I101 97 44 (((uI I 97 43 ((I 97 43) + 1)) 97 44) + 1)) := Fr.o f108 (by decide) (by decide)
        have e114 : (((uI I101 97 44 (((uI I 97 43 ((I 97 43) + 1)) 97 44) + 1)) 97 43) : Int32).toInt = ((I 97 43).toInt + 1) := Eq.trans (congrArg Int32.toInt (Eq.trans (Eq.trans (rd_k (by decide)) p104.1) rd_eq)) e52
        exact hQ _ _ _ _ hB112 ⟨f113, (by have q2 : (((uI I101 97 44 (((uI I 97 43 ((I 97 43) + 1)) 97 44) + 1)) 97 43) : Int32).toInt = ((I 97 43).toInt + 1) := e114; omega)⟩
      · skip
        have d115 : ¬ ((x100.toInt) : Int) = (0) := ci_ne rfl rfl c110
        have hB116 : Bd (uI I101 97 44 (((uI I 97 43 ((I 97 43) + 1)) 97 44) + 0)) := Bd.o0 hB103 (show isO 112 97 12 = true from rfl) (by omega) (show bnd 12 44 = none from rfl)
        have f117 : Fr pD I (uI I101 97 44 (((uI I 97 43 ((I 97 43) + 1)) 97 44) + 0)) := Fr.o f108 (by decide) (by decide)
        have e118 : (((uI I101 97 44 (((uI I 97 43 ((I 97 43) + 1)) 97 44) + 0)) 97 43) : Int32).toInt = ((I 97 43).toInt + 1) := Eq.trans (congrArg Int32.toInt (Eq.trans (Eq.trans (rd_k (by decide)) p104.1) rd_eq)) e52
        exact hQ _ _ _ _ hB116 ⟨f117, (by have q2 : (((uI I101 97 44 (((uI I 97 43 ((I 97 43) + 1)) 97 44) + 0)) 97 43) : Int32).toInt = ((I 97 43).toInt + 1) := e118; omega)⟩
  · skip
    have b119 := Bd.o hB0 (show isO 112 97 12 = true from rfl) (show bnd 12 43 = some _ from rfl)
    have d120 : (((I 97 43).toInt) : Int) = (300) := ci_eq rfl rfl c48
    refine ⟨Or.inr rfl, ?_⟩
    have hB121 : Bd (uI I 97 41 1) := Bd.o1 hB0 (show isO 112 97 12 = true from rfl) (by omega) (show bnd 12 41 = some _ from rfl) rfl (bl_ti (Or.inr rfl))
    have f122 : Fr pD I (uI I 97 41 1) := Fr.o (Fr.refl _ _) (by decide) (by decide)
    have hB123 : Bd (uI (uI I 97 41 1) 97 48 1) := Bd.o0 hB121 (show isO 112 97 12 = true from rfl) (by omega) (show bnd 12 48 = none from rfl)
    have f124 : Fr pD I (uI (uI I 97 41 1) 97 48 1) := Fr.o f122 (by decide) (by decide)
    have e125 : (((uI (uI I 97 41 1) 97 48 1) 97 43) : Int32).toInt = (I 97 43).toInt := Eq.trans (congrArg Int32.toInt (Eq.trans (rd_k (by decide)) (rd_k (by decide)))) rfl
    exact hQ _ _ _ _ hB123 ⟨f124, (by have q2 : (((uI (uI I 97 41 1) 97 48 1) 97 43) : Int32).toInt = (I 97 43).toInt := e125; omega)⟩
