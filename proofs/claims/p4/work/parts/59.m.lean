noncomputable def RA (a b : Int32) : Int := 100 * (a.toInt - b.toInt)
noncomputable def RB (a b c : Int32) : Int := 100 * (a.toInt - b.toInt) - 60 + c.toInt
theorem ra_nn6 {a b : Int32} (h : b.toInt ≤ a.toInt) : 0 ≤ RA a b := by unfold RA; omega
theorem rb_nn6 {a b c : Int32} (h : b.toInt < a.toInt) (h2 : 0 ≤ c.toInt) : 0 ≤ RB a b c := by unfold RB; omega
theorem rb_lt60 {a b c : Int32} (h : c.toInt ≤ 30) : RB a b c < RA a b := by unfold RA RB; omega
theorem rb_lt6 {a b c e : Int32} (h : e.toInt < c.toInt) : RB a b e < RB a b c := by unfold RB; omega
theorem ra_lt6 {a b c e : Int32} (h : e.toInt = b.toInt + 1) (hc : 0 ≤ c.toInt) : RA a e < RB a b c := by unfold RA RB; omega
theorem ms_lt6 {a b : Int} {n : Nat} (h1 : a < b) (h2 : b < ((n + 1 : Nat) : Int)) : a < (n : Int) := by omega
theorem ra_ub62 (a b : Int32) : RA a b < ((900000000000 : Nat) : Int) := by have := i32 a; have := i32 b; unfold RA; omega
theorem in4 {v2 v4 : Int32} (h3 : 0 ≤ v4.toInt) (h4 : v4.toInt < v2.toInt) : (v4 + 1 : Int32).toInt = v4.toInt + 1 := ti_add rfl rfl (by have := i32 v2; omega)
theorem le30 {a : Int} (h : a ≤ 30) : a < ((31 : Nat) : Int) := by omega
theorem le1 {a : Int} (h : 1 ≤ a) : 0 ≤ a := by omega
theorem dc_v6 {v6 : Int32} (h6 : 1 ≤ v6.toInt) : (v6 + (-1) : Int32).toInt = v6.toInt + (-1) := ti_add rfl rfl (by have := i32 v6; omega)
theorem rn_dc6 {M : Im} {v3 v5 v6 : Int32} (h : RN M v3 v5 v6) (h6 : 1 ≤ v6.toInt) (hne : (M 108 v6.toNatClampNeg).toInt = (M 108 v3.toNatClampNeg).toInt - 1 → CO v3 v6 → False) : RN M v3 v5 (v6 + (-1)) := by
  rcases h with z | ⟨z, e, e1, e2, e0, e3, e4⟩
  · exact Or.inl z
  · have y : ¬ e = v6 := fun q => by subst q; exact hne e3 e4
    have y2 : ¬ e.toInt = v6.toInt := fun w => y (Int32.toInt_inj.mp w)
    have y3 : e.toInt ≤ v6.toInt + (-1) := by clear e3 e4 hne; omega
    exact Or.inr ⟨z, e, e1, (by rw [dc_v6 h6]; exact y3), e0, e3, e4⟩
theorem rn_nw6 {M : Im} {v3 v6 : Int32} (h6 : 1 ≤ v6.toInt) (h7 : v6.toInt ≤ 30) (h : (M 108 v6.toNatClampNeg).toInt = (M 108 v3.toNatClampNeg).toInt - 1) : RN M v3 v6 (v6 + (-1)) := Or.inl ⟨h6, h7, h⟩
theorem iv_dc6 {v2 v3 v4 v6 : Int32} (h : 1 ≤ v3.toInt ∧ v3.toInt ≤ 30 ∧ 0 ≤ v4.toInt ∧ v4.toInt < v2.toInt ∧ 0 ≤ v6.toInt ∧ v6.toInt ≤ 30 ∧ 0 ≤ RB v2 v4 v6) (h6 : 1 ≤ v6.toInt) : 1 ≤ v3.toInt ∧ v3.toInt ≤ 30 ∧ 0 ≤ v4.toInt ∧ v4.toInt < v2.toInt ∧ 0 ≤ (v6 + (-1) : Int32).toInt ∧ (v6 + (-1) : Int32).toInt ≤ 30 ∧ 0 ≤ RB v2 v4 (v6 + (-1)) := by
  obtain ⟨a1, a2, a3, a4, a5, a6, -⟩ := h
  have z : 0 ≤ (v6 + (-1) : Int32).toInt := (by rw [dc_v6 h6]; omega)
  exact ⟨a1, a2, a3, a4, z, (by clear z; rw [dc_v6 h6]; omega), rb_nn6 a4 z⟩
theorem ms_dc6 {v2 v4 v6 : Int32} {n : Nat} (h6 : 1 ≤ v6.toInt) (hm : RB v2 v4 v6 < ((n + 1 : Nat) : Int)) : RB v2 v4 (v6 + (-1)) < (n : Int) := ms_lt6 (rb_lt6 (by clear hm; rw [dc_v6 h6]; omega)) hm
theorem rd_ps6 {M : Im} {v2 v4 v3 : Int32} (h : RD M v2 v4 v3) (hlt : v4.toInt < v2.toInt) : 1 ≤ (M 108 v3.toNatClampNeg).toInt := by unfold RD at h; omega
theorem RE1 {a b : Int32} (h : ¬ a = b - 1) (hb : 1 ≤ b.toInt) : a.toInt = b.toInt - 1 → False := fun q => ci_ne rfl (ti_sub rfl (show (1 : Int32).toInt = 1 from rfl) (by have := i32 b; omega)) h q
theorem RE2 {a b : Int32} (h : a = b - 1) (hb : 1 ≤ b.toInt) : a.toInt = b.toInt - 1 := ci_eq rfl (ti_sub rfl (show (1 : Int32).toInt = 1 from rfl) (by have := i32 b; omega)) h
theorem rn_gt6 {M : Im} {v3 v5 v6 : Int32} (h : RN M v3 v5 v6) (h6 : v6.toInt < 1) : 1 ≤ v5.toInt ∧ v5.toInt ≤ 30 ∧ (M 108 v5.toNatClampNeg).toInt = (M 108 v3.toNatClampNeg).toInt - 1 := by
  rcases h with z | ⟨_, e, e1, e2, _⟩
  · exact z
  · omega
theorem rd_nx6 {M : Im} {v2 v4 v3 v5 : Int32} (h : RD M v2 v4 v3) (h4 : (v4 + 1 : Int32).toInt = v4.toInt + 1) (h5 : (M 108 v5.toNatClampNeg).toInt = (M 108 v3.toNatClampNeg).toInt - 1) : RD M v2 (v4 + 1) v5 := by
  unfold RD at h ⊢
  rw [h4, h5]
  omega
theorem iv_nx6 {v2 v4 v5 : Int32} (h1 : 1 ≤ v5.toInt) (h2 : v5.toInt ≤ 30) (h3 : 0 ≤ v4.toInt) (h4 : v4.toInt < v2.toInt) (z : (v4 + 1 : Int32).toInt = v4.toInt + 1) : 1 ≤ v5.toInt ∧ v5.toInt ≤ 30 ∧ 0 ≤ (v4 + 1 : Int32).toInt ∧ (v4 + 1 : Int32).toInt ≤ v2.toInt ∧ 0 ≤ RA v2 (v4 + 1) :=
  ⟨h1, h2, by rw [z]; omega, by rw [z]; omega, ra_nn6 (by rw [z]; omega)⟩
set_option maxHeartbeats 2000000 in
theorem sp_X12_reachAt {d : Nat} {Q : Qt} {v1 : Int32} {v2 : Int32} {I : Im} {J : Jm} {R : Rm} (hB0 : Bd I) (hR0 : RI R) (hQ : ∀ (x : Int32) (y : Int64) (I2 : Im) (J2 : Jm), Bd I2 → (Fr pT I I2) → Q x y I2 J2 R) : AM (d + 5) 292 112 [.ref 97, .int v1, .int v2] I J R Q := by
  have i_v1 := i32 v1
  have i_v2 := i32 v2
  refine am_X12_reachAt (fun P hc => ?_)
  have L : ∀ n : Nat, (∀ (v3 : Int32) (v4 : Int32) (M : Im) (JM : Jm), Bd M → Fr pT I M → (RQ M) → (RD M v2 v4 v3) → (1 ≤ v3.toInt ∧ v3.toInt ≤ 30 ∧ 0 ≤ v4.toInt ∧ v4.toInt ≤ v2.toInt ∧ 0 ≤ RA v2 v4) → RA v2 v4 < (n : Int) → P 59 112 [(0, .ref 97), (2, .int v2), (3, .int v3), (4, .int v4)] [] M JM R) ∧ (∀ (v3 : Int32) (v4 : Int32) (v5 : Int32) (v6 : Int32) (M : Im) (JM : Jm), Bd M → Fr pT I M → (RQ M) → (RD M v2 v4 v3) → (RN M v3 v5 v6) → (1 ≤ v3.toInt ∧ v3.toInt ≤ 30 ∧ 0 ≤ v4.toInt ∧ v4.toInt < v2.toInt ∧ 0 ≤ v6.toInt ∧ v6.toInt ≤ 30 ∧ 0 ≤ RB v2 v4 v6) → RB v2 v4 v6 < (n : Int) → P 72 112 [(0, .ref 97), (2, .int v2), (3, .int v3), (4, .int v4), (5, .int v5), (6, .int v6)] [] M JM R) := by
    intro n
    induction n with
    | zero =>
      exact ⟨fun v3 v4 M J _ _ _ _ hi hm => absurd hm (by omega), fun v3 v4 v5 v6 M J _ _ _ _ _ hi hm => absurd hm (by omega)⟩
    | succ n ih =>
      refine ⟨?_, ?_⟩
      · skip
        intro v3 v4 M JM hB hf hq_0 hq_1 hi hm
        have i_v2 := i32 v2
        have i_v3 := i32 v3
        have i_v4 := i32 v4
        refine sg_X12_reachAt_59 hc _ _ _ _ _ _ ?_
        refine ⟨fun c1 => ?_, fun c1 => ?_⟩
        · skip
          have d2 : ((v2.toInt) : Int) ≤ (v4.toInt) := ci_le rfl rfl c1
          exact hQ _ _ _ _ hB hf
        · skip
          have d3 : ((v4.toInt) : Int) < (v2.toInt) := ci_nle rfl rfl c1
          have z6 : (30 : Int32).toInt = 30 := rfl
          have hv4 : RQ M := hq_0
          have hv5 : RD M v2 v4 v3 := hq_1
          have hv6 : RN M v3 ((-1) : Int32) (30 : Int32) := (Or.inr ⟨rfl, by have z2 := hq_1; unfold RD at z2; obtain ⟨e, e1, e2, e3, e4⟩ := hq_0 v3 (by omega) (by omega) (by omega); exact ⟨e, e1, by have z : ((30 : Int32)).toInt = 30 := rfl; omega, e2, e3, e4⟩⟩)
          exact ih.2 _ _ _ _ _ _ hB hf hv4 hv5 hv6 ⟨by omega, by omega, by omega, by omega, by omega, by omega, rb_nn6 (by omega) (by omega)⟩ (ms_lt6 (rb_lt60 (by omega)) hm)
      · intro v3 v4 v5 v6 M JM hB hf hq_0 hq_1 hq_2 hi hm
        refine sg_X12_reachAt_72 hc _ _ _ _ _ _ _ _ ?_
        have hp3 := rd_ps6 hq_1 hi.2.2.2.1
        refine ⟨fun c7 => ?_, fun c7 => ?_⟩
        · have d8 : v6.toInt < 1 := ci_lt rfl rfl c7
          obtain ⟨w1, w2, w3⟩ := rn_gt6 hq_2 d8
          have z4 : (v4 + 1 : Int32).toInt = v4.toInt + 1 := in4 hi.2.2.1 hi.2.2.2.1
          exact ih.1 _ _ _ _ hB hf hq_0 (rd_nx6 hq_1 z4 w3) (iv_nx6 w1 w2 hi.2.2.1 hi.2.2.2.1 z4) (ms_lt6 (ra_lt6 z4 hi.2.2.2.2.1) hm)
        · have d11 : 1 ≤ v6.toInt := ci_nlt rfl rfl c7
          refine ⟨vp_of (a := v6.toInt) rfl hi.2.2.2.2.1 (le30 hi.2.2.2.2.2.1), vp_of (a := v3.toInt) rfl (le1 hi.1) (le30 hi.2.1), fun c12 => ?_, fun c12 => ?_⟩
          · exact ih.2 _ _ _ _ _ _ hB hf hq_0 hq_1 (rn_dc6 hq_2 d11 (fun q _ => RE1 c12 hp3 q)) (iv_dc6 hi d11) (ms_dc6 d11 hm)
          · refine sp_X12_comesOf hB hR0 ⟨hi.1, hi.2.1⟩ ⟨d11, hi.2.2.2.2.2.1⟩ (fun x20 y25 I21 J22 hB23 p24 o26 => ?_)
            obtain ⟨heI21, p24⟩ := p24
            subst heI21
            refine ⟨fun c28 => ?_, fun c28 => ?_⟩
            · have d29 : x20.toInt = 0 := ci_eq rfl rfl c28
              exact ih.2 _ _ _ _ _ _ hB hf hq_0 hq_1 (rn_dc6 hq_2 d11 (fun _ q => p24.1 d29 q)) (iv_dc6 hi d11) (ms_dc6 d11 hm)
            · exact ih.2 _ _ _ _ _ _ hB hf hq_0 hq_1 (rn_nw6 d11 hi.2.2.2.2.2.1 (RE2 c12 hp3)) (iv_dc6 hi d11) (ms_dc6 d11 hm)
  refine sg_X12_reachAt_0 hc _ _ _ _ _ ?_
  have hB37 : Bd (uI I 97 1 0) := Bd.o0 hB0 (show isO 112 97 12 = true from rfl) (by decide) (show bnd 12 1 = none from rfl)
  have hB38 : Bd (uI (uI I 97 1 0) 97 0 0) := Bd.o0 hB37 (show isO 112 97 12 = true from rfl) (by decide) (show bnd 12 0 = none from rfl)
  have f38 : Fr pT I (uI (uI I 97 1 0) 97 0 0) := ((Fr.refl pT I).o (by decide) (by decide)).o (by decide) (by decide)
  refine w_X12_isSlice ?_
  refine w_X12_isIn ?_
  refine ⟨fun c39 => ?_, fun c39 => ?_⟩
  · skip
    rw [lg_cmp_lt] at c39
    have d40 : ((v1.toInt) : Int) < (1) := cl_lt (tl_i2l rfl) rfl c39
    refine ⟨Or.inl rfl, ?_⟩
    intro o41
    refine ⟨Or.inl rfl, ?_⟩
    intro o42
    refine ⟨fun c43 => ?_, fun c43 => ?_⟩
    · exact absurd c43 (by decide)
    · skip
      refine w_X12_refuse ?_
      have hB44 : Bd (uI (uI (uI I 97 1 0) 97 0 0) 97 0 2) := Bd.o0 hB38 (show isO 112 97 12 = true from rfl) (by decide) (show bnd 12 0 = none from rfl)
      exact hQ _ _ _ _ hB44 (f38.o (by decide) (by decide))
  · skip
    rw [lg_cmp_lt] at c39
    have d45 : ((1) : Int) ≤ (v1.toInt) := cl_nlt (tl_i2l rfl) rfl c39
    refine ⟨fun c46 => ?_, fun c46 => ?_⟩
    · skip
      rw [lg_cmp_gt] at c46
      have d47 : ((30) : Int) < (v1.toInt) := cl_lt rfl (tl_i2l rfl) c46
      refine ⟨Or.inl rfl, ?_⟩
      intro o48
      refine ⟨Or.inl rfl, ?_⟩
      intro o49
      refine ⟨fun c50 => ?_, fun c50 => ?_⟩
      · exact absurd c50 (by decide)
      · skip
        refine w_X12_refuse ?_
        have hB51 : Bd (uI (uI (uI I 97 1 0) 97 0 0) 97 0 2) := Bd.o0 hB38 (show isO 112 97 12 = true from rfl) (by decide) (show bnd 12 0 = none from rfl)
        exact hQ _ _ _ _ hB51 (f38.o (by decide) (by decide))
    · skip
      rw [lg_cmp_gt] at c46
      have d52 : ((v1.toInt) : Int) ≤ (30) := cl_nlt rfl (tl_i2l rfl) c46
      refine ⟨Or.inr rfl, ?_⟩
      intro o53
      refine ⟨Or.inr rfl, ?_⟩
      intro o54
      refine ⟨fun c55 => ?_, fun c55 => ?_⟩
      · skip
        refine sp_X12_reachFrom hB38 hR0 (fun x56 y61 I57 J58 hB59 p60 => ?_)
        have i62 := i32 x56
        refine ⟨fun c63 => ?_, fun c63 => ?_⟩
        · skip
          have d64 : ((x56.toInt) : Int) < (0) := ci_lt rfl rfl c63
          refine w_X12_refuse ?_
          have hB65 : Bd (uI I57 97 0 8) := Bd.o0 hB59 (show isO 112 97 12 = true from rfl) (by decide) (show bnd 12 0 = none from rfl)
          exact hQ _ _ _ _ hB65 ((Fr.tr f38 p60.1 (fun _ _ => trivial)).o (by decide) (by decide))
        · skip
          have d66 : ((0) : Int) ≤ (x56.toInt) := ci_nlt rfl rfl c63
          refine ⟨vp_of (a := x56.toInt) rfl (by omega) (by omega), ?_⟩
          refine w_X12_isIn ?_
          refine ⟨fun c67 => ?_, fun c67 => ?_⟩
          · skip
            rw [lg_cmp_lt] at c67
            have d68 : ((v2.toInt) : Int) < (0) := cl_lt (tl_i2l rfl) rfl c67
            refine ⟨Or.inl rfl, ?_⟩
            intro o69
            refine ⟨fun c70 => ?_, fun c70 => ?_⟩
            · exact absurd c70 (by decide)
            · skip
              refine w_X12_refuse ?_
              have hB71 : Bd (uI I57 97 0 8) := Bd.o0 hB59 (show isO 112 97 12 = true from rfl) (by decide) (show bnd 12 0 = none from rfl)
              exact hQ _ _ _ _ hB71 ((Fr.tr f38 p60.1 (fun _ _ => trivial)).o (by decide) (by decide))
          · skip
            rw [lg_cmp_lt] at c67
            have d72 : ((0) : Int) ≤ (v2.toInt) := cl_nlt (tl_i2l rfl) rfl c67
            refine ⟨fun c73 => ?_, fun c73 => ?_⟩
            · skip
              rw [lg_cmp_gt] at c73
              have i74 := i32 ((I57 108 (Int32.toNatClampNeg x56)))
              have d75 : (((I57 108 (Int32.toNatClampNeg x56)).toInt) : Int) < (v2.toInt) := cl_lt (tl_i2l rfl) (tl_i2l rfl) c73
              refine ⟨Or.inl rfl, ?_⟩
              intro o76
              refine ⟨fun c77 => ?_, fun c77 => ?_⟩
              · exact absurd c77 (by decide)
              · skip
                refine w_X12_refuse ?_
                have hB78 : Bd (uI I57 97 0 8) := Bd.o0 hB59 (show isO 112 97 12 = true from rfl) (by decide) (show bnd 12 0 = none from rfl)
                exact hQ _ _ _ _ hB78 ((Fr.tr f38 p60.1 (fun _ _ => trivial)).o (by decide) (by decide))
            · skip
              rw [lg_cmp_gt] at c73
              have i79 := i32 ((I57 108 (Int32.toNatClampNeg x56)))
              have d80 : ((v2.toInt) : Int) ≤ ((I57 108 (Int32.toNatClampNeg x56)).toInt) := cl_nlt (tl_i2l rfl) (tl_i2l rfl) c73
              refine ⟨Or.inr rfl, ?_⟩
              intro o81
              refine ⟨fun c82 => ?_, fun c82 => ?_⟩
              · skip
                have z4 : (0 : Int32).toInt = 0 := rfl
                have hv83 : RQ I57 := p60.2.2
                have hv84 : RD I57 v2 (0 : Int32) x56 := (by have z0 : (0 : Int32).toInt = 0 := rfl; unfold RD; omega)
                exact (L 900000000000).1 _ _ _ _ hB59 (Fr.tr f38 p60.1 (fun _ _ => trivial)) hv83 hv84 ⟨by omega, by omega, by omega, by omega, ra_nn6 (by omega)⟩ (ra_ub62 v2 0)
              · exact absurd c82 (by decide)
      · exact absurd c55 (by decide)
