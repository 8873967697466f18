set_option maxHeartbeats 2000000 in
theorem sp_X11_back {d : Nat} {Q : Qt} {I : Im} {J : Jm} {R : Rm} (hB0 : Bd I) (hR0 : RI R) (hQ : ∀ (x : Int32) (y : Int64) (I2 : Im) (J2 : Jm), Bd I2 → (((1 ≤ (I 1 13).toInt ∧ x.toInt = (I 1 13).toInt - 1 ∧ (I2 1 13).toInt = (I 1 13).toInt - 1) ∨ ((I 1 13).toInt = 0 ∧ x.toInt = -1 ∧ (I2 1 13).toInt = 0))) → Q x y I2 J2 R) : AM (d + 2) 148 112 [.ref 1] I J R Q := by
  refine w_X11_back ?_
  refine ⟨fun c1 => ?_, fun c1 => ?_⟩
  · skip
    have b2 := Bd.o hB0 io9_112_1_11 bd9_11_13
    have d3 : ((1) : Int) ≤ ((I 1 13).toInt) := ci_le rfl rfl c1
    have e5 : (((I 1 13) - 1) : Int32).toInt = ((I 1 13).toInt) - (1) := ti_sub rfl rfl (by omega)
    have hB4 : Bd (uI I 1 13 ((I 1 13) - 1)) := Bd.o1 hB0 io9_112_1_11 (by omega) bd9_11_13 (show (((I 1 13) - 1) : Int32).toInt = ((I 1 13).toInt - 1) from e5) (by omega)
    refine ⟨(RI.now hR0).2, ?_⟩
    have e6 : (((uI I 1 13 ((I 1 13) - 1)) 1 13) : Int32).toInt = ((I 1 13).toInt - 1) := Eq.trans (congrArg Int32.toInt rd_eq) e5
    refine ⟨vp_of (a := ((I 1 13).toInt - 1)) e6 (by omega) (by omega), ?_⟩
    have hr7 := RI.kb hR0 (Int32.toNatClampNeg ((uI I 1 13 ((I 1 13) - 1)) 1 13)) (by rw [tn_of e6 (by omega)]; omega)
    refine ⟨hr7.1, ?_⟩
    refine bif_t (RI.now hR0).1 ?_
    refine sp_X0_copyFrom hB4 hR0 (RI.now hR0).1 hr7.2 (fun x8 y13 I9 J10 hB11 p12 => ?_)
    refine ⟨(RI.plan hR0).2, ?_⟩
    have e14 : ((I9 1 13) : Int32).toInt = ((I 1 13).toInt - 1) := Eq.trans (congrArg Int32.toInt (Eq.trans p12 rd_eq)) e5
    refine ⟨vp_of (a := ((I 1 13).toInt - 1)) e14 (by omega) (by omega), ?_⟩
    have hr15 := RI.kd hR0 (Int32.toNatClampNeg (I9 1 13)) (by rw [tn_of e14 (by omega)]; omega)
    refine ⟨hr15.1, ?_⟩
    refine bif_t (RI.plan hR0).1 ?_
    refine sp_X2_copyFrom hB11 hR0 (RI.plan hR0).1 hr15.2 (fun x16 y21 I17 J18 hB19 p20 => ?_)
    refine w_X11_answer ?_
    have hB22 : Bd (uI I17 1 0 0) := Bd.o0 hB19 io9_112_1_11 (by omega) bd9_11_0
    have e23 : (((uI I17 1 0 0) 1 13) : Int32).toInt = ((I 1 13).toInt - 1) := Eq.trans (congrArg Int32.toInt (Eq.trans (Eq.trans (Eq.trans (rd_k (by decide)) p20) p12) rd_eq)) e5
    have e24 : ((I17 1 13) : Int32).toInt = ((I 1 13).toInt - 1) := Eq.trans (congrArg Int32.toInt (Eq.trans (Eq.trans p20 p12) rd_eq)) e5
    exact hQ _ _ _ _ hB22 (by have q2 : (((uI I17 1 0 0) 1 13) : Int32).toInt = ((I 1 13).toInt - 1) := e23; have q0 : ((I17 1 13) : Int32).toInt = ((I 1 13).toInt - 1) := e24; omega)
  · skip
    have b25 := Bd.o hB0 io9_112_1_11 bd9_11_13
    have d26 : (((I 1 13).toInt) : Int) < (1) := ci_nle rfl rfl c1
    refine w_X11_refuse ?_
    have hB27 : Bd (uI I 1 0 8) := Bd.o0 hB0 io9_112_1_11 (by omega) bd9_11_0
    have e28 : (((uI I 1 0 8) 1 13) : Int32).toInt = (I 1 13).toInt := Eq.trans (congrArg Int32.toInt (rd_k (by decide))) rfl
    exact hQ _ _ _ _ hB27 (by have q2 : (((uI I 1 0 8) 1 13) : Int32).toInt = (I 1 13).toInt := e28; have q0 : ((-1) : Int32).toInt = (-1) := rfl; omega)
