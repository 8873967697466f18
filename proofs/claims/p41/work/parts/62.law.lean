/-- what both sides have alike, without the sums of a plate -/
noncomputable def RLz (I : Im) : Prop := (I 3 1).toInt = (I 97 8).toInt ∧ (I 1 13).toInt = (I 97 23).toInt ∧ RT I ∧ True
set_option maxRecDepth 100000 in
set_option maxHeartbeats 2000000 in
theorem lc_0 {Q : Nat → Qt} {P : Kt} {L : Nat} {xs : Nat → Int32} (hc : Cl (AM 640) false true L xs 2 112 kL_law Q P) (hL : L ≤ 3584) {v3 : Int32} {I : Im} {J : Jm} {R : Rm} (hB0 : Bd I) (hR0 : RI R) (hF0 : Fl R) (hL0 : (I 3 1).toInt = (I 97 8).toInt) (hL1 : (I 1 13).toInt = (I 97 23).toInt) (hL2 : RT I) (hL3 : True) (hR3 : R3 I J) (hRM : RM I J R) (hFQ : True) (hW9 : W9 I R) (h0 : 0 ≤ v3.toInt) (h7 : v3.toInt + 7 ≤ (L : Int)) (hN : ∀ (I : Im) (J : Jm) (R : Rm), Bd I → RI R → Fl R → RLz I → R3 I J → RM I J R → True → W9 I R → P 1889 112 [(0, .ref 0), (1, .ref 1), (2, .ref 97), (3, .int v3)] [] I J R) : P 244 112 [(0, .ref 0), (1, .ref 1), (2, .ref 97), (3, .int v3)] [] I J R := by
  have i_v3 := i32 v3
  have e97 : I 97 8 = nI (fl I) := (Int32.toInt_inj.mp hL0).symm.trans (fl_bd hB0).1
  have b31 := Bd.o hB0 io9_112_3_6 bd9_6_1
  refine ls_244 hc v3 _ _ _ ?_
  refine ⟨⟨hF0, rfl⟩, ?_⟩
  refine kp7 rfl hR0 rfl (kpA rfl (kpnm rfl hR0 rfl (kp102 rfl hR0 rfl (kpW9 rfl hR0 rfl (kp6 rfl hR0 rfl (kp4 rfl (kp5 rfl hR0 rfl (kp0 rfl (kp1 rfl (kp2 rfl (kp3 rfl (sp_X11_status hB0 hR0 (fun x1 y6 I2 J3 hB4 p5 kq10 kq9 kq8 kq7 k12 k11 k13 w18 w17 w16 w15 w14 => ?_)))))))))))))
  have i19 := i32 x1
  have b20 := Bd.o hB0 io9_112_3_6 bd9_6_1
  have e21 : ((I2 3 1) : Int32).toInt = (I 3 1).toInt := Eq.trans (congrArg Int32.toInt kq7) rfl
  have kz22 : ((I2 3 1) : Int32).toInt = (I 3 1).toInt := e21
  have b23 := Bd.o hB0 io9_112_97_12 bd9_12_8
  have e24 : ((I2 97 8) : Int32).toInt = (I 97 8).toInt := Eq.trans (congrArg Int32.toInt kq8) rfl
  have kz25 : ((I2 97 8) : Int32).toInt = (I 97 8).toInt := e24
  have b26 := Bd.o hB0 io9_112_1_11 bd9_11_13
  have e27 : ((I2 1 13) : Int32).toInt = (I 1 13).toInt := Eq.trans (congrArg Int32.toInt kq9) rfl
  have kz28 : ((I2 1 13) : Int32).toInt = (I 1 13).toInt := e27
  have b29 := Bd.o hB0 io9_112_97_12 bd9_12_23
  have e30 : ((I2 97 23) : Int32).toInt = (I 97 23).toInt := Eq.trans (congrArg Int32.toInt kq10) rfl
  have kz31 : ((I2 97 23) : Int32).toInt = (I 97 23).toInt := e30
  refine ⟨⟨hF0, rfl⟩, ?_⟩
  refine kp7 rfl hR0 rfl (kpA rfl (kpnm rfl hR0 rfl (kp102 rfl hR0 rfl (kpW9 rfl hR0 rfl (kp6 rfl hR0 rfl (kp4 rfl (kp5 rfl hR0 rfl (kp0 rfl (kp1 rfl (kp2 rfl (kp3 rfl (sp_X12_status hB4 hR0 (fun x32 y37 I33 J34 hB35 p36 kq41 kq40 kq39 kq38 k43 k42 k44 w49 w48 w47 w46 w45 => ?_)))))))))))))
  have i50 := i32 x32
  have e51 : ((I33 3 1) : Int32).toInt = (I 3 1).toInt := Eq.trans (congrArg Int32.toInt (Eq.trans kq38 kq7)) rfl
  have kz52 : ((I33 3 1) : Int32).toInt = (I 3 1).toInt := e51
  have e53 : ((I33 97 8) : Int32).toInt = (I 97 8).toInt := Eq.trans (congrArg Int32.toInt (Eq.trans kq39 kq8)) rfl
  have kz54 : ((I33 97 8) : Int32).toInt = (I 97 8).toInt := e53
  have e55 : ((I33 1 13) : Int32).toInt = (I 1 13).toInt := Eq.trans (congrArg Int32.toInt (Eq.trans kq40 kq9)) rfl
  have kz56 : ((I33 1 13) : Int32).toInt = (I 1 13).toInt := e55
  have e57 : ((I33 97 23) : Int32).toInt = (I 97 23).toInt := Eq.trans (congrArg Int32.toInt (Eq.trans kq41 kq10)) rfl
  have kz58 : ((I33 97 23) : Int32).toInt = (I 97 23).toInt := e57
  exact hN _ _ R hB35 hR0 hF0 ⟨(Eq.trans (e51) (Eq.trans hL0 (Eq.symm (e53)))), (Eq.trans (e55) (Eq.trans hL1 (Eq.symm (e57)))), (RT.kp (RT.kp hL2 k11 k12) k42 k43), trivial⟩ (R3.kp (R3.kp hR3 w14 (by have ya : ((I2 3 1) : Int32).toInt = (I 3 1).toInt := e21; have yb : ((I 3 1) : Int32).toInt = (I 3 1).toInt := rfl; first | exact Int.le_of_eq (ya.trans yb) | exact ya.trans yb | omega)) w45 (by have ya : ((I33 3 1) : Int32).toInt = (I 3 1).toInt := e51; have yb : ((I2 3 1) : Int32).toInt = (I 3 1).toInt := e21; first | exact Int.le_of_eq (ya.trans yb) | exact ya.trans yb | omega)) (RM.kp hR0 (RM.kp hR0 hRM ⟨w15, w16, (fun j _ => congrFun w17.1 j)⟩) ⟨w46, w47, (fun j _ => congrFun w48.1 j)⟩) trivial (W9.kp hR0 (W9.kp hR0 hW9 w18 w17.1 w15.2) w49 w48.1 w46.2)
set_option maxRecDepth 100000 in
set_option maxHeartbeats 2000000 in
theorem lc_1 {Q : Nat → Qt} {P : Kt} {L : Nat} {xs : Nat → Int32} (hc : Cl (AM 640) false true L xs 2 112 kL_law Q P) (hL : L ≤ 3584) {v3 : Int32} {I : Im} {J : Jm} {R : Rm} (hB0 : Bd I) (hR0 : RI R) (hF0 : Fl R) (hL0 : (I 3 1).toInt = (I 97 8).toInt) (hL1 : (I 1 13).toInt = (I 97 23).toInt) (hL2 : RT I) (hL3 : True) (hR3 : R3 I J) (hRM : RM I J R) (hFQ : True) (hW9 : W9 I R) (h0 : 0 ≤ v3.toInt) (h7 : v3.toInt + 7 ≤ (L : Int)) (hN : ∀ (I : Im) (J : Jm) (R : Rm), Bd I → RI R → Fl R → RLz I → R3 I J → RM I J R → True → W9 I R → P 1889 112 [(0, .ref 0), (1, .ref 1), (2, .ref 97), (3, .int v3)] [] I J R) : P 257 112 [(0, .ref 0), (1, .ref 1), (2, .ref 97), (3, .int v3)] [] I J R := by
  have i_v3 := i32 v3
  have e97 : I 97 8 = nI (fl I) := (Int32.toInt_inj.mp hL0).symm.trans (fl_bd hB0).1
  have b31 := Bd.o hB0 io9_112_3_6 bd9_6_1
  refine ls_257 hc v3 _ _ _ ?_
  refine ⟨⟨hF0, rfl⟩, ?_⟩
  refine kp7 rfl hR0 rfl (kpA rfl (kpnm rfl hR0 rfl (kp102 rfl hR0 rfl (kpW9 rfl hR0 rfl (kp6 rfl hR0 rfl (kp4 rfl (kp5 rfl hR0 rfl (kp0 rfl (kp1 rfl (kp2 rfl (kp3 rfl (sp_X11_top hB0 hR0 (fun x1 y6 I2 J3 hB4 p5 kq10 kq9 kq8 kq7 k12 k11 k13 w18 w17 w16 w15 w14 => ?_)))))))))))))
  have b19 := Bd.o hB0 io9_112_3_6 bd9_6_1
  have e20 : ((I2 3 1) : Int32).toInt = (I 3 1).toInt := Eq.trans (congrArg Int32.toInt kq7) rfl
  have kz21 : ((I2 3 1) : Int32).toInt = (I 3 1).toInt := e20
  have b22 := Bd.o hB0 io9_112_97_12 bd9_12_8
  have e23 : ((I2 97 8) : Int32).toInt = (I 97 8).toInt := Eq.trans (congrArg Int32.toInt kq8) rfl
  have kz24 : ((I2 97 8) : Int32).toInt = (I 97 8).toInt := e23
  have b25 := Bd.o hB0 io9_112_1_11 bd9_11_13
  have e26 : ((I2 1 13) : Int32).toInt = (I 1 13).toInt := Eq.trans (congrArg Int32.toInt kq9) rfl
  have kz27 : ((I2 1 13) : Int32).toInt = (I 1 13).toInt := e26
  have b28 := Bd.o hB0 io9_112_97_12 bd9_12_23
  have e29 : ((I2 97 23) : Int32).toInt = (I 97 23).toInt := Eq.trans (congrArg Int32.toInt kq10) rfl
  have kz30 : ((I2 97 23) : Int32).toInt = (I 97 23).toInt := e29
  refine ⟨⟨hF0, rfl⟩, ?_⟩
  refine kp7 rfl hR0 rfl (kpA rfl (kpnm rfl hR0 rfl (kp102 rfl hR0 rfl (kpW9 rfl hR0 rfl (kp6 rfl hR0 rfl (kp4 rfl (kp5 rfl hR0 rfl (kp0 rfl (kp1 rfl (kp2 rfl (kp3 rfl (sp_X12_top hB4 hR0 (fun x31 y36 I32 J33 hB34 p35 kq40 kq39 kq38 kq37 k42 k41 k43 w48 w47 w46 w45 w44 => ?_)))))))))))))
  have e49 : ((I32 3 1) : Int32).toInt = (I 3 1).toInt := Eq.trans (congrArg Int32.toInt (Eq.trans kq37 kq7)) rfl
  have kz50 : ((I32 3 1) : Int32).toInt = (I 3 1).toInt := e49
  have e51 : ((I32 97 8) : Int32).toInt = (I 97 8).toInt := Eq.trans (congrArg Int32.toInt (Eq.trans kq38 kq8)) rfl
  have kz52 : ((I32 97 8) : Int32).toInt = (I 97 8).toInt := e51
  have e53 : ((I32 1 13) : Int32).toInt = (I 1 13).toInt := Eq.trans (congrArg Int32.toInt (Eq.trans kq39 kq9)) rfl
  have kz54 : ((I32 1 13) : Int32).toInt = (I 1 13).toInt := e53
  have e55 : ((I32 97 23) : Int32).toInt = (I 97 23).toInt := Eq.trans (congrArg Int32.toInt (Eq.trans kq40 kq10)) rfl
  have kz56 : ((I32 97 23) : Int32).toInt = (I 97 23).toInt := e55
  exact hN _ _ R hB34 hR0 hF0 ⟨(Eq.trans (e49) (Eq.trans hL0 (Eq.symm (e51)))), (Eq.trans (e53) (Eq.trans hL1 (Eq.symm (e55)))), (RT.kp (RT.kp hL2 k11 k12) k41 k42), trivial⟩ (R3.kp (R3.kp hR3 w14 (by have ya : ((I2 3 1) : Int32).toInt = (I 3 1).toInt := e20; have yb : ((I 3 1) : Int32).toInt = (I 3 1).toInt := rfl; first | exact Int.le_of_eq (ya.trans yb) | exact ya.trans yb | omega)) w44 (by have ya : ((I32 3 1) : Int32).toInt = (I 3 1).toInt := e49; have yb : ((I2 3 1) : Int32).toInt = (I 3 1).toInt := e20; first | exact Int.le_of_eq (ya.trans yb) | exact ya.trans yb | omega)) (RM.kp hR0 (RM.kp hR0 hRM ⟨w15, w16, (fun j _ => congrFun w17.1 j)⟩) ⟨w45, w46, (fun j _ => congrFun w47.1 j)⟩) trivial (W9.kp hR0 (W9.kp hR0 hW9 w18 w17.1 w15.2) w48 w47.1 w45.2)
set_option maxRecDepth 100000 in
set_option maxHeartbeats 2000000 in
theorem lc_2 {Q : Nat → Qt} {P : Kt} {L : Nat} {xs : Nat → Int32} (hc : Cl (AM 640) false true L xs 2 112 kL_law Q P) (hL : L ≤ 3584) {v3 : Int32} {I : Im} {J : Jm} {R : Rm} (hB0 : Bd I) (hR0 : RI R) (hF0 : Fl R) (hL0 : (I 3 1).toInt = (I 97 8).toInt) (hL1 : (I 1 13).toInt = (I 97 23).toInt) (hL2 : RT I) (hL3 : True) (hR3 : R3 I J) (hRM : RM I J R) (hFQ : True) (hW9 : W9 I R) (h0 : 0 ≤ v3.toInt) (h7 : v3.toInt + 7 ≤ (L : Int)) (hN : ∀ (I : Im) (J : Jm) (R : Rm), Bd I → RI R → Fl R → RLz I → R3 I J → RM I J R → True → W9 I R → P 1889 112 [(0, .ref 0), (1, .ref 1), (2, .ref 97), (3, .int v3)] [] I J R) : P 270 112 [(0, .ref 0), (1, .ref 1), (2, .ref 97), (3, .int v3)] [] I J R := by
  have i_v3 := i32 v3
  have e97 : I 97 8 = nI (fl I) := (Int32.toInt_inj.mp hL0).symm.trans (fl_bd hB0).1
  have b31 := Bd.o hB0 io9_112_3_6 bd9_6_1
  refine ls_270 hc v3 _ _ _ ?_
  refine ⟨⟨hF0, rfl⟩, ?_⟩
  refine kp7 rfl hR0 rfl (kpA rfl (kpnm rfl hR0 rfl (kp102 rfl hR0 rfl (kpW9 rfl hR0 rfl (kp6 rfl hR0 rfl (kp4 rfl (kp5 rfl hR0 rfl (kp0 rfl (kp1 rfl (kp2 rfl (kp3 rfl (sp_X11_bottom hB0 hR0 (fun x1 y6 I2 J3 hB4 p5 kq10 kq9 kq8 kq7 k12 k11 k13 w18 w17 w16 w15 w14 => ?_)))))))))))))
  have b19 := Bd.o hB0 io9_112_3_6 bd9_6_1
  have e20 : ((I2 3 1) : Int32).toInt = (I 3 1).toInt := Eq.trans (congrArg Int32.toInt kq7) rfl
  have kz21 : ((I2 3 1) : Int32).toInt = (I 3 1).toInt := e20
  have b22 := Bd.o hB0 io9_112_97_12 bd9_12_8
  have e23 : ((I2 97 8) : Int32).toInt = (I 97 8).toInt := Eq.trans (congrArg Int32.toInt kq8) rfl
  have kz24 : ((I2 97 8) : Int32).toInt = (I 97 8).toInt := e23
  have b25 := Bd.o hB0 io9_112_1_11 bd9_11_13
  have e26 : ((I2 1 13) : Int32).toInt = (I 1 13).toInt := Eq.trans (congrArg Int32.toInt kq9) rfl
  have kz27 : ((I2 1 13) : Int32).toInt = (I 1 13).toInt := e26
  have b28 := Bd.o hB0 io9_112_97_12 bd9_12_23
  have e29 : ((I2 97 23) : Int32).toInt = (I 97 23).toInt := Eq.trans (congrArg Int32.toInt kq10) rfl
  have kz30 : ((I2 97 23) : Int32).toInt = (I 97 23).toInt := e29
  refine ⟨⟨hF0, rfl⟩, ?_⟩
  refine kp7 rfl hR0 rfl (kpA rfl (kpnm rfl hR0 rfl (kp102 rfl hR0 rfl (kpW9 rfl hR0 rfl (kp6 rfl hR0 rfl (kp4 rfl (kp5 rfl hR0 rfl (kp0 rfl (kp1 rfl (kp2 rfl (kp3 rfl (sp_X12_bottom hB4 hR0 (fun x31 y36 I32 J33 hB34 p35 kq40 kq39 kq38 kq37 k42 k41 k43 w48 w47 w46 w45 w44 => ?_)))))))))))))
  have e49 : ((I32 3 1) : Int32).toInt = (I 3 1).toInt := Eq.trans (congrArg Int32.toInt (Eq.trans kq37 kq7)) rfl
  have kz50 : ((I32 3 1) : Int32).toInt = (I 3 1).toInt := e49
  have e51 : ((I32 97 8) : Int32).toInt = (I 97 8).toInt := Eq.trans (congrArg Int32.toInt (Eq.trans kq38 kq8)) rfl
  have kz52 : ((I32 97 8) : Int32).toInt = (I 97 8).toInt := e51
  have e53 : ((I32 1 13) : Int32).toInt = (I 1 13).toInt := Eq.trans (congrArg Int32.toInt (Eq.trans kq39 kq9)) rfl
  have kz54 : ((I32 1 13) : Int32).toInt = (I 1 13).toInt := e53
  have e55 : ((I32 97 23) : Int32).toInt = (I 97 23).toInt := Eq.trans (congrArg Int32.toInt (Eq.trans kq40 kq10)) rfl
  have kz56 : ((I32 97 23) : Int32).toInt = (I 97 23).toInt := e55
  exact hN _ _ R hB34 hR0 hF0 ⟨(Eq.trans (e49) (Eq.trans hL0 (Eq.symm (e51)))), (Eq.trans (e53) (Eq.trans hL1 (Eq.symm (e55)))), (RT.kp (RT.kp hL2 k11 k12) k41 k42), trivial⟩ (R3.kp (R3.kp hR3 w14 (by have ya : ((I2 3 1) : Int32).toInt = (I 3 1).toInt := e20; have yb : ((I 3 1) : Int32).toInt = (I 3 1).toInt := rfl; first | exact Int.le_of_eq (ya.trans yb) | exact ya.trans yb | omega)) w44 (by have ya : ((I32 3 1) : Int32).toInt = (I 3 1).toInt := e49; have yb : ((I2 3 1) : Int32).toInt = (I 3 1).toInt := e20; first | exact Int.le_of_eq (ya.trans yb) | exact ya.trans yb | omega)) (RM.kp hR0 (RM.kp hR0 hRM ⟨w15, w16, (fun j _ => congrFun w17.1 j)⟩) ⟨w45, w46, (fun j _ => congrFun w47.1 j)⟩) trivial (W9.kp hR0 (W9.kp hR0 hW9 w18 w17.1 w15.2) w48 w47.1 w45.2)
set_option maxRecDepth 100000 in
set_option maxHeartbeats 2000000 in
theorem lc_3 {Q : Nat → Qt} {P : Kt} {L : Nat} {xs : Nat → Int32} (hc : Cl (AM 640) false true L xs 2 112 kL_law Q P) (hL : L ≤ 3584) {v3 : Int32} {I : Im} {J : Jm} {R : Rm} (hB0 : Bd I) (hR0 : RI R) (hF0 : Fl R) (hL0 : (I 3 1).toInt = (I 97 8).toInt) (hL1 : (I 1 13).toInt = (I 97 23).toInt) (hL2 : RT I) (hL3 : True) (hR3 : R3 I J) (hRM : RM I J R) (hFQ : True) (hW9 : W9 I R) (h0 : 0 ≤ v3.toInt) (h7 : v3.toInt + 7 ≤ (L : Int)) (hN : ∀ (I : Im) (J : Jm) (R : Rm), Bd I → RI R → Fl R → RLz I → R3 I J → RM I J R → True → W9 I R → P 1889 112 [(0, .ref 0), (1, .ref 1), (2, .ref 97), (3, .int v3)] [] I J R) : P 283 112 [(0, .ref 0), (1, .ref 1), (2, .ref 97), (3, .int v3)] [] I J R := by
  have i_v3 := i32 v3
  have e97 : I 97 8 = nI (fl I) := (Int32.toInt_inj.mp hL0).symm.trans (fl_bd hB0).1
  have b31 := Bd.o hB0 io9_112_3_6 bd9_6_1
  refine ls_283 hc v3 _ _ _ ?_
  have e1 : ((v3 + 1) : Int32).toInt = (v3.toInt) + (1) := ti_add rfl rfl (by omega)
  refine ⟨vp_of (a := (v3.toInt + 1)) e1 (by omega) (by omega), ?_⟩
  have z2 := i32 (xs (Int32.toNatClampNeg (v3 + 1)))
  have e3 : ((v3 + 2) : Int32).toInt = (v3.toInt) + (2) := ti_add rfl rfl (by omega)
  refine ⟨vp_of (a := (v3.toInt + 2)) e3 (by omega) (by omega), ?_⟩
  have z4 := i32 (xs (Int32.toNatClampNeg (v3 + 2)))
  have e5 : ((v3 + 3) : Int32).toInt = (v3.toInt) + (3) := ti_add rfl rfl (by omega)
  refine ⟨vp_of (a := (v3.toInt + 3)) e5 (by omega) (by omega), ?_⟩
  have z6 := i32 (xs (Int32.toNatClampNeg (v3 + 3)))
  refine ⟨⟨hF0, rfl⟩, ?_⟩
  refine kp7 rfl hR0 rfl (kpA rfl (kpnm rfl hR0 rfl (kp102 rfl hR0 rfl (kpW9 rfl hR0 rfl (kp6 rfl hR0 rfl (kp5 rfl hR0 rfl (kp0 rfl (kp1 rfl (kp2 rfl (kp3 rfl (sp_X11_tray hB0 hR0 (fun x7 y12 I8 J9 hB10 p11 kq16 kq15 kq14 kq13 k17 k18 w23 w22 w21 w20 w19 => ?_))))))))))))
  intro o24
  have i25 := i32 x7
  have b26 := Bd.o hB0 io9_112_3_6 bd9_6_1
  have e27 : ((I8 3 1) : Int32).toInt = (I 3 1).toInt := Eq.trans (congrArg Int32.toInt kq13) rfl
  have kz28 : ((I8 3 1) : Int32).toInt = (I 3 1).toInt := e27
  have b29 := Bd.o hB0 io9_112_97_12 bd9_12_8
  have e30 : ((I8 97 8) : Int32).toInt = (I 97 8).toInt := Eq.trans (congrArg Int32.toInt kq14) rfl
  have kz31 : ((I8 97 8) : Int32).toInt = (I 97 8).toInt := e30
  have b32 := Bd.o hB0 io9_112_1_11 bd9_11_13
  have e33 : ((I8 1 13) : Int32).toInt = (I 1 13).toInt := Eq.trans (congrArg Int32.toInt kq15) rfl
  have kz34 : ((I8 1 13) : Int32).toInt = (I 1 13).toInt := e33
  have b35 := Bd.o hB0 io9_112_97_12 bd9_12_23
  have e36 : ((I8 97 23) : Int32).toInt = (I 97 23).toInt := Eq.trans (congrArg Int32.toInt kq16) rfl
  have kz37 : ((I8 97 23) : Int32).toInt = (I 97 23).toInt := e36
  refine ⟨vp_of (a := (v3.toInt + 1)) e1 (by omega) (by omega), ?_⟩
  have z38 := i32 (xs (Int32.toNatClampNeg (v3 + 1)))
  refine ⟨vp_of (a := (v3.toInt + 2)) e3 (by omega) (by omega), ?_⟩
  have z39 := i32 (xs (Int32.toNatClampNeg (v3 + 2)))
  refine ⟨vp_of (a := (v3.toInt + 3)) e5 (by omega) (by omega), ?_⟩
  have z40 := i32 (xs (Int32.toNatClampNeg (v3 + 3)))
  refine ⟨⟨hF0, rfl⟩, ?_⟩
  refine kp7 rfl hR0 rfl (kpA rfl (kpnm rfl hR0 rfl (kp102 rfl hR0 rfl (kpW9 rfl hR0 rfl (kp6 rfl hR0 rfl (kp4 rfl (kp0 rfl (kp1 rfl (kp2 rfl (kp3 rfl (sp_X12_tray hB10 hR0 (fun x41 y46 I42 J43 hB44 p45 kq50 kq49 kq48 kq47 k51 k52 w57 w56 w55 w54 w53 => ?_))))))))))))
  intro o58
  have i59 := i32 x41
  have e60 : ((I42 3 1) : Int32).toInt = (I 3 1).toInt := Eq.trans (congrArg Int32.toInt (Eq.trans kq47 kq13)) rfl
  have kz61 : ((I42 3 1) : Int32).toInt = (I 3 1).toInt := e60
  have e62 : ((I42 97 8) : Int32).toInt = (I 97 8).toInt := Eq.trans (congrArg Int32.toInt (Eq.trans kq48 kq14)) rfl
  have kz63 : ((I42 97 8) : Int32).toInt = (I 97 8).toInt := e62
  have e64 : ((I42 1 13) : Int32).toInt = (I 1 13).toInt := Eq.trans (congrArg Int32.toInt (Eq.trans kq49 kq15)) rfl
  have kz65 : ((I42 1 13) : Int32).toInt = (I 1 13).toInt := e64
  have e66 : ((I42 97 23) : Int32).toInt = (I 97 23).toInt := Eq.trans (congrArg Int32.toInt (Eq.trans kq50 kq16)) rfl
  have kz67 : ((I42 97 23) : Int32).toInt = (I 97 23).toInt := e66
  exact hN _ _ R hB44 hR0 hF0 ⟨(Eq.trans (e60) (Eq.trans hL0 (Eq.symm (e62)))), (Eq.trans (e64) (Eq.trans hL1 (Eq.symm (e66)))), (RT.tray hL2 hR0 p11.2 p45.2 (by have a := p11.1; have b := p45.1; omega) (fun z => by have a := p11.1; omega) k17 k51), trivial⟩ (R3.kp (R3.kp hR3 w19 (by have ya : ((I8 3 1) : Int32).toInt = (I 3 1).toInt := e27; have yb : ((I 3 1) : Int32).toInt = (I 3 1).toInt := rfl; first | exact Int.le_of_eq (ya.trans yb) | exact ya.trans yb | omega)) w53 (by have ya : ((I42 3 1) : Int32).toInt = (I 3 1).toInt := e60; have yb : ((I8 3 1) : Int32).toInt = (I 3 1).toInt := e27; first | exact Int.le_of_eq (ya.trans yb) | exact ya.trans yb | omega)) (RM.kp hR0 (RM.kp hR0 hRM ⟨w20, w21, (fun j _ => congrFun w22.1 j)⟩) ⟨w54, w55, (fun j _ => congrFun w56.1 j)⟩) trivial (W9.kp hR0 (W9.kp hR0 hW9 w23 w22.1 w20.2) w57 w56.1 w54.2)
set_option maxRecDepth 100000 in
set_option maxHeartbeats 2000000 in
theorem lc_4 {Q : Nat → Qt} {P : Kt} {L : Nat} {xs : Nat → Int32} (hc : Cl (AM 640) false true L xs 2 112 kL_law Q P) (hL : L ≤ 3584) {v3 : Int32} {I : Im} {J : Jm} {R : Rm} (hB0 : Bd I) (hR0 : RI R) (hF0 : Fl R) (hL0 : (I 3 1).toInt = (I 97 8).toInt) (hL1 : (I 1 13).toInt = (I 97 23).toInt) (hL2 : RT I) (hL3 : True) (hR3 : R3 I J) (hRM : RM I J R) (hFQ : True) (hW9 : W9 I R) (h0 : 0 ≤ v3.toInt) (h7 : v3.toInt + 7 ≤ (L : Int)) (hN : ∀ (I : Im) (J : Jm) (R : Rm), Bd I → RI R → Fl R → RLz I → R3 I J → RM I J R → True → W9 I R → P 1889 112 [(0, .ref 0), (1, .ref 1), (2, .ref 97), (3, .int v3)] [] I J R) : P 326 112 [(0, .ref 0), (1, .ref 1), (2, .ref 97), (3, .int v3)] [] I J R := by
  have i_v3 := i32 v3
  have e97 : I 97 8 = nI (fl I) := (Int32.toInt_inj.mp hL0).symm.trans (fl_bd hB0).1
  have b31 := Bd.o hB0 io9_112_3_6 bd9_6_1
  refine ls_326 hc v3 _ _ _ ?_
  have e1 : ((v3 + 1) : Int32).toInt = (v3.toInt) + (1) := ti_add rfl rfl (by omega)
  refine ⟨vp_of (a := (v3.toInt + 1)) e1 (by omega) (by omega), ?_⟩
  have z2 := i32 (xs (Int32.toNatClampNeg (v3 + 1)))
  have e3 : ((v3 + 2) : Int32).toInt = (v3.toInt) + (2) := ti_add rfl rfl (by omega)
  refine ⟨vp_of (a := (v3.toInt + 2)) e3 (by omega) (by omega), ?_⟩
  have z4 := i32 (xs (Int32.toNatClampNeg (v3 + 2)))
  have e5 : ((v3 + 3) : Int32).toInt = (v3.toInt) + (3) := ti_add rfl rfl (by omega)
  refine ⟨vp_of (a := (v3.toInt + 3)) e5 (by omega) (by omega), ?_⟩
  have z6 := i32 (xs (Int32.toNatClampNeg (v3 + 3)))
  have e7 : ((v3 + 4) : Int32).toInt = (v3.toInt) + (4) := ti_add rfl rfl (by omega)
  refine ⟨vp_of (a := (v3.toInt + 4)) e7 (by omega) (by omega), ?_⟩
  have z8 := i32 (xs (Int32.toNatClampNeg (v3 + 4)))
  refine ⟨⟨hF0, rfl⟩, ?_⟩
  refine kp7 rfl hR0 rfl (kpA rfl (kpnm rfl hR0 rfl (kp102 rfl hR0 rfl (kpW9 rfl hR0 rfl (kp6 rfl hR0 rfl (kp4 rfl (kp5 rfl hR0 rfl (kp0 rfl (kp1 rfl (kp2 rfl (kp3 rfl (sp_X11_write hB0 hR0 (fun x9 y14 I10 J11 hB12 p13 kq18 kq17 kq16 kq15 k20 k19 k21 w26 w25 w24 w23 w22 => ?_)))))))))))))
  intro o27
  have i28 := i32 x9
  have b29 := Bd.o hB0 io9_112_3_6 bd9_6_1
  have e30 : ((I10 3 1) : Int32).toInt = (I 3 1).toInt := Eq.trans (congrArg Int32.toInt kq15) rfl
  have kz31 : ((I10 3 1) : Int32).toInt = (I 3 1).toInt := e30
  have b32 := Bd.o hB0 io9_112_97_12 bd9_12_8
  have e33 : ((I10 97 8) : Int32).toInt = (I 97 8).toInt := Eq.trans (congrArg Int32.toInt kq16) rfl
  have kz34 : ((I10 97 8) : Int32).toInt = (I 97 8).toInt := e33
  have b35 := Bd.o hB0 io9_112_1_11 bd9_11_13
  have e36 : ((I10 1 13) : Int32).toInt = (I 1 13).toInt := Eq.trans (congrArg Int32.toInt kq17) rfl
  have kz37 : ((I10 1 13) : Int32).toInt = (I 1 13).toInt := e36
  have b38 := Bd.o hB0 io9_112_97_12 bd9_12_23
  have e39 : ((I10 97 23) : Int32).toInt = (I 97 23).toInt := Eq.trans (congrArg Int32.toInt kq18) rfl
  have kz40 : ((I10 97 23) : Int32).toInt = (I 97 23).toInt := e39
  have hw41 : 0 ≤ ((xs (Int32.toNatClampNeg (v3 + 1))) : Int32).toInt → ((xs (Int32.toNatClampNeg (v3 + 1))) : Int32).toInt ≤ 3 → (I (R 2 (Int32.toNatClampNeg (xs (Int32.toNatClampNeg (v3 + 1))))) 1).toInt = (I10 99 (Int32.toNatClampNeg (xs (Int32.toNatClampNeg (v3 + 1))))).toInt := fun a b => RT.a1 hL2 hR0 k20 a b
  refine ⟨vp_of (a := (v3.toInt + 1)) e1 (by omega) (by omega), ?_⟩
  have z42 := i32 (xs (Int32.toNatClampNeg (v3 + 1)))
  refine ⟨vp_of (a := (v3.toInt + 2)) e3 (by omega) (by omega), ?_⟩
  have z43 := i32 (xs (Int32.toNatClampNeg (v3 + 2)))
  refine ⟨vp_of (a := (v3.toInt + 3)) e5 (by omega) (by omega), ?_⟩
  have z44 := i32 (xs (Int32.toNatClampNeg (v3 + 3)))
  refine ⟨vp_of (a := (v3.toInt + 4)) e7 (by omega) (by omega), ?_⟩
  have z45 := i32 (xs (Int32.toNatClampNeg (v3 + 4)))
  refine ⟨⟨hF0, rfl⟩, ?_⟩
  refine kp7 rfl hR0 rfl (kpA rfl (kpnm rfl hR0 rfl (kp102 rfl hR0 rfl (kpW9 rfl hR0 rfl (kp6 rfl hR0 rfl (kp4 rfl (kp0 rfl (kp1 rfl (kp2 rfl (kp3 rfl (sp_X12_write hB12 hR0 (fun x46 y51 I47 J48 hB49 p50 kq55 kq54 kq53 kq52 k56 k57 w62 w61 w60 w59 w58 => ?_))))))))))))
  intro o63
  have i64 := i32 x46
  have e65 : ((I47 3 1) : Int32).toInt = (I 3 1).toInt := Eq.trans (congrArg Int32.toInt (Eq.trans kq52 kq15)) rfl
  have kz66 : ((I47 3 1) : Int32).toInt = (I 3 1).toInt := e65
  have e67 : ((I47 97 8) : Int32).toInt = (I 97 8).toInt := Eq.trans (congrArg Int32.toInt (Eq.trans kq53 kq16)) rfl
  have kz68 : ((I47 97 8) : Int32).toInt = (I 97 8).toInt := e67
  have e69 : ((I47 1 13) : Int32).toInt = (I 1 13).toInt := Eq.trans (congrArg Int32.toInt (Eq.trans kq54 kq17)) rfl
  have kz70 : ((I47 1 13) : Int32).toInt = (I 1 13).toInt := e69
  have e71 : ((I47 97 23) : Int32).toInt = (I 97 23).toInt := Eq.trans (congrArg Int32.toInt (Eq.trans kq55 kq18)) rfl
  have kz72 : ((I47 97 23) : Int32).toInt = (I 97 23).toInt := e71
  exact hN _ _ R hB49 hR0 hF0 ⟨(Eq.trans (e65) (Eq.trans hL0 (Eq.symm (e67)))), (Eq.trans (e69) (Eq.trans hL1 (Eq.symm (e71)))), (RT.kp (RT.kp hL2 k19 k20) k56 (p50.2)), trivial⟩ (R3.kp (R3.kp hR3 w22 (by have ya : ((I10 3 1) : Int32).toInt = (I 3 1).toInt := e30; have yb : ((I 3 1) : Int32).toInt = (I 3 1).toInt := rfl; first | exact Int.le_of_eq (ya.trans yb) | exact ya.trans yb | omega)) w58 (by have ya : ((I47 3 1) : Int32).toInt = (I 3 1).toInt := e65; have yb : ((I10 3 1) : Int32).toInt = (I 3 1).toInt := e30; first | exact Int.le_of_eq (ya.trans yb) | exact ya.trans yb | omega)) (RM.kp hR0 (RM.kp hR0 hRM ⟨w23, w24, (fun j _ => congrFun w25.1 j)⟩) ⟨w59, w60, (fun j _ => congrFun w61.1 j)⟩) trivial (W9.kp hR0 (W9.kp hR0 hW9 w26 w25.1 w23.2) w62 w61.1 w59.2)
set_option maxRecDepth 100000 in
set_option maxHeartbeats 2000000 in
theorem lc_5 {Q : Nat → Qt} {P : Kt} {L : Nat} {xs : Nat → Int32} (hc : Cl (AM 640) false true L xs 2 112 kL_law Q P) (hL : L ≤ 3584) {v3 : Int32} {I : Im} {J : Jm} {R : Rm} (hB0 : Bd I) (hR0 : RI R) (hF0 : Fl R) (hL0 : (I 3 1).toInt = (I 97 8).toInt) (hL1 : (I 1 13).toInt = (I 97 23).toInt) (hL2 : RT I) (hL3 : True) (hR3 : R3 I J) (hRM : RM I J R) (hFQ : True) (hW9 : W9 I R) (h0 : 0 ≤ v3.toInt) (h7 : v3.toInt + 7 ≤ (L : Int)) (hN : ∀ (I : Im) (J : Jm) (R : Rm), Bd I → RI R → Fl R → RLz I → R3 I J → RM I J R → True → W9 I R → P 1889 112 [(0, .ref 0), (1, .ref 1), (2, .ref 97), (3, .int v3)] [] I J R) : P 399 112 [(0, .ref 0), (1, .ref 1), (2, .ref 97), (3, .int v3)] [] I J R := by
  have i_v3 := i32 v3
  have e97 : I 97 8 = nI (fl I) := (Int32.toInt_inj.mp hL0).symm.trans (fl_bd hB0).1
  have b31 := Bd.o hB0 io9_112_3_6 bd9_6_1
  refine ls_399 hc v3 _ _ _ ?_
  have e1 : ((v3 + 1) : Int32).toInt = (v3.toInt) + (1) := ti_add rfl rfl (by omega)
  refine ⟨vp_of (a := (v3.toInt + 1)) e1 (by omega) (by omega), ?_⟩
  have z2 := i32 (xs (Int32.toNatClampNeg (v3 + 1)))
  have e3 : ((v3 + 2) : Int32).toInt = (v3.toInt) + (2) := ti_add rfl rfl (by omega)
  refine ⟨vp_of (a := (v3.toInt + 2)) e3 (by omega) (by omega), ?_⟩
  have z4 := i32 (xs (Int32.toNatClampNeg (v3 + 2)))
  refine ⟨⟨hF0, rfl⟩, ?_⟩
  refine kp7 rfl hR0 rfl (kpA rfl (kpnm rfl hR0 rfl (kp102 rfl hR0 rfl (kpW9 rfl hR0 rfl (kp6 rfl hR0 rfl (kp4 rfl (kp5 rfl hR0 rfl (kp0 rfl (kp1 rfl (kp2 rfl (kp3 rfl (sp_X11_read hB0 hR0 (fun x5 y10 I6 J7 hB8 p9 kq14 kq13 kq12 kq11 k16 k15 k17 w22 w21 w20 w19 w18 => ?_)))))))))))))
  have b23 := Bd.o hB0 io9_112_3_6 bd9_6_1
  have e24 : ((I6 3 1) : Int32).toInt = (I 3 1).toInt := Eq.trans (congrArg Int32.toInt kq11) rfl
  have kz25 : ((I6 3 1) : Int32).toInt = (I 3 1).toInt := e24
  have b26 := Bd.o hB0 io9_112_97_12 bd9_12_8
  have e27 : ((I6 97 8) : Int32).toInt = (I 97 8).toInt := Eq.trans (congrArg Int32.toInt kq12) rfl
  have kz28 : ((I6 97 8) : Int32).toInt = (I 97 8).toInt := e27
  have b29 := Bd.o hB0 io9_112_1_11 bd9_11_13
  have e30 : ((I6 1 13) : Int32).toInt = (I 1 13).toInt := Eq.trans (congrArg Int32.toInt kq13) rfl
  have kz31 : ((I6 1 13) : Int32).toInt = (I 1 13).toInt := e30
  have b32 := Bd.o hB0 io9_112_97_12 bd9_12_23
  have e33 : ((I6 97 23) : Int32).toInt = (I 97 23).toInt := Eq.trans (congrArg Int32.toInt kq14) rfl
  have kz34 : ((I6 97 23) : Int32).toInt = (I 97 23).toInt := e33
  refine ⟨vp_of (a := (v3.toInt + 1)) e1 (by omega) (by omega), ?_⟩
  have z35 := i32 (xs (Int32.toNatClampNeg (v3 + 1)))
  refine ⟨vp_of (a := (v3.toInt + 2)) e3 (by omega) (by omega), ?_⟩
  have z36 := i32 (xs (Int32.toNatClampNeg (v3 + 2)))
  refine ⟨⟨hF0, rfl⟩, ?_⟩
  refine kp7 rfl hR0 rfl (kpA rfl (kpnm rfl hR0 rfl (kp102 rfl hR0 rfl (kpW9 rfl hR0 rfl (kp6 rfl hR0 rfl (kp4 rfl (kp5 rfl hR0 rfl (kp0 rfl (kp1 rfl (kp2 rfl (kp3 rfl (sp_X12_read hB8 hR0 (fun x37 y42 I38 J39 hB40 p41 kq46 kq45 kq44 kq43 k48 k47 k49 w54 w53 w52 w51 w50 => ?_)))))))))))))
  have e55 : ((I38 3 1) : Int32).toInt = (I 3 1).toInt := Eq.trans (congrArg Int32.toInt (Eq.trans kq43 kq11)) rfl
  have kz56 : ((I38 3 1) : Int32).toInt = (I 3 1).toInt := e55
  have e57 : ((I38 97 8) : Int32).toInt = (I 97 8).toInt := Eq.trans (congrArg Int32.toInt (Eq.trans kq44 kq12)) rfl
  have kz58 : ((I38 97 8) : Int32).toInt = (I 97 8).toInt := e57
  have e59 : ((I38 1 13) : Int32).toInt = (I 1 13).toInt := Eq.trans (congrArg Int32.toInt (Eq.trans kq45 kq13)) rfl
  have kz60 : ((I38 1 13) : Int32).toInt = (I 1 13).toInt := e59
  have e61 : ((I38 97 23) : Int32).toInt = (I 97 23).toInt := Eq.trans (congrArg Int32.toInt (Eq.trans kq46 kq14)) rfl
  have kz62 : ((I38 97 23) : Int32).toInt = (I 97 23).toInt := e61
  exact hN _ _ R hB40 hR0 hF0 ⟨(Eq.trans (e55) (Eq.trans hL0 (Eq.symm (e57)))), (Eq.trans (e59) (Eq.trans hL1 (Eq.symm (e61)))), (RT.kp (RT.kp hL2 k15 k16) k47 k48), trivial⟩ (R3.kp (R3.kp hR3 w18 (by have ya : ((I6 3 1) : Int32).toInt = (I 3 1).toInt := e24; have yb : ((I 3 1) : Int32).toInt = (I 3 1).toInt := rfl; first | exact Int.le_of_eq (ya.trans yb) | exact ya.trans yb | omega)) w50 (by have ya : ((I38 3 1) : Int32).toInt = (I 3 1).toInt := e55; have yb : ((I6 3 1) : Int32).toInt = (I 3 1).toInt := e24; first | exact Int.le_of_eq (ya.trans yb) | exact ya.trans yb | omega)) (RM.kp hR0 (RM.kp hR0 hRM ⟨w19, w20, (fun j _ => congrFun w21.1 j)⟩) ⟨w51, w52, (fun j _ => congrFun w53.1 j)⟩) trivial (W9.kp hR0 (W9.kp hR0 hW9 w22 w21.1 w19.2) w54 w53.1 w51.2)
set_option maxRecDepth 100000 in
set_option maxHeartbeats 2000000 in
theorem lc_6 {Q : Nat → Qt} {P : Kt} {L : Nat} {xs : Nat → Int32} (hc : Cl (AM 640) false true L xs 2 112 kL_law Q P) (hL : L ≤ 3584) {v3 : Int32} {I : Im} {J : Jm} {R : Rm} (hB0 : Bd I) (hR0 : RI R) (hF0 : Fl R) (hL0 : (I 3 1).toInt = (I 97 8).toInt) (hL1 : (I 1 13).toInt = (I 97 23).toInt) (hL2 : RT I) (hL3 : True) (hR3 : R3 I J) (hRM : RM I J R) (hFQ : True) (hW9 : W9 I R) (h0 : 0 ≤ v3.toInt) (h7 : v3.toInt + 7 ≤ (L : Int)) (hN : ∀ (I : Im) (J : Jm) (R : Rm), Bd I → RI R → Fl R → RLz I → R3 I J → RM I J R → True → W9 I R → P 1889 112 [(0, .ref 0), (1, .ref 1), (2, .ref 97), (3, .int v3)] [] I J R) : P 432 112 [(0, .ref 0), (1, .ref 1), (2, .ref 97), (3, .int v3)] [] I J R := by
  have i_v3 := i32 v3
  have e97 : I 97 8 = nI (fl I) := (Int32.toInt_inj.mp hL0).symm.trans (fl_bd hB0).1
  have b31 := Bd.o hB0 io9_112_3_6 bd9_6_1
  refine ls_432 hc v3 _ _ _ ?_
  have e1 : ((v3 + 1) : Int32).toInt = (v3.toInt) + (1) := ti_add rfl rfl (by omega)
  refine ⟨vp_of (a := (v3.toInt + 1)) e1 (by omega) (by omega), ?_⟩
  have z2 := i32 (xs (Int32.toNatClampNeg (v3 + 1)))
  have e3 : ((v3 + 2) : Int32).toInt = (v3.toInt) + (2) := ti_add rfl rfl (by omega)
  refine ⟨vp_of (a := (v3.toInt + 2)) e3 (by omega) (by omega), ?_⟩
  have z4 := i32 (xs (Int32.toNatClampNeg (v3 + 2)))
  have e5 : ((v3 + 3) : Int32).toInt = (v3.toInt) + (3) := ti_add rfl rfl (by omega)
  refine ⟨vp_of (a := (v3.toInt + 3)) e5 (by omega) (by omega), ?_⟩
  have z6 := i32 (xs (Int32.toNatClampNeg (v3 + 3)))
  have e7 : ((v3 + 4) : Int32).toInt = (v3.toInt) + (4) := ti_add rfl rfl (by omega)
  refine ⟨vp_of (a := (v3.toInt + 4)) e7 (by omega) (by omega), ?_⟩
  have z8 := i32 (xs (Int32.toNatClampNeg (v3 + 4)))
  have e9 : ((v3 + 5) : Int32).toInt = (v3.toInt) + (5) := ti_add rfl rfl (by omega)
  refine ⟨vp_of (a := (v3.toInt + 5)) e9 (by omega) (by omega), ?_⟩
  have z10 := i32 (xs (Int32.toNatClampNeg (v3 + 5)))
  refine ⟨⟨hF0, rfl⟩, ?_⟩
  refine kp7 rfl hR0 rfl (kpA rfl (kpnm rfl hR0 rfl (kp102 rfl hR0 rfl (kpW9 rfl hR0 rfl (kp6 rfl hR0 rfl (kp4 rfl (kp5 rfl hR0 rfl (kp0 rfl (kp1 rfl (kp2 rfl (kp3 rfl (sp_X11_pour hB0 hR0 (fun x11 y16 I12 J13 hB14 p15 kq20 kq19 kq18 kq17 k22 k21 k23 w28 w27 w26 w25 w24 => ?_)))))))))))))
  intro o29
  have i30 := i32 x11
  have b31 := Bd.o hB0 io9_112_3_6 bd9_6_1
  have e32 : ((I12 3 1) : Int32).toInt = (I 3 1).toInt := Eq.trans (congrArg Int32.toInt kq17) rfl
  have kz33 : ((I12 3 1) : Int32).toInt = (I 3 1).toInt := e32
  have b34 := Bd.o hB0 io9_112_97_12 bd9_12_8
  have e35 : ((I12 97 8) : Int32).toInt = (I 97 8).toInt := Eq.trans (congrArg Int32.toInt kq18) rfl
  have kz36 : ((I12 97 8) : Int32).toInt = (I 97 8).toInt := e35
  have b37 := Bd.o hB0 io9_112_1_11 bd9_11_13
  have e38 : ((I12 1 13) : Int32).toInt = (I 1 13).toInt := Eq.trans (congrArg Int32.toInt kq19) rfl
  have kz39 : ((I12 1 13) : Int32).toInt = (I 1 13).toInt := e38
  have b40 := Bd.o hB0 io9_112_97_12 bd9_12_23
  have e41 : ((I12 97 23) : Int32).toInt = (I 97 23).toInt := Eq.trans (congrArg Int32.toInt kq20) rfl
  have kz42 : ((I12 97 23) : Int32).toInt = (I 97 23).toInt := e41
  have hw43 : 0 ≤ ((xs (Int32.toNatClampNeg (v3 + 1))) : Int32).toInt → ((xs (Int32.toNatClampNeg (v3 + 1))) : Int32).toInt ≤ 3 → (I (R 2 (Int32.toNatClampNeg (xs (Int32.toNatClampNeg (v3 + 1))))) 1).toInt = (I12 99 (Int32.toNatClampNeg (xs (Int32.toNatClampNeg (v3 + 1))))).toInt := fun a b => RT.a1 hL2 hR0 k22 a b
  have hw44 : 0 ≤ ((xs (Int32.toNatClampNeg (v3 + 1))) : Int32).toInt → ((xs (Int32.toNatClampNeg (v3 + 1))) : Int32).toInt ≤ 3 → (I (R 2 (Int32.toNatClampNeg (xs (Int32.toNatClampNeg (v3 + 1))))) 0).toInt = (I12 98 (Int32.toNatClampNeg (xs (Int32.toNatClampNeg (v3 + 1))))).toInt := fun a b => RT.a0 hL2 hR0 k22 a b
  have hw45 : 0 ≤ ((xs (Int32.toNatClampNeg (v3 + 3))) : Int32).toInt → ((xs (Int32.toNatClampNeg (v3 + 3))) : Int32).toInt ≤ 3 → (I (R 2 (Int32.toNatClampNeg (xs (Int32.toNatClampNeg (v3 + 3))))) 1).toInt = (I12 99 (Int32.toNatClampNeg (xs (Int32.toNatClampNeg (v3 + 3))))).toInt := fun a b => RT.a1 hL2 hR0 k22 a b
  have hw46 : 0 ≤ ((xs (Int32.toNatClampNeg (v3 + 3))) : Int32).toInt → ((xs (Int32.toNatClampNeg (v3 + 3))) : Int32).toInt ≤ 3 → (I (R 2 (Int32.toNatClampNeg (xs (Int32.toNatClampNeg (v3 + 3))))) 0).toInt = (I12 98 (Int32.toNatClampNeg (xs (Int32.toNatClampNeg (v3 + 3))))).toInt := fun a b => RT.a0 hL2 hR0 k22 a b
  refine ⟨vp_of (a := (v3.toInt + 1)) e1 (by omega) (by omega), ?_⟩
  have z47 := i32 (xs (Int32.toNatClampNeg (v3 + 1)))
  refine ⟨vp_of (a := (v3.toInt + 2)) e3 (by omega) (by omega), ?_⟩
  have z48 := i32 (xs (Int32.toNatClampNeg (v3 + 2)))
  refine ⟨vp_of (a := (v3.toInt + 3)) e5 (by omega) (by omega), ?_⟩
  have z49 := i32 (xs (Int32.toNatClampNeg (v3 + 3)))
  refine ⟨vp_of (a := (v3.toInt + 4)) e7 (by omega) (by omega), ?_⟩
  have z50 := i32 (xs (Int32.toNatClampNeg (v3 + 4)))
  refine ⟨vp_of (a := (v3.toInt + 5)) e9 (by omega) (by omega), ?_⟩
  have z51 := i32 (xs (Int32.toNatClampNeg (v3 + 5)))
  refine ⟨⟨hF0, rfl⟩, ?_⟩
  refine kp7 rfl hR0 rfl (kpA rfl (kpnm rfl hR0 rfl (kp102 rfl hR0 rfl (kpW9 rfl hR0 rfl (kp6 rfl hR0 rfl (kp4 rfl (kp0 rfl (kp1 rfl (kp2 rfl (kp3 rfl (sp_X12_pour hB14 hR0 (fun x52 y57 I53 J54 hB55 p56 kq61 kq60 kq59 kq58 k62 k63 w68 w67 w66 w65 w64 => ?_))))))))))))
  intro o69
  have i70 := i32 x52
  have e71 : ((I53 3 1) : Int32).toInt = (I 3 1).toInt := Eq.trans (congrArg Int32.toInt (Eq.trans kq58 kq17)) rfl
  have kz72 : ((I53 3 1) : Int32).toInt = (I 3 1).toInt := e71
  have e73 : ((I53 97 8) : Int32).toInt = (I 97 8).toInt := Eq.trans (congrArg Int32.toInt (Eq.trans kq59 kq18)) rfl
  have kz74 : ((I53 97 8) : Int32).toInt = (I 97 8).toInt := e73
  have e75 : ((I53 1 13) : Int32).toInt = (I 1 13).toInt := Eq.trans (congrArg Int32.toInt (Eq.trans kq60 kq19)) rfl
  have kz76 : ((I53 1 13) : Int32).toInt = (I 1 13).toInt := e75
  have e77 : ((I53 97 23) : Int32).toInt = (I 97 23).toInt := Eq.trans (congrArg Int32.toInt (Eq.trans kq61 kq20)) rfl
  have kz78 : ((I53 97 23) : Int32).toInt = (I 97 23).toInt := e77
  exact hN _ _ R hB55 hR0 hF0 ⟨(Eq.trans (e71) (Eq.trans hL0 (Eq.symm (e73)))), (Eq.trans (e75) (Eq.trans hL1 (Eq.symm (e77)))), (RT.kp (RT.kp hL2 k21 k22) k62 (p56.2)), trivial⟩ (R3.kp (R3.kp hR3 w24 (by have ya : ((I12 3 1) : Int32).toInt = (I 3 1).toInt := e32; have yb : ((I 3 1) : Int32).toInt = (I 3 1).toInt := rfl; first | exact Int.le_of_eq (ya.trans yb) | exact ya.trans yb | omega)) w64 (by have ya : ((I53 3 1) : Int32).toInt = (I 3 1).toInt := e71; have yb : ((I12 3 1) : Int32).toInt = (I 3 1).toInt := e32; first | exact Int.le_of_eq (ya.trans yb) | exact ya.trans yb | omega)) (RM.kp hR0 (RM.kp hR0 hRM ⟨w25, w26, (fun j _ => congrFun w27.1 j)⟩) ⟨w65, w66, (fun j _ => congrFun w67.1 j)⟩) trivial (W9.kp hR0 (W9.kp hR0 hW9 w28 w27.1 w25.2) w68 w67.1 w65.2)
set_option maxRecDepth 100000 in
set_option maxHeartbeats 2000000 in
theorem lc_7 {Q : Nat → Qt} {P : Kt} {L : Nat} {xs : Nat → Int32} (hc : Cl (AM 640) false true L xs 2 112 kL_law Q P) (hL : L ≤ 3584) {v3 : Int32} {I : Im} {J : Jm} {R : Rm} (hB0 : Bd I) (hR0 : RI R) (hF0 : Fl R) (hL0 : (I 3 1).toInt = (I 97 8).toInt) (hL1 : (I 1 13).toInt = (I 97 23).toInt) (hL2 : RT I) (hL3 : True) (hR3 : R3 I J) (hRM : RM I J R) (hFQ : True) (hW9 : W9 I R) (h0 : 0 ≤ v3.toInt) (h7 : v3.toInt + 7 ≤ (L : Int)) (hN : ∀ (I : Im) (J : Jm) (R : Rm), Bd I → RI R → Fl R → RLz I → R3 I J → RM I J R → True → W9 I R → P 1889 112 [(0, .ref 0), (1, .ref 1), (2, .ref 97), (3, .int v3)] [] I J R) : P 495 112 [(0, .ref 0), (1, .ref 1), (2, .ref 97), (3, .int v3)] [] I J R := by
  have i_v3 := i32 v3
  have e97 : I 97 8 = nI (fl I) := (Int32.toInt_inj.mp hL0).symm.trans (fl_bd hB0).1
  have b31 := Bd.o hB0 io9_112_3_6 bd9_6_1
  refine ls_495 hc v3 _ _ _ ?_
  have e1 : ((v3 + 1) : Int32).toInt = (v3.toInt) + (1) := ti_add rfl rfl (by omega)
  refine ⟨vp_of (a := (v3.toInt + 1)) e1 (by omega) (by omega), ?_⟩
  have z2 := i32 (xs (Int32.toNatClampNeg (v3 + 1)))
  have e3 : ((v3 + 2) : Int32).toInt = (v3.toInt) + (2) := ti_add rfl rfl (by omega)
  refine ⟨vp_of (a := (v3.toInt + 2)) e3 (by omega) (by omega), ?_⟩
  have z4 := i32 (xs (Int32.toNatClampNeg (v3 + 2)))
  have e5 : ((v3 + 3) : Int32).toInt = (v3.toInt) + (3) := ti_add rfl rfl (by omega)
  refine ⟨vp_of (a := (v3.toInt + 3)) e5 (by omega) (by omega), ?_⟩
  have z6 := i32 (xs (Int32.toNatClampNeg (v3 + 3)))
  have e7 : ((v3 + 4) : Int32).toInt = (v3.toInt) + (4) := ti_add rfl rfl (by omega)
  refine ⟨vp_of (a := (v3.toInt + 4)) e7 (by omega) (by omega), ?_⟩
  have z8 := i32 (xs (Int32.toNatClampNeg (v3 + 4)))
  have e9 : ((v3 + 5) : Int32).toInt = (v3.toInt) + (5) := ti_add rfl rfl (by omega)
  refine ⟨vp_of (a := (v3.toInt + 5)) e9 (by omega) (by omega), ?_⟩
  have z10 := i32 (xs (Int32.toNatClampNeg (v3 + 5)))
  refine ⟨⟨hF0, rfl⟩, ?_⟩
  refine kx (cx_feed hB0) (kpA rfl (kpnm rfl hR0 rfl (kp102 rfl hR0 rfl (kpW9 rfl hR0 rfl (kp6 rfl hR0 rfl (kp4 rfl (kp5 rfl hR0 rfl (kp1 rfl (kp2 rfl (kp3 rfl (sp_X11_feed hB0 hR0 (fun x11 y16 I12 J13 hB14 p15 kq19 kq18 kq17 k21 k20 k22 w27 w26 w25 w24 w23 => ?_))))))))))))
  have b28 := Bd.o hB0 io9_112_3_6 bd9_6_1
  have b29 := Bd.o hB14 io9_112_3_6 bd9_6_1
  have i30 := i32 x11
  have b31 := Bd.o hB0 io9_112_97_12 bd9_12_8
  have e32 : ((I12 97 8) : Int32).toInt = (I 97 8).toInt := Eq.trans (congrArg Int32.toInt kq17) rfl
  have kz33 : ((I12 97 8) : Int32).toInt = (I 97 8).toInt := e32
  have b34 := Bd.o hB0 io9_112_1_11 bd9_11_13
  have e35 : ((I12 1 13) : Int32).toInt = (I 1 13).toInt := Eq.trans (congrArg Int32.toInt kq18) rfl
  have kz36 : ((I12 1 13) : Int32).toInt = (I 1 13).toInt := e35
  have b37 := Bd.o hB0 io9_112_97_12 bd9_12_23
  have e38 : ((I12 97 23) : Int32).toInt = (I 97 23).toInt := Eq.trans (congrArg Int32.toInt kq19) rfl
  have kz39 : ((I12 97 23) : Int32).toInt = (I 97 23).toInt := e38
  refine ⟨vp_of (a := (v3.toInt + 1)) e1 (by omega) (by omega), ?_⟩
  have z40 := i32 (xs (Int32.toNatClampNeg (v3 + 1)))
  refine ⟨vp_of (a := (v3.toInt + 2)) e3 (by omega) (by omega), ?_⟩
  have z41 := i32 (xs (Int32.toNatClampNeg (v3 + 2)))
  refine ⟨vp_of (a := (v3.toInt + 3)) e5 (by omega) (by omega), ?_⟩
  have z42 := i32 (xs (Int32.toNatClampNeg (v3 + 3)))
  refine ⟨vp_of (a := (v3.toInt + 4)) e7 (by omega) (by omega), ?_⟩
  have z43 := i32 (xs (Int32.toNatClampNeg (v3 + 4)))
  refine ⟨vp_of (a := (v3.toInt + 5)) e9 (by omega) (by omega), ?_⟩
  have z44 := i32 (xs (Int32.toNatClampNeg (v3 + 5)))
  refine ⟨⟨hF0, rfl⟩, ?_⟩
  refine kx (mx_feed (f := fl I) ((w23.2.2.2).trans e97) (fl_bd hB0).2) (kpA rfl (kpnm rfl hR0 rfl (kp102 rfl hR0 rfl (kpW9 rfl hR0 rfl (kp6 rfl hR0 rfl (kp4 rfl (kp5 rfl hR0 rfl (kp0 rfl (kp2 rfl (kp3 rfl (sp_X12_feed hB14 hR0 (fun x45 y50 I46 J47 hB48 p49 kq53 kq52 kq51 k55 k54 k56 w61 w60 w59 w58 w57 => ?_))))))))))))
  have b62 := Bd.o hB48 io9_112_97_12 bd9_12_8
  have i63 := i32 x45
  have e64 : ((I46 3 1) : Int32).toInt = (I12 3 1).toInt := Eq.trans (congrArg Int32.toInt kq51) rfl
  have kz65 : ((I46 3 1) : Int32).toInt = (I12 3 1).toInt := e64
  have e66 : ((I46 1 13) : Int32).toInt = (I 1 13).toInt := Eq.trans (congrArg Int32.toInt (Eq.trans kq52 kq18)) rfl
  have kz67 : ((I46 1 13) : Int32).toInt = (I 1 13).toInt := e66
  have e68 : ((I46 97 23) : Int32).toInt = (I 97 23).toInt := Eq.trans (congrArg Int32.toInt (Eq.trans kq53 kq19)) rfl
  have kz69 : ((I46 97 23) : Int32).toInt = (I 97 23).toInt := e68
  have hr70 := R3.feed hR3 rfl w23 w57
  have hg71 : (x45 : Int32).toInt = (x11 : Int32).toInt := congrArg Int32.toInt hr70.2
  exact hN _ _ R hB48 hR0 hF0 ⟨(by have ya : ((I46 3 1) : Int32).toInt = (I12 3 1).toInt := e64; have yb : ((I46 97 8) : Int32).toInt = (I46 97 8).toInt := rfl; first | exact Int.le_of_eq (ya.trans yb) | exact ya.trans yb | omega), (Eq.trans (e66) (Eq.trans hL1 (Eq.symm (e68)))), (RT.kp (RT.kp hL2 k20 k21) k54 k55), trivial⟩ (hr70.1) (RM.kp hR0 (RM.kp hR0 hRM ⟨w24, w25, (fun j _ => congrFun w26.1 j)⟩) ⟨w58, w59, (fun j _ => congrFun w60.1 j)⟩) trivial (W9.kp hR0 (W9.kp hR0 hW9 w27 w26.1 w24.2) w61 w60.1 w58.2)
set_option maxRecDepth 100000 in
set_option maxHeartbeats 2000000 in
theorem lc_8 {Q : Nat → Qt} {P : Kt} {L : Nat} {xs : Nat → Int32} (hc : Cl (AM 640) false true L xs 2 112 kL_law Q P) (hL : L ≤ 3584) {v3 : Int32} {I : Im} {J : Jm} {R : Rm} (hB0 : Bd I) (hR0 : RI R) (hF0 : Fl R) (hL0 : (I 3 1).toInt = (I 97 8).toInt) (hL1 : (I 1 13).toInt = (I 97 23).toInt) (hL2 : RT I) (hL3 : True) (hR3 : R3 I J) (hRM : RM I J R) (hFQ : True) (hW9 : W9 I R) (h0 : 0 ≤ v3.toInt) (h7 : v3.toInt + 7 ≤ (L : Int)) (hN : ∀ (I : Im) (J : Jm) (R : Rm), Bd I → RI R → Fl R → RLz I → R3 I J → RM I J R → True → W9 I R → P 1889 112 [(0, .ref 0), (1, .ref 1), (2, .ref 97), (3, .int v3)] [] I J R) : P 558 112 [(0, .ref 0), (1, .ref 1), (2, .ref 97), (3, .int v3)] [] I J R := by
  have i_v3 := i32 v3
  have e97 : I 97 8 = nI (fl I) := (Int32.toInt_inj.mp hL0).symm.trans (fl_bd hB0).1
  have b31 := Bd.o hB0 io9_112_3_6 bd9_6_1
  refine ls_558 hc v3 _ _ _ ?_
  have e1 : ((v3 + 1) : Int32).toInt = (v3.toInt) + (1) := ti_add rfl rfl (by omega)
  refine ⟨vp_of (a := (v3.toInt + 1)) e1 (by omega) (by omega), ?_⟩
  have z2 := i32 (xs (Int32.toNatClampNeg (v3 + 1)))
  refine ⟨⟨hF0, rfl⟩, ?_⟩
  refine kx (cx_bakery hB0 hR0 hR3) (kx (cx_bakM hB0 hR0 hR3) (kx (cx_bak9 hB0 hR0 hR3) (kp6 rfl hR0 rfl (kp4 rfl (kp5 rfl hR0 rfl (kp1 rfl (kp2 rfl (kp3 rfl (sp_X11_bakery hB0 hR0 (fun x3 y4 I5 J6 R7 hB8 hR9 hL10 p11 kq14 kq13 kq12 k16 k15 k17 w20 w19 w18 => ?_))))))))))
  have b21 := Bd.o hB8 io9_112_3_6 bd9_6_1
  have b22 := Bd.o hB0 io9_112_97_12 bd9_12_8
  have e23 : ((I5 97 8) : Int32).toInt = (I 97 8).toInt := Eq.trans (congrArg Int32.toInt kq12) rfl
  have kz24 : ((I5 97 8) : Int32).toInt = (I 97 8).toInt := e23
  have b25 := Bd.o hB0 io9_112_1_11 bd9_11_13
  have e26 : ((I5 1 13) : Int32).toInt = (I 1 13).toInt := Eq.trans (congrArg Int32.toInt kq13) rfl
  have kz27 : ((I5 1 13) : Int32).toInt = (I 1 13).toInt := e26
  have b28 := Bd.o hB0 io9_112_97_12 bd9_12_23
  have e29 : ((I5 97 23) : Int32).toInt = (I 97 23).toInt := Eq.trans (congrArg Int32.toInt kq14) rfl
  have kz30 : ((I5 97 23) : Int32).toInt = (I 97 23).toInt := e29
  refine ⟨vp_of (a := (v3.toInt + 1)) e1 (by omega) (by omega), ?_⟩
  have z31 := i32 (xs (Int32.toNatClampNeg (v3 + 1)))
  refine ⟨⟨(hL10 hF0), rfl⟩, ?_⟩
  refine kx (mx_bakery (f := fl I) (T := I 4) ((kq12).trans e97) (fl_bd hB0).2 hR3.1 (fun i hi => (congrFun w18.2.2.1 i).trans (hR3.2.1 i hi).symm)) (kx (mx_bakM (f := fl I) (T := I 4) ((kq12).trans e97) (fl_bd hB0).2 hR3.1 (fun i hi => (congrFun w18.2.2.1 i).trans (hR3.2.1 i hi).symm)) (kx (mx_bak9 (f := fl I) (T := I 4) hR0 hW9 ((kq12).trans e97) (fl_bd hB0).2 hR3.1 (fun i hi => (congrFun w18.2.2.1 i).trans (hR3.2.1 i hi).symm) w20) (kp6 rfl hR9 rfl (kp4 rfl (kp5 rfl hR9 rfl (kp0 rfl (kp2 rfl (kp3 rfl (sp_X12_bakery hB8 hR9 (fun x32 y37 I33 J34 hB35 p36 kq40 kq39 kq38 k42 k41 k43 w46 w45 w44 => ?_))))))))))
  have b47 := Bd.o hB35 io9_112_97_12 bd9_12_8
  have i48 := i32 x32
  have e49 : ((I33 3 1) : Int32).toInt = (I5 3 1).toInt := Eq.trans (congrArg Int32.toInt kq38) rfl
  have kz50 : ((I33 3 1) : Int32).toInt = (I5 3 1).toInt := e49
  have e51 : ((I33 1 13) : Int32).toInt = (I 1 13).toInt := Eq.trans (congrArg Int32.toInt (Eq.trans kq39 kq13)) rfl
  have kz52 : ((I33 1 13) : Int32).toInt = (I 1 13).toInt := e51
  have e53 : ((I33 97 23) : Int32).toInt = (I 97 23).toInt := Eq.trans (congrArg Int32.toInt (Eq.trans kq40 kq14)) rfl
  have kz54 : ((I33 97 23) : Int32).toInt = (I 97 23).toInt := e53
  have hr55 := HB.eq (fl_bd hB0).2 w18.1 w44.1
  have hg56 : (x32 : Int32).toInt = (x3 : Int32).toInt := congrArg Int32.toInt hr55
  have hr57 := RM.bak (fl_bd hB0).2 hR0 hRM w19 w45
  exact hN _ _ R7 hB35 hR9 (hL10 hF0) ⟨(by have ya : ((I33 3 1) : Int32).toInt = (I5 3 1).toInt := e49; have yb : ((I33 97 8) : Int32).toInt = (I33 97 8).toInt := rfl; first | exact Int.le_of_eq (ya.trans yb) | exact ya.trans yb | omega), (Eq.trans (e51) (Eq.trans hL1 (Eq.symm (e53)))), (RT.kp (RT.kp hL2 k15 k16) k41 k42), trivial⟩ (R3.kp (R3.kp hR3 w18.2 (HB.le (b31.1) w18.1)) w44.2.1 (Int.le_of_eq (congrArg Int32.toInt w44.2.2))) hr57 trivial (w46 rfl)
set_option maxRecDepth 100000 in
set_option maxHeartbeats 2000000 in
theorem lc_9 {Q : Nat → Qt} {P : Kt} {L : Nat} {xs : Nat → Int32} (hc : Cl (AM 640) false true L xs 2 112 kL_law Q P) (hL : L ≤ 3584) {v3 : Int32} {I : Im} {J : Jm} {R : Rm} (hB0 : Bd I) (hR0 : RI R) (hF0 : Fl R) (hL0 : (I 3 1).toInt = (I 97 8).toInt) (hL1 : (I 1 13).toInt = (I 97 23).toInt) (hL2 : RT I) (hL3 : True) (hR3 : R3 I J) (hRM : RM I J R) (hFQ : True) (hW9 : W9 I R) (h0 : 0 ≤ v3.toInt) (h7 : v3.toInt + 7 ≤ (L : Int)) (hN : ∀ (I : Im) (J : Jm) (R : Rm), Bd I → RI R → Fl R → RLz I → R3 I J → RM I J R → True → W9 I R → P 1889 112 [(0, .ref 0), (1, .ref 1), (2, .ref 97), (3, .int v3)] [] I J R) : P 581 112 [(0, .ref 0), (1, .ref 1), (2, .ref 97), (3, .int v3)] [] I J R := by
  have i_v3 := i32 v3
  have e97 : I 97 8 = nI (fl I) := (Int32.toInt_inj.mp hL0).symm.trans (fl_bd hB0).1
  have b31 := Bd.o hB0 io9_112_3_6 bd9_6_1
  refine ls_581 hc v3 _ _ _ ?_
  have e1 : ((v3 + 1) : Int32).toInt = (v3.toInt) + (1) := ti_add rfl rfl (by omega)
  refine ⟨vp_of (a := (v3.toInt + 1)) e1 (by omega) (by omega), ?_⟩
  have z2 := i32 (xs (Int32.toNatClampNeg (v3 + 1)))
  refine ⟨⟨hF0, rfl⟩, ?_⟩
  refine kt7 rfl (kpA rfl (kpnm rfl hR0 rfl (kp102 rfl hR0 rfl (kx (cx_day9 hB0 hR0 hR3 (RM.mnA hB0 hRM)) (kp6 rfl hR0 rfl (kp4 rfl (kp5 rfl hR0 rfl (kp1 rfl (kp2 rfl (kp3 rfl (sp_X11_days hB0 hR0 (fun x3 y4 I5 J6 R7 hB8 hR9 hL10 p11 rr23 kq14 kq13 kq12 k16 k15 k17 w22 w21 w20 w19 w18 => ?_))))))))))))
  have b24 := Bd.o hB8 io9_112_3_6 bd9_6_1
  have b25 := Bd.o hB0 io9_112_97_12 bd9_12_8
  have e26 : ((I5 97 8) : Int32).toInt = (I 97 8).toInt := Eq.trans (congrArg Int32.toInt kq12) rfl
  have kz27 : ((I5 97 8) : Int32).toInt = (I 97 8).toInt := e26
  have b28 := Bd.o hB0 io9_112_1_11 bd9_11_13
  have e29 : ((I5 1 13) : Int32).toInt = (I 1 13).toInt := Eq.trans (congrArg Int32.toInt kq13) rfl
  have kz30 : ((I5 1 13) : Int32).toInt = (I 1 13).toInt := e29
  have b31 := Bd.o hB0 io9_112_97_12 bd9_12_23
  have e32 : ((I5 97 23) : Int32).toInt = (I 97 23).toInt := Eq.trans (congrArg Int32.toInt kq14) rfl
  have kz33 : ((I5 97 23) : Int32).toInt = (I 97 23).toInt := e32
  refine ⟨vp_of (a := (v3.toInt + 1)) e1 (by omega) (by omega), ?_⟩
  have z34 := i32 (xs (Int32.toNatClampNeg (v3 + 1)))
  refine ⟨⟨(hL10 hF0), rfl⟩, ?_⟩
  refine kt7 rfl (kpA rfl (kpnm rfl hR9 rfl (kx (mx_day9 (f := fl I) (T := I 4) hR0 hW9 ((kq12).trans e97) (fl_bd hB0).2 hR3.1 (fun i hi => (congrFun w18.2.1 i).trans (hR3.2.1 i hi).symm) (RM.mnR hB0 (congrFun w21.1 0) (w20.2.2.2.2.2)) w22) (kp6 rfl hR9 rfl (kp4 rfl (kp5 rfl hR9 rfl (kp0 rfl (kp2 rfl (kp3 rfl (sp_X12_days hB8 hR9 (fun x35 y40 I36 J37 hB38 p39 kq43 kq42 kq41 k45 k44 k46 w50 w49 w48 w47 => ?_)))))))))))
  have f51 : Fr pK I5 I36 := p39.1
  have b52 := Bd.o hB38 io9_112_97_12 bd9_12_8
  have i53 := i32 x35
  have e54 : ((I36 3 1) : Int32).toInt = (I5 3 1).toInt := Eq.trans (congrArg Int32.toInt kq41) rfl
  have kz55 : ((I36 3 1) : Int32).toInt = (I5 3 1).toInt := e54
  have e56 : ((I36 1 13) : Int32).toInt = (I 1 13).toInt := Eq.trans (congrArg Int32.toInt (Eq.trans kq42 kq13)) rfl
  have kz57 : ((I36 1 13) : Int32).toInt = (I 1 13).toInt := e56
  have e58 : ((I36 97 23) : Int32).toInt = (I 97 23).toInt := Eq.trans (congrArg Int32.toInt (Eq.trans kq43 kq14)) rfl
  have kz59 : ((I36 97 23) : Int32).toInt = (I 97 23).toInt := e58
  exact hN _ _ R7 hB38 hR9 (hL10 hF0) ⟨(by have ya : ((I36 3 1) : Int32).toInt = (I5 3 1).toInt := e54; have yb : ((I36 97 8) : Int32).toInt = (I36 97 8).toInt := rfl; first | exact Int.le_of_eq (ya.trans yb) | exact ya.trans yb | omega), (Eq.trans (e56) (Eq.trans hL1 (Eq.symm (e58)))), (RT.kp (RT.kp hL2 k15 k16) k44 k45), trivial⟩ (R3.kp (R3.kp hR3 w18 (by have := p11; omega)) w47 (by have ya : ((I36 3 1) : Int32).toInt = (I5 3 1).toInt := e54; have yb : ((I5 3 1) : Int32).toInt = (I5 3 1).toInt := rfl; first | exact Int.le_of_eq (ya.trans yb) | exact ya.trans yb | omega)) (RM.kp hR9 (RM.r (RM.kp hR0 hRM ⟨w19, w20, (fun j _ => congrFun w21.1 j)⟩) rr23.1) ⟨w48, w49, (fun j hj => f51.1 j hj)⟩) trivial (w50 rfl)
set_option maxRecDepth 100000 in
set_option maxHeartbeats 2000000 in
theorem lc_10 {Q : Nat → Qt} {P : Kt} {L : Nat} {xs : Nat → Int32} (hc : Cl (AM 640) false true L xs 2 112 kL_law Q P) (hL : L ≤ 3584) {v3 : Int32} {I : Im} {J : Jm} {R : Rm} (hB0 : Bd I) (hR0 : RI R) (hF0 : Fl R) (hL0 : (I 3 1).toInt = (I 97 8).toInt) (hL1 : (I 1 13).toInt = (I 97 23).toInt) (hL2 : RT I) (hL3 : True) (hR3 : R3 I J) (hRM : RM I J R) (hFQ : True) (hW9 : W9 I R) (h0 : 0 ≤ v3.toInt) (h7 : v3.toInt + 7 ≤ (L : Int)) (hN : ∀ (I : Im) (J : Jm) (R : Rm), Bd I → RI R → Fl R → RLz I → R3 I J → RM I J R → True → W9 I R → P 1889 112 [(0, .ref 0), (1, .ref 1), (2, .ref 97), (3, .int v3)] [] I J R) : P 604 112 [(0, .ref 0), (1, .ref 1), (2, .ref 97), (3, .int v3)] [] I J R := by
  have i_v3 := i32 v3
  have e97 : I 97 8 = nI (fl I) := (Int32.toInt_inj.mp hL0).symm.trans (fl_bd hB0).1
  have b31 := Bd.o hB0 io9_112_3_6 bd9_6_1
  refine ls_604 hc v3 _ _ _ ?_
  have e1 : ((v3 + 1) : Int32).toInt = (v3.toInt) + (1) := ti_add rfl rfl (by omega)
  refine ⟨vp_of (a := (v3.toInt + 1)) e1 (by omega) (by omega), ?_⟩
  have z2 := i32 (xs (Int32.toNatClampNeg (v3 + 1)))
  refine ⟨⟨hF0, rfl⟩, ?_⟩
  refine kp7 rfl hR0 rfl (kpA rfl (kpnm rfl hR0 rfl (kp102 rfl hR0 rfl (kpW9 rfl hR0 rfl (kp6 rfl hR0 rfl (kp4 rfl (kp5 rfl hR0 rfl (kp0 rfl (kp1 rfl (kp2 rfl (kp3 rfl (sp_X11_fault hB0 hR0 (fun x3 y8 I4 J5 hB6 p7 kq12 kq11 kq10 kq9 k14 k13 k15 w20 w19 w18 w17 w16 => ?_)))))))))))))
  have i21 := i32 x3
  have b22 := Bd.o hB0 io9_112_3_6 bd9_6_1
  have e23 : ((I4 3 1) : Int32).toInt = (I 3 1).toInt := Eq.trans (congrArg Int32.toInt kq9) rfl
  have kz24 : ((I4 3 1) : Int32).toInt = (I 3 1).toInt := e23
  have b25 := Bd.o hB0 io9_112_97_12 bd9_12_8
  have e26 : ((I4 97 8) : Int32).toInt = (I 97 8).toInt := Eq.trans (congrArg Int32.toInt kq10) rfl
  have kz27 : ((I4 97 8) : Int32).toInt = (I 97 8).toInt := e26
  have b28 := Bd.o hB0 io9_112_1_11 bd9_11_13
  have e29 : ((I4 1 13) : Int32).toInt = (I 1 13).toInt := Eq.trans (congrArg Int32.toInt kq11) rfl
  have kz30 : ((I4 1 13) : Int32).toInt = (I 1 13).toInt := e29
  have b31 := Bd.o hB0 io9_112_97_12 bd9_12_23
  have e32 : ((I4 97 23) : Int32).toInt = (I 97 23).toInt := Eq.trans (congrArg Int32.toInt kq12) rfl
  have kz33 : ((I4 97 23) : Int32).toInt = (I 97 23).toInt := e32
  refine ⟨vp_of (a := (v3.toInt + 1)) e1 (by omega) (by omega), ?_⟩
  have z34 := i32 (xs (Int32.toNatClampNeg (v3 + 1)))
  refine ⟨⟨hF0, rfl⟩, ?_⟩
  refine kp7 rfl hR0 rfl (kpA rfl (kpnm rfl hR0 rfl (kp102 rfl hR0 rfl (kpW9 rfl hR0 rfl (kp6 rfl hR0 rfl (kp4 rfl (kp5 rfl hR0 rfl (kp0 rfl (kp1 rfl (kp2 rfl (kp3 rfl (sp_X12_fault hB6 hR0 (fun x35 y40 I36 J37 hB38 p39 kq44 kq43 kq42 kq41 k46 k45 k47 w52 w51 w50 w49 w48 => ?_)))))))))))))
  have i53 := i32 x35
  have e54 : ((I36 3 1) : Int32).toInt = (I 3 1).toInt := Eq.trans (congrArg Int32.toInt (Eq.trans kq41 kq9)) rfl
  have kz55 : ((I36 3 1) : Int32).toInt = (I 3 1).toInt := e54
  have e56 : ((I36 97 8) : Int32).toInt = (I 97 8).toInt := Eq.trans (congrArg Int32.toInt (Eq.trans kq42 kq10)) rfl
  have kz57 : ((I36 97 8) : Int32).toInt = (I 97 8).toInt := e56
  have e58 : ((I36 1 13) : Int32).toInt = (I 1 13).toInt := Eq.trans (congrArg Int32.toInt (Eq.trans kq43 kq11)) rfl
  have kz59 : ((I36 1 13) : Int32).toInt = (I 1 13).toInt := e58
  have e60 : ((I36 97 23) : Int32).toInt = (I 97 23).toInt := Eq.trans (congrArg Int32.toInt (Eq.trans kq44 kq12)) rfl
  have kz61 : ((I36 97 23) : Int32).toInt = (I 97 23).toInt := e60
  exact hN _ _ R hB38 hR0 hF0 ⟨(Eq.trans (e54) (Eq.trans hL0 (Eq.symm (e56)))), (Eq.trans (e58) (Eq.trans hL1 (Eq.symm (e60)))), (RT.kp (RT.kp hL2 k13 k14) k45 k46), trivial⟩ (R3.kp (R3.kp hR3 w16 (by have ya : ((I4 3 1) : Int32).toInt = (I 3 1).toInt := e23; have yb : ((I 3 1) : Int32).toInt = (I 3 1).toInt := rfl; first | exact Int.le_of_eq (ya.trans yb) | exact ya.trans yb | omega)) w48 (by have ya : ((I36 3 1) : Int32).toInt = (I 3 1).toInt := e54; have yb : ((I4 3 1) : Int32).toInt = (I 3 1).toInt := e23; first | exact Int.le_of_eq (ya.trans yb) | exact ya.trans yb | omega)) (RM.kp hR0 (RM.kp hR0 hRM ⟨w17, w18, (fun j _ => congrFun w19.1 j)⟩) ⟨w49, w50, (fun j _ => congrFun w51.1 j)⟩) trivial (W9.kp hR0 (W9.kp hR0 hW9 w20 w19.1 w17.2) w52 w51.1 w49.2)
set_option maxRecDepth 100000 in
set_option maxHeartbeats 2000000 in
theorem lc_11 {Q : Nat → Qt} {P : Kt} {L : Nat} {xs : Nat → Int32} (hc : Cl (AM 640) false true L xs 2 112 kL_law Q P) (hL : L ≤ 3584) {v3 : Int32} {I : Im} {J : Jm} {R : Rm} (hB0 : Bd I) (hR0 : RI R) (hF0 : Fl R) (hL0 : (I 3 1).toInt = (I 97 8).toInt) (hL1 : (I 1 13).toInt = (I 97 23).toInt) (hL2 : RT I) (hL3 : True) (hR3 : R3 I J) (hRM : RM I J R) (hFQ : True) (hW9 : W9 I R) (h0 : 0 ≤ v3.toInt) (h7 : v3.toInt + 7 ≤ (L : Int)) (hN : ∀ (I : Im) (J : Jm) (R : Rm), Bd I → RI R → Fl R → RLz I → R3 I J → RM I J R → True → W9 I R → P 1889 112 [(0, .ref 0), (1, .ref 1), (2, .ref 97), (3, .int v3)] [] I J R) : P 627 112 [(0, .ref 0), (1, .ref 1), (2, .ref 97), (3, .int v3)] [] I J R := by
  have i_v3 := i32 v3
  have e97 : I 97 8 = nI (fl I) := (Int32.toInt_inj.mp hL0).symm.trans (fl_bd hB0).1
  have b31 := Bd.o hB0 io9_112_3_6 bd9_6_1
  refine ls_627 hc v3 _ _ _ ?_
  have e1 : ((v3 + 1) : Int32).toInt = (v3.toInt) + (1) := ti_add rfl rfl (by omega)
  refine ⟨vp_of (a := (v3.toInt + 1)) e1 (by omega) (by omega), ?_⟩
  have z2 := i32 (xs (Int32.toNatClampNeg (v3 + 1)))
  refine ⟨⟨hF0, rfl⟩, ?_⟩
  refine kp7 rfl hR0 rfl (kpA rfl (kpnm rfl hR0 rfl (kp102 rfl hR0 rfl (kpW9 rfl hR0 rfl (kp6 rfl hR0 rfl (kp4 rfl (kp5 rfl hR0 rfl (kp0 rfl (kp1 rfl (kp2 rfl (kp3 rfl (sp_X11_many hB0 hR0 (fun x3 y8 I4 J5 hB6 p7 kq12 kq11 kq10 kq9 k14 k13 k15 w20 w19 w18 w17 w16 => ?_)))))))))))))
  have i21 := i32 x3
  have b22 := Bd.o hB0 io9_112_3_6 bd9_6_1
  have e23 : ((I4 3 1) : Int32).toInt = (I 3 1).toInt := Eq.trans (congrArg Int32.toInt kq9) rfl
  have kz24 : ((I4 3 1) : Int32).toInt = (I 3 1).toInt := e23
  have b25 := Bd.o hB0 io9_112_97_12 bd9_12_8
  have e26 : ((I4 97 8) : Int32).toInt = (I 97 8).toInt := Eq.trans (congrArg Int32.toInt kq10) rfl
  have kz27 : ((I4 97 8) : Int32).toInt = (I 97 8).toInt := e26
  have b28 := Bd.o hB0 io9_112_1_11 bd9_11_13
  have e29 : ((I4 1 13) : Int32).toInt = (I 1 13).toInt := Eq.trans (congrArg Int32.toInt kq11) rfl
  have kz30 : ((I4 1 13) : Int32).toInt = (I 1 13).toInt := e29
  have b31 := Bd.o hB0 io9_112_97_12 bd9_12_23
  have e32 : ((I4 97 23) : Int32).toInt = (I 97 23).toInt := Eq.trans (congrArg Int32.toInt kq12) rfl
  have kz33 : ((I4 97 23) : Int32).toInt = (I 97 23).toInt := e32
  refine ⟨vp_of (a := (v3.toInt + 1)) e1 (by omega) (by omega), ?_⟩
  have z34 := i32 (xs (Int32.toNatClampNeg (v3 + 1)))
  refine ⟨⟨hF0, rfl⟩, ?_⟩
  refine kp7 rfl hR0 rfl (kpA rfl (kpnm rfl hR0 rfl (kti rfl (kpW9 rfl hR0 rfl (kp6 rfl hR0 rfl (kp4 rfl (kp5 rfl hR0 rfl (kp0 rfl (kp1 rfl (kp2 rfl (kp3 rfl (sp_X12_many hB6 hR0 (fun x35 y40 I36 J37 hB38 p39 kq44 kq43 kq42 kq41 k46 k45 k47 w52 w51 w50 w49 w48 => ?_)))))))))))))
  have i53 := i32 x35
  have e54 : ((I36 3 1) : Int32).toInt = (I 3 1).toInt := Eq.trans (congrArg Int32.toInt (Eq.trans kq41 kq9)) rfl
  have kz55 : ((I36 3 1) : Int32).toInt = (I 3 1).toInt := e54
  have e56 : ((I36 97 8) : Int32).toInt = (I 97 8).toInt := Eq.trans (congrArg Int32.toInt (Eq.trans kq42 kq10)) rfl
  have kz57 : ((I36 97 8) : Int32).toInt = (I 97 8).toInt := e56
  have e58 : ((I36 1 13) : Int32).toInt = (I 1 13).toInt := Eq.trans (congrArg Int32.toInt (Eq.trans kq43 kq11)) rfl
  have kz59 : ((I36 1 13) : Int32).toInt = (I 1 13).toInt := e58
  have e60 : ((I36 97 23) : Int32).toInt = (I 97 23).toInt := Eq.trans (congrArg Int32.toInt (Eq.trans kq44 kq12)) rfl
  have kz61 : ((I36 97 23) : Int32).toInt = (I 97 23).toInt := e60
  exact hN _ _ R hB38 hR0 hF0 ⟨(Eq.trans (e54) (Eq.trans hL0 (Eq.symm (e56)))), (Eq.trans (e58) (Eq.trans hL1 (Eq.symm (e60)))), (RT.kp (RT.kp hL2 k13 k14) k45 k46), trivial⟩ (R3.kp (R3.kp hR3 w16 (by have ya : ((I4 3 1) : Int32).toInt = (I 3 1).toInt := e23; have yb : ((I 3 1) : Int32).toInt = (I 3 1).toInt := rfl; first | exact Int.le_of_eq (ya.trans yb) | exact ya.trans yb | omega)) w48 (by have ya : ((I36 3 1) : Int32).toInt = (I 3 1).toInt := e54; have yb : ((I4 3 1) : Int32).toInt = (I 3 1).toInt := e23; first | exact Int.le_of_eq (ya.trans yb) | exact ya.trans yb | omega)) (RM.kp hR0 (RM.kp hR0 hRM ⟨w17, w18, (fun j _ => congrFun w19.1 j)⟩) ⟨w49, w50, (fun j _ => congrFun w51 j)⟩) trivial (W9.kp hR0 (W9.kp hR0 hW9 w20 w19.1 w17.2) w52 w51 w49.2)
set_option maxRecDepth 100000 in
set_option maxHeartbeats 2000000 in
theorem lc_12 {Q : Nat → Qt} {P : Kt} {L : Nat} {xs : Nat → Int32} (hc : Cl (AM 640) false true L xs 2 112 kL_law Q P) (hL : L ≤ 3584) {v3 : Int32} {I : Im} {J : Jm} {R : Rm} (hB0 : Bd I) (hR0 : RI R) (hF0 : Fl R) (hL0 : (I 3 1).toInt = (I 97 8).toInt) (hL1 : (I 1 13).toInt = (I 97 23).toInt) (hL2 : RT I) (hL3 : True) (hR3 : R3 I J) (hRM : RM I J R) (hFQ : True) (hW9 : W9 I R) (h0 : 0 ≤ v3.toInt) (h7 : v3.toInt + 7 ≤ (L : Int)) (hN : ∀ (I : Im) (J : Jm) (R : Rm), Bd I → RI R → Fl R → RLz I → R3 I J → RM I J R → True → W9 I R → P 1889 112 [(0, .ref 0), (1, .ref 1), (2, .ref 97), (3, .int v3)] [] I J R) : P 650 112 [(0, .ref 0), (1, .ref 1), (2, .ref 97), (3, .int v3)] [] I J R := by
  have i_v3 := i32 v3
  have e97 : I 97 8 = nI (fl I) := (Int32.toInt_inj.mp hL0).symm.trans (fl_bd hB0).1
  have b31 := Bd.o hB0 io9_112_3_6 bd9_6_1
  refine ls_650 hc v3 _ _ _ ?_
  have e1 : ((v3 + 1) : Int32).toInt = (v3.toInt) + (1) := ti_add rfl rfl (by omega)
  refine ⟨vp_of (a := (v3.toInt + 1)) e1 (by omega) (by omega), ?_⟩
  have z2 := i32 (xs (Int32.toNatClampNeg (v3 + 1)))
  refine ⟨⟨hF0, rfl⟩, ?_⟩
  refine kp7 rfl hR0 rfl (kpA rfl (kpnm rfl hR0 rfl (kp102 rfl hR0 rfl (kpX9 rfl rfl (kp6 rfl hR0 rfl (kp4 rfl (kp5 rfl hR0 rfl (kp0 rfl (kp1 rfl (kp2 rfl (kp3 rfl (sp_X11_store hB0 hR0 (fun x3 y8 I4 J5 hB6 p7 kq12 kq11 kq10 kq9 k14 k13 k15 w20 w19 w18 w17 w16 => ?_)))))))))))))
  have i21 := i32 x3
  have b22 := Bd.o hB0 io9_112_3_6 bd9_6_1
  have e23 : ((I4 3 1) : Int32).toInt = (I 3 1).toInt := Eq.trans (congrArg Int32.toInt kq9) rfl
  have kz24 : ((I4 3 1) : Int32).toInt = (I 3 1).toInt := e23
  have b25 := Bd.o hB0 io9_112_97_12 bd9_12_8
  have e26 : ((I4 97 8) : Int32).toInt = (I 97 8).toInt := Eq.trans (congrArg Int32.toInt kq10) rfl
  have kz27 : ((I4 97 8) : Int32).toInt = (I 97 8).toInt := e26
  have b28 := Bd.o hB0 io9_112_1_11 bd9_11_13
  have e29 : ((I4 1 13) : Int32).toInt = (I 1 13).toInt := Eq.trans (congrArg Int32.toInt kq11) rfl
  have kz30 : ((I4 1 13) : Int32).toInt = (I 1 13).toInt := e29
  have b31 := Bd.o hB0 io9_112_97_12 bd9_12_23
  have e32 : ((I4 97 23) : Int32).toInt = (I 97 23).toInt := Eq.trans (congrArg Int32.toInt kq12) rfl
  have kz33 : ((I4 97 23) : Int32).toInt = (I 97 23).toInt := e32
  refine ⟨vp_of (a := (v3.toInt + 1)) e1 (by omega) (by omega), ?_⟩
  have z34 := i32 (xs (Int32.toNatClampNeg (v3 + 1)))
  refine ⟨⟨hF0, rfl⟩, ?_⟩
  refine kp7 rfl hR0 rfl (kpA rfl (kpnm rfl hR0 rfl (kti rfl (kpW9 rfl hR0 rfl (kp6 rfl hR0 rfl (kp4 rfl (kp5 rfl hR0 rfl (kp0 rfl (kp1 rfl (kp2 rfl (kp3 rfl (sp_X12_store hB6 hR0 (fun x35 y40 I36 J37 hB38 p39 kq44 kq43 kq42 kq41 k46 k45 k47 w52 w51 w50 w49 w48 => ?_)))))))))))))
  have i53 := i32 x35
  have e54 : ((I36 3 1) : Int32).toInt = (I 3 1).toInt := Eq.trans (congrArg Int32.toInt (Eq.trans kq41 kq9)) rfl
  have kz55 : ((I36 3 1) : Int32).toInt = (I 3 1).toInt := e54
  have e56 : ((I36 97 8) : Int32).toInt = (I 97 8).toInt := Eq.trans (congrArg Int32.toInt (Eq.trans kq42 kq10)) rfl
  have kz57 : ((I36 97 8) : Int32).toInt = (I 97 8).toInt := e56
  have e58 : ((I36 1 13) : Int32).toInt = (I 1 13).toInt := Eq.trans (congrArg Int32.toInt (Eq.trans kq43 kq11)) rfl
  have kz59 : ((I36 1 13) : Int32).toInt = (I 1 13).toInt := e58
  have e60 : ((I36 97 23) : Int32).toInt = (I 97 23).toInt := Eq.trans (congrArg Int32.toInt (Eq.trans kq44 kq12)) rfl
  have kz61 : ((I36 97 23) : Int32).toInt = (I 97 23).toInt := e60
  exact hN _ _ R hB38 hR0 hF0 ⟨(Eq.trans (e54) (Eq.trans hL0 (Eq.symm (e56)))), (Eq.trans (e58) (Eq.trans hL1 (Eq.symm (e60)))), (RT.kp (RT.kp hL2 k13 k14) k45 k46), trivial⟩ (R3.kp (R3.kp hR3 w16 (by have ya : ((I4 3 1) : Int32).toInt = (I 3 1).toInt := e23; have yb : ((I 3 1) : Int32).toInt = (I 3 1).toInt := rfl; first | exact Int.le_of_eq (ya.trans yb) | exact ya.trans yb | omega)) w48 (by have ya : ((I36 3 1) : Int32).toInt = (I 3 1).toInt := e54; have yb : ((I4 3 1) : Int32).toInt = (I 3 1).toInt := e23; first | exact Int.le_of_eq (ya.trans yb) | exact ya.trans yb | omega)) (RM.kp hR0 (RM.kp hR0 hRM ⟨w17, w18, (fun j _ => congrFun w19.1 j)⟩) ⟨w49, w50, (fun j _ => congrFun w51 j)⟩) trivial (W9.kp hR0 (W9.kp hR0 hW9 w20 w19.1 w17.2) w52 w51 w49.2)
set_option maxRecDepth 100000 in
set_option maxHeartbeats 2000000 in
theorem lc_13 {Q : Nat → Qt} {P : Kt} {L : Nat} {xs : Nat → Int32} (hc : Cl (AM 640) false true L xs 2 112 kL_law Q P) (hL : L ≤ 3584) {v3 : Int32} {I : Im} {J : Jm} {R : Rm} (hB0 : Bd I) (hR0 : RI R) (hF0 : Fl R) (hL0 : (I 3 1).toInt = (I 97 8).toInt) (hL1 : (I 1 13).toInt = (I 97 23).toInt) (hL2 : RT I) (hL3 : True) (hR3 : R3 I J) (hRM : RM I J R) (hFQ : True) (hW9 : W9 I R) (h0 : 0 ≤ v3.toInt) (h7 : v3.toInt + 7 ≤ (L : Int)) (hN : ∀ (I : Im) (J : Jm) (R : Rm), Bd I → RI R → Fl R → RLz I → R3 I J → RM I J R → True → W9 I R → P 1889 112 [(0, .ref 0), (1, .ref 1), (2, .ref 97), (3, .int v3)] [] I J R) : P 673 112 [(0, .ref 0), (1, .ref 1), (2, .ref 97), (3, .int v3)] [] I J R := by
  have i_v3 := i32 v3
  have e97 : I 97 8 = nI (fl I) := (Int32.toInt_inj.mp hL0).symm.trans (fl_bd hB0).1
  have b31 := Bd.o hB0 io9_112_3_6 bd9_6_1
  refine ls_673 hc v3 _ _ _ ?_
  have e1 : ((v3 + 1) : Int32).toInt = (v3.toInt) + (1) := ti_add rfl rfl (by omega)
  refine ⟨vp_of (a := (v3.toInt + 1)) e1 (by omega) (by omega), ?_⟩
  have z2 := i32 (xs (Int32.toNatClampNeg (v3 + 1)))
  have e3 : ((v3 + 2) : Int32).toInt = (v3.toInt) + (2) := ti_add rfl rfl (by omega)
  refine ⟨vp_of (a := (v3.toInt + 2)) e3 (by omega) (by omega), ?_⟩
  have z4 := i32 (xs (Int32.toNatClampNeg (v3 + 2)))
  refine ⟨⟨hF0, rfl⟩, ?_⟩
  refine kp7 rfl hR0 rfl (kpA rfl (kpnm rfl hR0 rfl (kp102 rfl hR0 rfl (kpX9 rfl rfl (kp6 rfl hR0 rfl (kp4 rfl (kp5 rfl hR0 rfl (kp0 rfl (kp1 rfl (kp2 rfl (kp3 rfl (sp_X11_man hB0 hR0 (fun x5 y10 I6 J7 hB8 p9 kq14 kq13 kq12 kq11 k16 k15 k17 w22 w21 w20 w19 w18 => ?_)))))))))))))
  have i23 := i32 x5
  have b24 := Bd.o hB0 io9_112_3_6 bd9_6_1
  have e25 : ((I6 3 1) : Int32).toInt = (I 3 1).toInt := Eq.trans (congrArg Int32.toInt kq11) rfl
  have kz26 : ((I6 3 1) : Int32).toInt = (I 3 1).toInt := e25
  have b27 := Bd.o hB0 io9_112_97_12 bd9_12_8
  have e28 : ((I6 97 8) : Int32).toInt = (I 97 8).toInt := Eq.trans (congrArg Int32.toInt kq12) rfl
  have kz29 : ((I6 97 8) : Int32).toInt = (I 97 8).toInt := e28
  have b30 := Bd.o hB0 io9_112_1_11 bd9_11_13
  have e31 : ((I6 1 13) : Int32).toInt = (I 1 13).toInt := Eq.trans (congrArg Int32.toInt kq13) rfl
  have kz32 : ((I6 1 13) : Int32).toInt = (I 1 13).toInt := e31
  have b33 := Bd.o hB0 io9_112_97_12 bd9_12_23
  have e34 : ((I6 97 23) : Int32).toInt = (I 97 23).toInt := Eq.trans (congrArg Int32.toInt kq14) rfl
  have kz35 : ((I6 97 23) : Int32).toInt = (I 97 23).toInt := e34
  refine ⟨vp_of (a := (v3.toInt + 1)) e1 (by omega) (by omega), ?_⟩
  have z36 := i32 (xs (Int32.toNatClampNeg (v3 + 1)))
  refine ⟨vp_of (a := (v3.toInt + 2)) e3 (by omega) (by omega), ?_⟩
  have z37 := i32 (xs (Int32.toNatClampNeg (v3 + 2)))
  refine ⟨⟨hF0, rfl⟩, ?_⟩
  refine kp7 rfl hR0 rfl (kpA rfl (kpnm rfl hR0 rfl (kti rfl (kpW9 rfl hR0 rfl (kp6 rfl hR0 rfl (kp4 rfl (kp5 rfl hR0 rfl (kp0 rfl (kp1 rfl (kp2 rfl (kp3 rfl (sp_X12_man hB8 hR0 (fun x38 y43 I39 J40 hB41 p42 kq47 kq46 kq45 kq44 k49 k48 k50 w55 w54 w53 w52 w51 => ?_)))))))))))))
  have i56 := i32 x38
  have e57 : ((I39 3 1) : Int32).toInt = (I 3 1).toInt := Eq.trans (congrArg Int32.toInt (Eq.trans kq44 kq11)) rfl
  have kz58 : ((I39 3 1) : Int32).toInt = (I 3 1).toInt := e57
  have e59 : ((I39 97 8) : Int32).toInt = (I 97 8).toInt := Eq.trans (congrArg Int32.toInt (Eq.trans kq45 kq12)) rfl
  have kz60 : ((I39 97 8) : Int32).toInt = (I 97 8).toInt := e59
  have e61 : ((I39 1 13) : Int32).toInt = (I 1 13).toInt := Eq.trans (congrArg Int32.toInt (Eq.trans kq46 kq13)) rfl
  have kz62 : ((I39 1 13) : Int32).toInt = (I 1 13).toInt := e61
  have e63 : ((I39 97 23) : Int32).toInt = (I 97 23).toInt := Eq.trans (congrArg Int32.toInt (Eq.trans kq47 kq14)) rfl
  have kz64 : ((I39 97 23) : Int32).toInt = (I 97 23).toInt := e63
  exact hN _ _ R hB41 hR0 hF0 ⟨(Eq.trans (e57) (Eq.trans hL0 (Eq.symm (e59)))), (Eq.trans (e61) (Eq.trans hL1 (Eq.symm (e63)))), (RT.kp (RT.kp hL2 k15 k16) k48 k49), trivial⟩ (R3.kp (R3.kp hR3 w18 (by have ya : ((I6 3 1) : Int32).toInt = (I 3 1).toInt := e25; have yb : ((I 3 1) : Int32).toInt = (I 3 1).toInt := rfl; first | exact Int.le_of_eq (ya.trans yb) | exact ya.trans yb | omega)) w51 (by have ya : ((I39 3 1) : Int32).toInt = (I 3 1).toInt := e57; have yb : ((I6 3 1) : Int32).toInt = (I 3 1).toInt := e25; first | exact Int.le_of_eq (ya.trans yb) | exact ya.trans yb | omega)) (RM.kp hR0 (RM.kp hR0 hRM ⟨w19, w20, (fun j _ => congrFun w21.1 j)⟩) ⟨w52, w53, (fun j _ => congrFun w54 j)⟩) trivial (W9.kp hR0 (W9.kp hR0 hW9 w22 w21.1 w19.2) w55 w54 w52.2)
set_option maxRecDepth 100000 in
set_option maxHeartbeats 2000000 in
theorem lc_14 {Q : Nat → Qt} {P : Kt} {L : Nat} {xs : Nat → Int32} (hc : Cl (AM 640) false true L xs 2 112 kL_law Q P) (hL : L ≤ 3584) {v3 : Int32} {I : Im} {J : Jm} {R : Rm} (hB0 : Bd I) (hR0 : RI R) (hF0 : Fl R) (hL0 : (I 3 1).toInt = (I 97 8).toInt) (hL1 : (I 1 13).toInt = (I 97 23).toInt) (hL2 : RT I) (hL3 : True) (hR3 : R3 I J) (hRM : RM I J R) (hFQ : True) (hW9 : W9 I R) (h0 : 0 ≤ v3.toInt) (h7 : v3.toInt + 7 ≤ (L : Int)) (hN : ∀ (I : Im) (J : Jm) (R : Rm), Bd I → RI R → Fl R → RLz I → R3 I J → RM I J R → True → W9 I R → P 1889 112 [(0, .ref 0), (1, .ref 1), (2, .ref 97), (3, .int v3)] [] I J R) : P 706 112 [(0, .ref 0), (1, .ref 1), (2, .ref 97), (3, .int v3)] [] I J R := by
  have i_v3 := i32 v3
  have e97 : I 97 8 = nI (fl I) := (Int32.toInt_inj.mp hL0).symm.trans (fl_bd hB0).1
  have b31 := Bd.o hB0 io9_112_3_6 bd9_6_1
  refine ls_706 hc v3 _ _ _ ?_
  have e1 : ((v3 + 1) : Int32).toInt = (v3.toInt) + (1) := ti_add rfl rfl (by omega)
  refine ⟨vp_of (a := (v3.toInt + 1)) e1 (by omega) (by omega), ?_⟩
  have z2 := i32 (xs (Int32.toNatClampNeg (v3 + 1)))
  refine ⟨⟨hF0, rfl⟩, ?_⟩
  refine kp7 rfl hR0 rfl (kpA rfl (kpnm rfl hR0 rfl (kp102 rfl hR0 rfl (kpW9 rfl hR0 rfl (kp6 rfl hR0 rfl (kp4 rfl (kp5 rfl hR0 rfl (kp0 rfl (kp1 rfl (kp2 rfl (kp3 rfl (sp_X11_has hB0 hR0 (fun x3 y8 I4 J5 hB6 p7 kq12 kq11 kq10 kq9 k14 k13 k15 w20 w19 w18 w17 w16 => ?_)))))))))))))
  intro o21
  have i22 := i32 x3
  have b23 := Bd.o hB0 io9_112_3_6 bd9_6_1
  have e24 : ((I4 3 1) : Int32).toInt = (I 3 1).toInt := Eq.trans (congrArg Int32.toInt kq9) rfl
  have kz25 : ((I4 3 1) : Int32).toInt = (I 3 1).toInt := e24
  have b26 := Bd.o hB0 io9_112_97_12 bd9_12_8
  have e27 : ((I4 97 8) : Int32).toInt = (I 97 8).toInt := Eq.trans (congrArg Int32.toInt kq10) rfl
  have kz28 : ((I4 97 8) : Int32).toInt = (I 97 8).toInt := e27
  have b29 := Bd.o hB0 io9_112_1_11 bd9_11_13
  have e30 : ((I4 1 13) : Int32).toInt = (I 1 13).toInt := Eq.trans (congrArg Int32.toInt kq11) rfl
  have kz31 : ((I4 1 13) : Int32).toInt = (I 1 13).toInt := e30
  have b32 := Bd.o hB0 io9_112_97_12 bd9_12_23
  have e33 : ((I4 97 23) : Int32).toInt = (I 97 23).toInt := Eq.trans (congrArg Int32.toInt kq12) rfl
  have kz34 : ((I4 97 23) : Int32).toInt = (I 97 23).toInt := e33
  refine ⟨vp_of (a := (v3.toInt + 1)) e1 (by omega) (by omega), ?_⟩
  have z35 := i32 (xs (Int32.toNatClampNeg (v3 + 1)))
  refine ⟨⟨hF0, rfl⟩, ?_⟩
  refine kp7 rfl hR0 rfl (kpA rfl (kpnm rfl hR0 rfl (kti rfl (kpW9 rfl hR0 rfl (kp6 rfl hR0 rfl (kp4 rfl (kp5 rfl hR0 rfl (kp0 rfl (kp1 rfl (kp2 rfl (kp3 rfl (sp_X12_has hB6 hR0 (fun x36 y41 I37 J38 hB39 p40 kq45 kq44 kq43 kq42 k47 k46 k48 w53 w52 w51 w50 w49 => ?_)))))))))))))
  intro o54
  have i55 := i32 x36
  have e56 : ((I37 3 1) : Int32).toInt = (I 3 1).toInt := Eq.trans (congrArg Int32.toInt (Eq.trans kq42 kq9)) rfl
  have kz57 : ((I37 3 1) : Int32).toInt = (I 3 1).toInt := e56
  have e58 : ((I37 97 8) : Int32).toInt = (I 97 8).toInt := Eq.trans (congrArg Int32.toInt (Eq.trans kq43 kq10)) rfl
  have kz59 : ((I37 97 8) : Int32).toInt = (I 97 8).toInt := e58
  have e60 : ((I37 1 13) : Int32).toInt = (I 1 13).toInt := Eq.trans (congrArg Int32.toInt (Eq.trans kq44 kq11)) rfl
  have kz61 : ((I37 1 13) : Int32).toInt = (I 1 13).toInt := e60
  have e62 : ((I37 97 23) : Int32).toInt = (I 97 23).toInt := Eq.trans (congrArg Int32.toInt (Eq.trans kq45 kq12)) rfl
  have kz63 : ((I37 97 23) : Int32).toInt = (I 97 23).toInt := e62
  exact hN _ _ R hB39 hR0 hF0 ⟨(Eq.trans (e56) (Eq.trans hL0 (Eq.symm (e58)))), (Eq.trans (e60) (Eq.trans hL1 (Eq.symm (e62)))), (RT.kp (RT.kp hL2 k13 k14) k46 k47), trivial⟩ (R3.kp (R3.kp hR3 w16 (by have ya : ((I4 3 1) : Int32).toInt = (I 3 1).toInt := e24; have yb : ((I 3 1) : Int32).toInt = (I 3 1).toInt := rfl; first | exact Int.le_of_eq (ya.trans yb) | exact ya.trans yb | omega)) w49 (by have ya : ((I37 3 1) : Int32).toInt = (I 3 1).toInt := e56; have yb : ((I4 3 1) : Int32).toInt = (I 3 1).toInt := e24; first | exact Int.le_of_eq (ya.trans yb) | exact ya.trans yb | omega)) (RM.kp hR0 (RM.kp hR0 hRM ⟨w17, w18, (fun j _ => congrFun w19.1 j)⟩) ⟨w50, w51, (fun j _ => congrFun w52 j)⟩) trivial (W9.kp hR0 (W9.kp hR0 hW9 w20 w19.1 w17.2) w53 w52 w50.2)
set_option maxRecDepth 100000 in
set_option maxHeartbeats 2000000 in
theorem lc_15 {Q : Nat → Qt} {P : Kt} {L : Nat} {xs : Nat → Int32} (hc : Cl (AM 640) false true L xs 2 112 kL_law Q P) (hL : L ≤ 3584) {v3 : Int32} {I : Im} {J : Jm} {R : Rm} (hB0 : Bd I) (hR0 : RI R) (hF0 : Fl R) (hL0 : (I 3 1).toInt = (I 97 8).toInt) (hL1 : (I 1 13).toInt = (I 97 23).toInt) (hL2 : RT I) (hL3 : True) (hR3 : R3 I J) (hRM : RM I J R) (hFQ : True) (hW9 : W9 I R) (h0 : 0 ≤ v3.toInt) (h7 : v3.toInt + 7 ≤ (L : Int)) (hN : ∀ (I : Im) (J : Jm) (R : Rm), Bd I → RI R → Fl R → RLz I → R3 I J → RM I J R → True → W9 I R → P 1889 112 [(0, .ref 0), (1, .ref 1), (2, .ref 97), (3, .int v3)] [] I J R) : P 729 112 [(0, .ref 0), (1, .ref 1), (2, .ref 97), (3, .int v3)] [] I J R := by
  have i_v3 := i32 v3
  have e97 : I 97 8 = nI (fl I) := (Int32.toInt_inj.mp hL0).symm.trans (fl_bd hB0).1
  have b31 := Bd.o hB0 io9_112_3_6 bd9_6_1
  refine ls_729 hc v3 _ _ _ ?_
  have e1 : ((v3 + 1) : Int32).toInt = (v3.toInt) + (1) := ti_add rfl rfl (by omega)
  refine ⟨vp_of (a := (v3.toInt + 1)) e1 (by omega) (by omega), ?_⟩
  have z2 := i32 (xs (Int32.toNatClampNeg (v3 + 1)))
  refine ⟨⟨hF0, rfl⟩, ?_⟩
  refine kp7 rfl hR0 rfl (kpA rfl (kpnm rfl hR0 rfl (kp102 rfl hR0 rfl (kpW9 rfl hR0 rfl (kp6 rfl hR0 rfl (kp4 rfl (kp5 rfl hR0 rfl (kp0 rfl (kp1 rfl (kp2 rfl (kp3 rfl (sp_X11_lacks hB0 hR0 (fun x3 y8 I4 J5 hB6 p7 kq12 kq11 kq10 kq9 k14 k13 k15 w20 w19 w18 w17 w16 => ?_)))))))))))))
  intro o21
  have i22 := i32 x3
  have b23 := Bd.o hB0 io9_112_3_6 bd9_6_1
  have e24 : ((I4 3 1) : Int32).toInt = (I 3 1).toInt := Eq.trans (congrArg Int32.toInt kq9) rfl
  have kz25 : ((I4 3 1) : Int32).toInt = (I 3 1).toInt := e24
  have b26 := Bd.o hB0 io9_112_97_12 bd9_12_8
  have e27 : ((I4 97 8) : Int32).toInt = (I 97 8).toInt := Eq.trans (congrArg Int32.toInt kq10) rfl
  have kz28 : ((I4 97 8) : Int32).toInt = (I 97 8).toInt := e27
  have b29 := Bd.o hB0 io9_112_1_11 bd9_11_13
  have e30 : ((I4 1 13) : Int32).toInt = (I 1 13).toInt := Eq.trans (congrArg Int32.toInt kq11) rfl
  have kz31 : ((I4 1 13) : Int32).toInt = (I 1 13).toInt := e30
  have b32 := Bd.o hB0 io9_112_97_12 bd9_12_23
  have e33 : ((I4 97 23) : Int32).toInt = (I 97 23).toInt := Eq.trans (congrArg Int32.toInt kq12) rfl
  have kz34 : ((I4 97 23) : Int32).toInt = (I 97 23).toInt := e33
  refine ⟨vp_of (a := (v3.toInt + 1)) e1 (by omega) (by omega), ?_⟩
  have z35 := i32 (xs (Int32.toNatClampNeg (v3 + 1)))
  refine ⟨⟨hF0, rfl⟩, ?_⟩
  refine kp7 rfl hR0 rfl (kpA rfl (kpnm rfl hR0 rfl (kp102 rfl hR0 rfl (kpW9 rfl hR0 rfl (kp6 rfl hR0 rfl (kp4 rfl (kp5 rfl hR0 rfl (kp0 rfl (kp1 rfl (kp2 rfl (kp3 rfl (sp_X12_lacks hB6 hR0 (fun x36 y41 I37 J38 hB39 p40 kq45 kq44 kq43 kq42 k47 k46 k48 w53 w52 w51 w50 w49 => ?_)))))))))))))
  intro o54
  have i55 := i32 x36
  have e56 : ((I37 3 1) : Int32).toInt = (I 3 1).toInt := Eq.trans (congrArg Int32.toInt (Eq.trans kq42 kq9)) rfl
  have kz57 : ((I37 3 1) : Int32).toInt = (I 3 1).toInt := e56
  have e58 : ((I37 97 8) : Int32).toInt = (I 97 8).toInt := Eq.trans (congrArg Int32.toInt (Eq.trans kq43 kq10)) rfl
  have kz59 : ((I37 97 8) : Int32).toInt = (I 97 8).toInt := e58
  have e60 : ((I37 1 13) : Int32).toInt = (I 1 13).toInt := Eq.trans (congrArg Int32.toInt (Eq.trans kq44 kq11)) rfl
  have kz61 : ((I37 1 13) : Int32).toInt = (I 1 13).toInt := e60
  have e62 : ((I37 97 23) : Int32).toInt = (I 97 23).toInt := Eq.trans (congrArg Int32.toInt (Eq.trans kq45 kq12)) rfl
  have kz63 : ((I37 97 23) : Int32).toInt = (I 97 23).toInt := e62
  exact hN _ _ R hB39 hR0 hF0 ⟨(Eq.trans (e56) (Eq.trans hL0 (Eq.symm (e58)))), (Eq.trans (e60) (Eq.trans hL1 (Eq.symm (e62)))), (RT.kp (RT.kp hL2 k13 k14) k46 k47), trivial⟩ (R3.kp (R3.kp hR3 w16 (by have ya : ((I4 3 1) : Int32).toInt = (I 3 1).toInt := e24; have yb : ((I 3 1) : Int32).toInt = (I 3 1).toInt := rfl; first | exact Int.le_of_eq (ya.trans yb) | exact ya.trans yb | omega)) w49 (by have ya : ((I37 3 1) : Int32).toInt = (I 3 1).toInt := e56; have yb : ((I4 3 1) : Int32).toInt = (I 3 1).toInt := e24; first | exact Int.le_of_eq (ya.trans yb) | exact ya.trans yb | omega)) (RM.kp hR0 (RM.kp hR0 hRM ⟨w17, w18, (fun j _ => congrFun w19.1 j)⟩) ⟨w50, w51, (fun j _ => congrFun w52.1 j)⟩) trivial (W9.kp hR0 (W9.kp hR0 hW9 w20 w19.1 w17.2) w53 w52.1 w50.2)
set_option maxRecDepth 100000 in
set_option maxHeartbeats 2000000 in
theorem lc_16 {Q : Nat → Qt} {P : Kt} {L : Nat} {xs : Nat → Int32} (hc : Cl (AM 640) false true L xs 2 112 kL_law Q P) (hL : L ≤ 3584) {v3 : Int32} {I : Im} {J : Jm} {R : Rm} (hB0 : Bd I) (hR0 : RI R) (hF0 : Fl R) (hL0 : (I 3 1).toInt = (I 97 8).toInt) (hL1 : (I 1 13).toInt = (I 97 23).toInt) (hL2 : RT I) (hL3 : True) (hR3 : R3 I J) (hRM : RM I J R) (hFQ : True) (hW9 : W9 I R) (h0 : 0 ≤ v3.toInt) (h7 : v3.toInt + 7 ≤ (L : Int)) (hN : ∀ (I : Im) (J : Jm) (R : Rm), Bd I → RI R → Fl R → RLz I → R3 I J → RM I J R → True → W9 I R → P 1889 112 [(0, .ref 0), (1, .ref 1), (2, .ref 97), (3, .int v3)] [] I J R) : P 752 112 [(0, .ref 0), (1, .ref 1), (2, .ref 97), (3, .int v3)] [] I J R := by
  have i_v3 := i32 v3
  have e97 : I 97 8 = nI (fl I) := (Int32.toInt_inj.mp hL0).symm.trans (fl_bd hB0).1
  have b31 := Bd.o hB0 io9_112_3_6 bd9_6_1
  refine ls_752 hc v3 _ _ _ ?_
  refine ⟨⟨hF0, rfl⟩, ?_⟩
  refine kp7 rfl hR0 rfl (kpA rfl (kpnm rfl hR0 rfl (kp102 rfl hR0 rfl (kpW9 rfl hR0 rfl (kp6 rfl hR0 rfl (kp4 rfl (kp5 rfl hR0 rfl (kp0 rfl (kp1 rfl (kp2 rfl (kp3 rfl (sp_X11_worth hB0 hR0 (fun x1 y6 I2 J3 hB4 p5 kq10 kq9 kq8 kq7 k12 k11 k13 w18 w17 w16 w15 w14 => ?_)))))))))))))
  intro o19
  have i20 := i32 x1
  have b21 := Bd.o hB0 io9_112_3_6 bd9_6_1
  have e22 : ((I2 3 1) : Int32).toInt = (I 3 1).toInt := Eq.trans (congrArg Int32.toInt kq7) rfl
  have kz23 : ((I2 3 1) : Int32).toInt = (I 3 1).toInt := e22
  have b24 := Bd.o hB0 io9_112_97_12 bd9_12_8
  have e25 : ((I2 97 8) : Int32).toInt = (I 97 8).toInt := Eq.trans (congrArg Int32.toInt kq8) rfl
  have kz26 : ((I2 97 8) : Int32).toInt = (I 97 8).toInt := e25
  have b27 := Bd.o hB0 io9_112_1_11 bd9_11_13
  have e28 : ((I2 1 13) : Int32).toInt = (I 1 13).toInt := Eq.trans (congrArg Int32.toInt kq9) rfl
  have kz29 : ((I2 1 13) : Int32).toInt = (I 1 13).toInt := e28
  have b30 := Bd.o hB0 io9_112_97_12 bd9_12_23
  have e31 : ((I2 97 23) : Int32).toInt = (I 97 23).toInt := Eq.trans (congrArg Int32.toInt kq10) rfl
  have kz32 : ((I2 97 23) : Int32).toInt = (I 97 23).toInt := e31
  refine ⟨⟨hF0, rfl⟩, ?_⟩
  refine kp7 rfl hR0 rfl (kpA rfl (kpnm rfl hR0 rfl (kti rfl (kpW9 rfl hR0 rfl (kp6 rfl hR0 rfl (kp4 rfl (kp5 rfl hR0 rfl (kp0 rfl (kp1 rfl (kp2 rfl (kp3 rfl (sp_X12_worth hB4 hR0 (fun x33 y38 I34 J35 hB36 p37 kq42 kq41 kq40 kq39 k44 k43 k45 w50 w49 w48 w47 w46 => ?_)))))))))))))
  intro o51
  have i52 := i32 x33
  have e53 : ((I34 3 1) : Int32).toInt = (I 3 1).toInt := Eq.trans (congrArg Int32.toInt (Eq.trans kq39 kq7)) rfl
  have kz54 : ((I34 3 1) : Int32).toInt = (I 3 1).toInt := e53
  have e55 : ((I34 97 8) : Int32).toInt = (I 97 8).toInt := Eq.trans (congrArg Int32.toInt (Eq.trans kq40 kq8)) rfl
  have kz56 : ((I34 97 8) : Int32).toInt = (I 97 8).toInt := e55
  have e57 : ((I34 1 13) : Int32).toInt = (I 1 13).toInt := Eq.trans (congrArg Int32.toInt (Eq.trans kq41 kq9)) rfl
  have kz58 : ((I34 1 13) : Int32).toInt = (I 1 13).toInt := e57
  have e59 : ((I34 97 23) : Int32).toInt = (I 97 23).toInt := Eq.trans (congrArg Int32.toInt (Eq.trans kq42 kq10)) rfl
  have kz60 : ((I34 97 23) : Int32).toInt = (I 97 23).toInt := e59
  exact hN _ _ R hB36 hR0 hF0 ⟨(Eq.trans (e53) (Eq.trans hL0 (Eq.symm (e55)))), (Eq.trans (e57) (Eq.trans hL1 (Eq.symm (e59)))), (RT.kp (RT.kp hL2 k11 k12) k43 k44), trivial⟩ (R3.kp (R3.kp hR3 w14 (by have ya : ((I2 3 1) : Int32).toInt = (I 3 1).toInt := e22; have yb : ((I 3 1) : Int32).toInt = (I 3 1).toInt := rfl; first | exact Int.le_of_eq (ya.trans yb) | exact ya.trans yb | omega)) w46 (by have ya : ((I34 3 1) : Int32).toInt = (I 3 1).toInt := e53; have yb : ((I2 3 1) : Int32).toInt = (I 3 1).toInt := e22; first | exact Int.le_of_eq (ya.trans yb) | exact ya.trans yb | omega)) (RM.kp hR0 (RM.kp hR0 hRM ⟨w15, w16, (fun j _ => congrFun w17.1 j)⟩) ⟨w47, w48, (fun j _ => congrFun w49 j)⟩) trivial (W9.kp hR0 (W9.kp hR0 hW9 w18 w17.1 w15.2) w50 w49 w47.2)
set_option maxRecDepth 100000 in
set_option maxHeartbeats 2000000 in
theorem lc_17 {Q : Nat → Qt} {P : Kt} {L : Nat} {xs : Nat → Int32} (hc : Cl (AM 640) false true L xs 2 112 kL_law Q P) (hL : L ≤ 3584) {v3 : Int32} {I : Im} {J : Jm} {R : Rm} (hB0 : Bd I) (hR0 : RI R) (hF0 : Fl R) (hL0 : (I 3 1).toInt = (I 97 8).toInt) (hL1 : (I 1 13).toInt = (I 97 23).toInt) (hL2 : RT I) (hL3 : True) (hR3 : R3 I J) (hRM : RM I J R) (hFQ : True) (hW9 : W9 I R) (h0 : 0 ≤ v3.toInt) (h7 : v3.toInt + 7 ≤ (L : Int)) (hN : ∀ (I : Im) (J : Jm) (R : Rm), Bd I → RI R → Fl R → RLz I → R3 I J → RM I J R → True → W9 I R → P 1889 112 [(0, .ref 0), (1, .ref 1), (2, .ref 97), (3, .int v3)] [] I J R) : P 765 112 [(0, .ref 0), (1, .ref 1), (2, .ref 97), (3, .int v3)] [] I J R := by
  have i_v3 := i32 v3
  have e97 : I 97 8 = nI (fl I) := (Int32.toInt_inj.mp hL0).symm.trans (fl_bd hB0).1
  have b31 := Bd.o hB0 io9_112_3_6 bd9_6_1
  refine ls_765 hc v3 _ _ _ ?_
  have e1 : ((v3 + 1) : Int32).toInt = (v3.toInt) + (1) := ti_add rfl rfl (by omega)
  refine ⟨vp_of (a := (v3.toInt + 1)) e1 (by omega) (by omega), ?_⟩
  have z2 := i32 (xs (Int32.toNatClampNeg (v3 + 1)))
  have e3 : ((v3 + 2) : Int32).toInt = (v3.toInt) + (2) := ti_add rfl rfl (by omega)
  refine ⟨vp_of (a := (v3.toInt + 2)) e3 (by omega) (by omega), ?_⟩
  have z4 := i32 (xs (Int32.toNatClampNeg (v3 + 2)))
  refine ⟨⟨hF0, rfl⟩, ?_⟩
  refine kp7 rfl hR0 rfl (kpA rfl (kpnm rfl hR0 rfl (kp102 rfl hR0 rfl (kpX9 rfl rfl (kp6 rfl hR0 rfl (kp4 rfl (kp5 rfl hR0 rfl (kp0 rfl (kp1 rfl (kp2 rfl (kp3 rfl (sp_X11_copyStore hB0 hR0 (fun x5 y10 I6 J7 hB8 p9 kq14 kq13 kq12 kq11 k16 k15 k17 w22 w21 w20 w19 w18 => ?_)))))))))))))
  have i23 := i32 x5
  have b24 := Bd.o hB0 io9_112_3_6 bd9_6_1
  have e25 : ((I6 3 1) : Int32).toInt = (I 3 1).toInt := Eq.trans (congrArg Int32.toInt kq11) rfl
  have kz26 : ((I6 3 1) : Int32).toInt = (I 3 1).toInt := e25
  have b27 := Bd.o hB0 io9_112_97_12 bd9_12_8
  have e28 : ((I6 97 8) : Int32).toInt = (I 97 8).toInt := Eq.trans (congrArg Int32.toInt kq12) rfl
  have kz29 : ((I6 97 8) : Int32).toInt = (I 97 8).toInt := e28
  have b30 := Bd.o hB0 io9_112_1_11 bd9_11_13
  have e31 : ((I6 1 13) : Int32).toInt = (I 1 13).toInt := Eq.trans (congrArg Int32.toInt kq13) rfl
  have kz32 : ((I6 1 13) : Int32).toInt = (I 1 13).toInt := e31
  have b33 := Bd.o hB0 io9_112_97_12 bd9_12_23
  have e34 : ((I6 97 23) : Int32).toInt = (I 97 23).toInt := Eq.trans (congrArg Int32.toInt kq14) rfl
  have kz35 : ((I6 97 23) : Int32).toInt = (I 97 23).toInt := e34
  have hw36 : 0 ≤ ((xs (Int32.toNatClampNeg (v3 + 1))) : Int32).toInt → ((xs (Int32.toNatClampNeg (v3 + 1))) : Int32).toInt ≤ 3 → (I (R 2 (Int32.toNatClampNeg (xs (Int32.toNatClampNeg (v3 + 1))))) 1).toInt = (I6 99 (Int32.toNatClampNeg (xs (Int32.toNatClampNeg (v3 + 1))))).toInt := fun a b => RT.a1 hL2 hR0 k16 a b
  refine ⟨vp_of (a := (v3.toInt + 1)) e1 (by omega) (by omega), ?_⟩
  have z37 := i32 (xs (Int32.toNatClampNeg (v3 + 1)))
  refine ⟨vp_of (a := (v3.toInt + 2)) e3 (by omega) (by omega), ?_⟩
  have z38 := i32 (xs (Int32.toNatClampNeg (v3 + 2)))
  refine ⟨⟨hF0, rfl⟩, ?_⟩
  refine kp7 rfl hR0 rfl (kpA rfl (kpnm rfl hR0 rfl (kti rfl (kpW9 rfl hR0 rfl (kp6 rfl hR0 rfl (kp4 rfl (kp0 rfl (kp1 rfl (kp2 rfl (kp3 rfl (sp_X12_copyStore hB8 hR0 (fun x39 y44 I40 J41 hB42 p43 kq48 kq47 kq46 kq45 k49 k50 w55 w54 w53 w52 w51 => ?_))))))))))))
  have i56 := i32 x39
  have e57 : ((I40 3 1) : Int32).toInt = (I 3 1).toInt := Eq.trans (congrArg Int32.toInt (Eq.trans kq45 kq11)) rfl
  have kz58 : ((I40 3 1) : Int32).toInt = (I 3 1).toInt := e57
  have e59 : ((I40 97 8) : Int32).toInt = (I 97 8).toInt := Eq.trans (congrArg Int32.toInt (Eq.trans kq46 kq12)) rfl
  have kz60 : ((I40 97 8) : Int32).toInt = (I 97 8).toInt := e59
  have e61 : ((I40 1 13) : Int32).toInt = (I 1 13).toInt := Eq.trans (congrArg Int32.toInt (Eq.trans kq47 kq13)) rfl
  have kz62 : ((I40 1 13) : Int32).toInt = (I 1 13).toInt := e61
  have e63 : ((I40 97 23) : Int32).toInt = (I 97 23).toInt := Eq.trans (congrArg Int32.toInt (Eq.trans kq48 kq14)) rfl
  have kz64 : ((I40 97 23) : Int32).toInt = (I 97 23).toInt := e63
  exact hN _ _ R hB42 hR0 hF0 ⟨(Eq.trans (e57) (Eq.trans hL0 (Eq.symm (e59)))), (Eq.trans (e61) (Eq.trans hL1 (Eq.symm (e63)))), (RT.kp (RT.kp hL2 k15 k16) k49 (p43.2)), trivial⟩ (R3.kp (R3.kp hR3 w18 (by have ya : ((I6 3 1) : Int32).toInt = (I 3 1).toInt := e25; have yb : ((I 3 1) : Int32).toInt = (I 3 1).toInt := rfl; first | exact Int.le_of_eq (ya.trans yb) | exact ya.trans yb | omega)) w51 (by have ya : ((I40 3 1) : Int32).toInt = (I 3 1).toInt := e57; have yb : ((I6 3 1) : Int32).toInt = (I 3 1).toInt := e25; first | exact Int.le_of_eq (ya.trans yb) | exact ya.trans yb | omega)) (RM.kp hR0 (RM.kp hR0 hRM ⟨w19, w20, (fun j _ => congrFun w21.1 j)⟩) ⟨w52, w53, (fun j _ => congrFun w54 j)⟩) trivial (W9.kp hR0 (W9.kp hR0 hW9 w22 w21.1 w19.2) w55 w54 w52.2)
set_option maxRecDepth 100000 in
set_option maxHeartbeats 2000000 in
theorem lc_18 {Q : Nat → Qt} {P : Kt} {L : Nat} {xs : Nat → Int32} (hc : Cl (AM 640) false true L xs 2 112 kL_law Q P) (hL : L ≤ 3584) {v3 : Int32} {I : Im} {J : Jm} {R : Rm} (hB0 : Bd I) (hR0 : RI R) (hF0 : Fl R) (hL0 : (I 3 1).toInt = (I 97 8).toInt) (hL1 : (I 1 13).toInt = (I 97 23).toInt) (hL2 : RT I) (hL3 : True) (hR3 : R3 I J) (hRM : RM I J R) (hFQ : True) (hW9 : W9 I R) (h0 : 0 ≤ v3.toInt) (h7 : v3.toInt + 7 ≤ (L : Int)) (hN : ∀ (I : Im) (J : Jm) (R : Rm), Bd I → RI R → Fl R → RLz I → R3 I J → RM I J R → True → W9 I R → P 1889 112 [(0, .ref 0), (1, .ref 1), (2, .ref 97), (3, .int v3)] [] I J R) : P 798 112 [(0, .ref 0), (1, .ref 1), (2, .ref 97), (3, .int v3)] [] I J R := by
  have i_v3 := i32 v3
  have e97 : I 97 8 = nI (fl I) := (Int32.toInt_inj.mp hL0).symm.trans (fl_bd hB0).1
  have b31 := Bd.o hB0 io9_112_3_6 bd9_6_1
  refine ls_798 hc v3 _ _ _ ?_
  have e1 : ((v3 + 1) : Int32).toInt = (v3.toInt) + (1) := ti_add rfl rfl (by omega)
  refine ⟨vp_of (a := (v3.toInt + 1)) e1 (by omega) (by omega), ?_⟩
  have z2 := i32 (xs (Int32.toNatClampNeg (v3 + 1)))
  refine ⟨⟨hF0, rfl⟩, ?_⟩
  refine kp7 rfl hR0 rfl (kpA rfl (kpnm rfl hR0 rfl (kp102 rfl hR0 rfl (kx (cx_bake9 hR0 (W9.hs hW9)) (kp6 rfl hR0 rfl (kp4 rfl (kp5 rfl hR0 rfl (kp0 rfl (kp1 rfl (kp2 rfl (kp3 rfl (sp_X11_bake hB0 hR0 (fun x3 y8 I4 J5 hB6 p7 kq12 kq11 kq10 kq9 k14 k13 k15 w20 w19 w18 w17 w16 => ?_)))))))))))))
  have i21 := i32 x3
  have b22 := Bd.o hB0 io9_112_3_6 bd9_6_1
  have e23 : ((I4 3 1) : Int32).toInt = (I 3 1).toInt := Eq.trans (congrArg Int32.toInt kq9) rfl
  have kz24 : ((I4 3 1) : Int32).toInt = (I 3 1).toInt := e23
  have b25 := Bd.o hB0 io9_112_97_12 bd9_12_8
  have e26 : ((I4 97 8) : Int32).toInt = (I 97 8).toInt := Eq.trans (congrArg Int32.toInt kq10) rfl
  have kz27 : ((I4 97 8) : Int32).toInt = (I 97 8).toInt := e26
  have b28 := Bd.o hB0 io9_112_1_11 bd9_11_13
  have e29 : ((I4 1 13) : Int32).toInt = (I 1 13).toInt := Eq.trans (congrArg Int32.toInt kq11) rfl
  have kz30 : ((I4 1 13) : Int32).toInt = (I 1 13).toInt := e29
  have b31 := Bd.o hB0 io9_112_97_12 bd9_12_23
  have e32 : ((I4 97 23) : Int32).toInt = (I 97 23).toInt := Eq.trans (congrArg Int32.toInt kq12) rfl
  have kz33 : ((I4 97 23) : Int32).toInt = (I 97 23).toInt := e32
  refine ⟨vp_of (a := (v3.toInt + 1)) e1 (by omega) (by omega), ?_⟩
  have z34 := i32 (xs (Int32.toNatClampNeg (v3 + 1)))
  refine ⟨⟨hF0, rfl⟩, ?_⟩
  refine kp7 rfl hR0 rfl (kpA rfl (kpnm rfl hR0 rfl (kx (mx_bake9 (now_9 hR0) w20.2.1) (kp6 rfl hR0 rfl (kp4 rfl (kp5 rfl hR0 rfl (kp0 rfl (kp1 rfl (kp2 rfl (kp3 rfl (sp_X12_bake hB6 hR0 (fun x35 y40 I36 J37 hB38 p39 kq44 kq43 kq42 kq41 k46 k45 k47 w51 w50 w49 w48 => ?_))))))))))))
  have f52 : Fr pK I4 I36 := p39
  have i53 := i32 x35
  have e54 : ((I36 3 1) : Int32).toInt = (I 3 1).toInt := Eq.trans (congrArg Int32.toInt (Eq.trans kq41 kq9)) rfl
  have kz55 : ((I36 3 1) : Int32).toInt = (I 3 1).toInt := e54
  have e56 : ((I36 97 8) : Int32).toInt = (I 97 8).toInt := Eq.trans (congrArg Int32.toInt (Eq.trans kq42 kq10)) rfl
  have kz57 : ((I36 97 8) : Int32).toInt = (I 97 8).toInt := e56
  have e58 : ((I36 1 13) : Int32).toInt = (I 1 13).toInt := Eq.trans (congrArg Int32.toInt (Eq.trans kq43 kq11)) rfl
  have kz59 : ((I36 1 13) : Int32).toInt = (I 1 13).toInt := e58
  have e60 : ((I36 97 23) : Int32).toInt = (I 97 23).toInt := Eq.trans (congrArg Int32.toInt (Eq.trans kq44 kq12)) rfl
  have kz61 : ((I36 97 23) : Int32).toInt = (I 97 23).toInt := e60
  have hg62 : (x35 : Int32).toInt = (x3 : Int32).toInt := congrArg Int32.toInt (w51.1.trans w20.1.symm)
  exact hN _ _ R hB38 hR0 hF0 ⟨(Eq.trans (e54) (Eq.trans hL0 (Eq.symm (e56)))), (Eq.trans (e58) (Eq.trans hL1 (Eq.symm (e60)))), (RT.kp (RT.kp hL2 k13 k14) k45 k46), trivial⟩ (R3.kp (R3.kp hR3 w16 (by have ya : ((I4 3 1) : Int32).toInt = (I 3 1).toInt := e23; have yb : ((I 3 1) : Int32).toInt = (I 3 1).toInt := rfl; first | exact Int.le_of_eq (ya.trans yb) | exact ya.trans yb | omega)) w48 (by have ya : ((I36 3 1) : Int32).toInt = (I 3 1).toInt := e54; have yb : ((I4 3 1) : Int32).toInt = (I 3 1).toInt := e23; first | exact Int.le_of_eq (ya.trans yb) | exact ya.trans yb | omega)) (RM.kp hR0 (RM.kp hR0 hRM ⟨w17, w18, (fun j _ => congrFun w19.1 j)⟩) ⟨w49, w50, (fun j hj => f52.1 j hj)⟩) trivial (W9.two hR0 hW9 w20.2.2 w51.2.2 w51.2.1)
set_option maxRecDepth 100000 in
set_option maxHeartbeats 2000000 in
theorem lc_19 {Q : Nat → Qt} {P : Kt} {L : Nat} {xs : Nat → Int32} (hc : Cl (AM 640) false true L xs 2 112 kL_law Q P) (hL : L ≤ 3584) {v3 : Int32} {I : Im} {J : Jm} {R : Rm} (hB0 : Bd I) (hR0 : RI R) (hF0 : Fl R) (hL0 : (I 3 1).toInt = (I 97 8).toInt) (hL1 : (I 1 13).toInt = (I 97 23).toInt) (hL2 : RT I) (hL3 : True) (hR3 : R3 I J) (hRM : RM I J R) (hFQ : True) (hW9 : W9 I R) (h0 : 0 ≤ v3.toInt) (h7 : v3.toInt + 7 ≤ (L : Int)) (hN : ∀ (I : Im) (J : Jm) (R : Rm), Bd I → RI R → Fl R → RLz I → R3 I J → RM I J R → True → W9 I R → P 1889 112 [(0, .ref 0), (1, .ref 1), (2, .ref 97), (3, .int v3)] [] I J R) : P 821 112 [(0, .ref 0), (1, .ref 1), (2, .ref 97), (3, .int v3)] [] I J R := by
  have i_v3 := i32 v3
  have e97 : I 97 8 = nI (fl I) := (Int32.toInt_inj.mp hL0).symm.trans (fl_bd hB0).1
  have b31 := Bd.o hB0 io9_112_3_6 bd9_6_1
  refine ls_821 hc v3 _ _ _ ?_
  have e1 : ((v3 + 1) : Int32).toInt = (v3.toInt) + (1) := ti_add rfl rfl (by omega)
  refine ⟨vp_of (a := (v3.toInt + 1)) e1 (by omega) (by omega), ?_⟩
  have z2 := i32 (xs (Int32.toNatClampNeg (v3 + 1)))
  have e3 : ((v3 + 2) : Int32).toInt = (v3.toInt) + (2) := ti_add rfl rfl (by omega)
  refine ⟨vp_of (a := (v3.toInt + 2)) e3 (by omega) (by omega), ?_⟩
  have z4 := i32 (xs (Int32.toNatClampNeg (v3 + 2)))
  have e5 : ((v3 + 3) : Int32).toInt = (v3.toInt) + (3) := ti_add rfl rfl (by omega)
  refine ⟨vp_of (a := (v3.toInt + 3)) e5 (by omega) (by omega), ?_⟩
  have z6 := i32 (xs (Int32.toNatClampNeg (v3 + 3)))
  refine ⟨⟨hF0, rfl⟩, ?_⟩
  refine kp7 rfl hR0 rfl (kpA rfl (kpnm rfl hR0 rfl (kp102 rfl hR0 rfl (kx (cx_cut9 hR0 (W9.hs hW9)) (kp6 rfl hR0 rfl (kp4 rfl (kp5 rfl hR0 rfl (kp0 rfl (kp1 rfl (kp2 rfl (kp3 rfl (sp_X11_cut hB0 hR0 (fun x7 y12 I8 J9 hB10 p11 kq16 kq15 kq14 kq13 k18 k17 k19 w24 w23 w22 w21 w20 => ?_)))))))))))))
  have i25 := i32 x7
  have b26 := Bd.o hB0 io9_112_3_6 bd9_6_1
  have e27 : ((I8 3 1) : Int32).toInt = (I 3 1).toInt := Eq.trans (congrArg Int32.toInt kq13) rfl
  have kz28 : ((I8 3 1) : Int32).toInt = (I 3 1).toInt := e27
  have b29 := Bd.o hB0 io9_112_97_12 bd9_12_8
  have e30 : ((I8 97 8) : Int32).toInt = (I 97 8).toInt := Eq.trans (congrArg Int32.toInt kq14) rfl
  have kz31 : ((I8 97 8) : Int32).toInt = (I 97 8).toInt := e30
  have b32 := Bd.o hB0 io9_112_1_11 bd9_11_13
  have e33 : ((I8 1 13) : Int32).toInt = (I 1 13).toInt := Eq.trans (congrArg Int32.toInt kq15) rfl
  have kz34 : ((I8 1 13) : Int32).toInt = (I 1 13).toInt := e33
  have b35 := Bd.o hB0 io9_112_97_12 bd9_12_23
  have e36 : ((I8 97 23) : Int32).toInt = (I 97 23).toInt := Eq.trans (congrArg Int32.toInt kq16) rfl
  have kz37 : ((I8 97 23) : Int32).toInt = (I 97 23).toInt := e36
  refine ⟨vp_of (a := (v3.toInt + 1)) e1 (by omega) (by omega), ?_⟩
  have z38 := i32 (xs (Int32.toNatClampNeg (v3 + 1)))
  refine ⟨vp_of (a := (v3.toInt + 2)) e3 (by omega) (by omega), ?_⟩
  have z39 := i32 (xs (Int32.toNatClampNeg (v3 + 2)))
  refine ⟨vp_of (a := (v3.toInt + 3)) e5 (by omega) (by omega), ?_⟩
  have z40 := i32 (xs (Int32.toNatClampNeg (v3 + 3)))
  refine ⟨⟨hF0, rfl⟩, ?_⟩
  refine kp7 rfl hR0 rfl (kpA rfl (kpnm rfl hR0 rfl (kx (mx_cut9 (now_9 hR0) w24.2.1) (kp6 rfl hR0 rfl (kp4 rfl (kp5 rfl hR0 rfl (kp0 rfl (kp1 rfl (kp2 rfl (kp3 rfl (sp_X12_cut hB10 hR0 (fun x41 y46 I42 J43 hB44 p45 kq50 kq49 kq48 kq47 k52 k51 k53 w57 w56 w55 w54 => ?_))))))))))))
  have f58 : Fr pK I8 I42 := p45
  have i59 := i32 x41
  have e60 : ((I42 3 1) : Int32).toInt = (I 3 1).toInt := Eq.trans (congrArg Int32.toInt (Eq.trans kq47 kq13)) rfl
  have kz61 : ((I42 3 1) : Int32).toInt = (I 3 1).toInt := e60
  have e62 : ((I42 97 8) : Int32).toInt = (I 97 8).toInt := Eq.trans (congrArg Int32.toInt (Eq.trans kq48 kq14)) rfl
  have kz63 : ((I42 97 8) : Int32).toInt = (I 97 8).toInt := e62
  have e64 : ((I42 1 13) : Int32).toInt = (I 1 13).toInt := Eq.trans (congrArg Int32.toInt (Eq.trans kq49 kq15)) rfl
  have kz65 : ((I42 1 13) : Int32).toInt = (I 1 13).toInt := e64
  have e66 : ((I42 97 23) : Int32).toInt = (I 97 23).toInt := Eq.trans (congrArg Int32.toInt (Eq.trans kq50 kq16)) rfl
  have kz67 : ((I42 97 23) : Int32).toInt = (I 97 23).toInt := e66
  have hg68 : (x41 : Int32).toInt = (x7 : Int32).toInt := congrArg Int32.toInt (w57.1.trans w24.1.symm)
  exact hN _ _ R hB44 hR0 hF0 ⟨(Eq.trans (e60) (Eq.trans hL0 (Eq.symm (e62)))), (Eq.trans (e64) (Eq.trans hL1 (Eq.symm (e66)))), (RT.kp (RT.kp hL2 k17 k18) k51 k52), trivial⟩ (R3.kp (R3.kp hR3 w20 (by have ya : ((I8 3 1) : Int32).toInt = (I 3 1).toInt := e27; have yb : ((I 3 1) : Int32).toInt = (I 3 1).toInt := rfl; first | exact Int.le_of_eq (ya.trans yb) | exact ya.trans yb | omega)) w54 (by have ya : ((I42 3 1) : Int32).toInt = (I 3 1).toInt := e60; have yb : ((I8 3 1) : Int32).toInt = (I 3 1).toInt := e27; first | exact Int.le_of_eq (ya.trans yb) | exact ya.trans yb | omega)) (RM.kp hR0 (RM.kp hR0 hRM ⟨w21, w22, (fun j _ => congrFun w23.1 j)⟩) ⟨w55, w56, (fun j hj => f58.1 j hj)⟩) trivial (W9.two hR0 hW9 w24.2.2 w57.2.2 w57.2.1)
set_option maxRecDepth 100000 in
set_option maxHeartbeats 2000000 in
theorem lc_20 {Q : Nat → Qt} {P : Kt} {L : Nat} {xs : Nat → Int32} (hc : Cl (AM 640) false true L xs 2 112 kL_law Q P) (hL : L ≤ 3584) {v3 : Int32} {I : Im} {J : Jm} {R : Rm} (hB0 : Bd I) (hR0 : RI R) (hF0 : Fl R) (hL0 : (I 3 1).toInt = (I 97 8).toInt) (hL1 : (I 1 13).toInt = (I 97 23).toInt) (hL2 : RT I) (hL3 : True) (hR3 : R3 I J) (hRM : RM I J R) (hFQ : True) (hW9 : W9 I R) (h0 : 0 ≤ v3.toInt) (h7 : v3.toInt + 7 ≤ (L : Int)) (hN : ∀ (I : Im) (J : Jm) (R : Rm), Bd I → RI R → Fl R → RLz I → R3 I J → RM I J R → True → W9 I R → P 1889 112 [(0, .ref 0), (1, .ref 1), (2, .ref 97), (3, .int v3)] [] I J R) : P 864 112 [(0, .ref 0), (1, .ref 1), (2, .ref 97), (3, .int v3)] [] I J R := by
  have i_v3 := i32 v3
  have e97 : I 97 8 = nI (fl I) := (Int32.toInt_inj.mp hL0).symm.trans (fl_bd hB0).1
  have b31 := Bd.o hB0 io9_112_3_6 bd9_6_1
  refine ls_864 hc v3 _ _ _ ?_
  have e1 : ((v3 + 1) : Int32).toInt = (v3.toInt) + (1) := ti_add rfl rfl (by omega)
  refine ⟨vp_of (a := (v3.toInt + 1)) e1 (by omega) (by omega), ?_⟩
  have z2 := i32 (xs (Int32.toNatClampNeg (v3 + 1)))
  have e3 : ((v3 + 2) : Int32).toInt = (v3.toInt) + (2) := ti_add rfl rfl (by omega)
  refine ⟨vp_of (a := (v3.toInt + 2)) e3 (by omega) (by omega), ?_⟩
  have z4 := i32 (xs (Int32.toNatClampNeg (v3 + 2)))
  refine ⟨⟨hF0, rfl⟩, ?_⟩
  refine kp7 rfl hR0 rfl (kpA rfl (kpnm rfl hR0 rfl (kp102 rfl hR0 rfl (kx (cx_split9 hR0 (W9.hs hW9)) (kp6 rfl hR0 rfl (kp4 rfl (kp5 rfl hR0 rfl (kp0 rfl (kp1 rfl (kp2 rfl (kp3 rfl (sp_X11_split hB0 hR0 (fun x5 y10 I6 J7 hB8 p9 kq14 kq13 kq12 kq11 k16 k15 k17 w22 w21 w20 w19 w18 => ?_)))))))))))))
  have i23 := i32 x5
  have b24 := Bd.o hB0 io9_112_3_6 bd9_6_1
  have e25 : ((I6 3 1) : Int32).toInt = (I 3 1).toInt := Eq.trans (congrArg Int32.toInt kq11) rfl
  have kz26 : ((I6 3 1) : Int32).toInt = (I 3 1).toInt := e25
  have b27 := Bd.o hB0 io9_112_97_12 bd9_12_8
  have e28 : ((I6 97 8) : Int32).toInt = (I 97 8).toInt := Eq.trans (congrArg Int32.toInt kq12) rfl
  have kz29 : ((I6 97 8) : Int32).toInt = (I 97 8).toInt := e28
  have b30 := Bd.o hB0 io9_112_1_11 bd9_11_13
  have e31 : ((I6 1 13) : Int32).toInt = (I 1 13).toInt := Eq.trans (congrArg Int32.toInt kq13) rfl
  have kz32 : ((I6 1 13) : Int32).toInt = (I 1 13).toInt := e31
  have b33 := Bd.o hB0 io9_112_97_12 bd9_12_23
  have e34 : ((I6 97 23) : Int32).toInt = (I 97 23).toInt := Eq.trans (congrArg Int32.toInt kq14) rfl
  have kz35 : ((I6 97 23) : Int32).toInt = (I 97 23).toInt := e34
  refine ⟨vp_of (a := (v3.toInt + 1)) e1 (by omega) (by omega), ?_⟩
  have z36 := i32 (xs (Int32.toNatClampNeg (v3 + 1)))
  refine ⟨vp_of (a := (v3.toInt + 2)) e3 (by omega) (by omega), ?_⟩
  have z37 := i32 (xs (Int32.toNatClampNeg (v3 + 2)))
  refine ⟨⟨hF0, rfl⟩, ?_⟩
  refine kp7 rfl hR0 rfl (kpA rfl (kpnm rfl hR0 rfl (kx (mx_split9 (now_9 hR0) w22.2.1) (kp6 rfl hR0 rfl (kp4 rfl (kp5 rfl hR0 rfl (kp0 rfl (kp1 rfl (kp2 rfl (kp3 rfl (sp_X12_split hB8 hR0 (fun x38 y43 I39 J40 hB41 p42 kq47 kq46 kq45 kq44 k49 k48 k50 w54 w53 w52 w51 => ?_))))))))))))
  have f55 : Fr pK I6 I39 := p42
  have i56 := i32 x38
  have e57 : ((I39 3 1) : Int32).toInt = (I 3 1).toInt := Eq.trans (congrArg Int32.toInt (Eq.trans kq44 kq11)) rfl
  have kz58 : ((I39 3 1) : Int32).toInt = (I 3 1).toInt := e57
  have e59 : ((I39 97 8) : Int32).toInt = (I 97 8).toInt := Eq.trans (congrArg Int32.toInt (Eq.trans kq45 kq12)) rfl
  have kz60 : ((I39 97 8) : Int32).toInt = (I 97 8).toInt := e59
  have e61 : ((I39 1 13) : Int32).toInt = (I 1 13).toInt := Eq.trans (congrArg Int32.toInt (Eq.trans kq46 kq13)) rfl
  have kz62 : ((I39 1 13) : Int32).toInt = (I 1 13).toInt := e61
  have e63 : ((I39 97 23) : Int32).toInt = (I 97 23).toInt := Eq.trans (congrArg Int32.toInt (Eq.trans kq47 kq14)) rfl
  have kz64 : ((I39 97 23) : Int32).toInt = (I 97 23).toInt := e63
  have hg65 : (x38 : Int32).toInt = (x5 : Int32).toInt := congrArg Int32.toInt (w54.1.trans w22.1.symm)
  exact hN _ _ R hB41 hR0 hF0 ⟨(Eq.trans (e57) (Eq.trans hL0 (Eq.symm (e59)))), (Eq.trans (e61) (Eq.trans hL1 (Eq.symm (e63)))), (RT.kp (RT.kp hL2 k15 k16) k48 k49), trivial⟩ (R3.kp (R3.kp hR3 w18 (by have ya : ((I6 3 1) : Int32).toInt = (I 3 1).toInt := e25; have yb : ((I 3 1) : Int32).toInt = (I 3 1).toInt := rfl; first | exact Int.le_of_eq (ya.trans yb) | exact ya.trans yb | omega)) w51 (by have ya : ((I39 3 1) : Int32).toInt = (I 3 1).toInt := e57; have yb : ((I6 3 1) : Int32).toInt = (I 3 1).toInt := e25; first | exact Int.le_of_eq (ya.trans yb) | exact ya.trans yb | omega)) (RM.kp hR0 (RM.kp hR0 hRM ⟨w19, w20, (fun j _ => congrFun w21.1 j)⟩) ⟨w52, w53, (fun j hj => f55.1 j hj)⟩) trivial (W9.two hR0 hW9 w22.2.2 w54.2.2 w54.2.1)
set_option maxRecDepth 100000 in
set_option maxHeartbeats 2000000 in
theorem lc_21 {Q : Nat → Qt} {P : Kt} {L : Nat} {xs : Nat → Int32} (hc : Cl (AM 640) false true L xs 2 112 kL_law Q P) (hL : L ≤ 3584) {v3 : Int32} {I : Im} {J : Jm} {R : Rm} (hB0 : Bd I) (hR0 : RI R) (hF0 : Fl R) (hL0 : (I 3 1).toInt = (I 97 8).toInt) (hL1 : (I 1 13).toInt = (I 97 23).toInt) (hL2 : RT I) (hL3 : True) (hR3 : R3 I J) (hRM : RM I J R) (hFQ : True) (hW9 : W9 I R) (h0 : 0 ≤ v3.toInt) (h7 : v3.toInt + 7 ≤ (L : Int)) (hN : ∀ (I : Im) (J : Jm) (R : Rm), Bd I → RI R → Fl R → RLz I → R3 I J → RM I J R → True → W9 I R → P 1889 112 [(0, .ref 0), (1, .ref 1), (2, .ref 97), (3, .int v3)] [] I J R) : P 897 112 [(0, .ref 0), (1, .ref 1), (2, .ref 97), (3, .int v3)] [] I J R := by
  have i_v3 := i32 v3
  have e97 : I 97 8 = nI (fl I) := (Int32.toInt_inj.mp hL0).symm.trans (fl_bd hB0).1
  have b31 := Bd.o hB0 io9_112_3_6 bd9_6_1
  refine ls_897 hc v3 _ _ _ ?_
  have e1 : ((v3 + 1) : Int32).toInt = (v3.toInt) + (1) := ti_add rfl rfl (by omega)
  refine ⟨vp_of (a := (v3.toInt + 1)) e1 (by omega) (by omega), ?_⟩
  have z2 := i32 (xs (Int32.toNatClampNeg (v3 + 1)))
  have e3 : ((v3 + 2) : Int32).toInt = (v3.toInt) + (2) := ti_add rfl rfl (by omega)
  refine ⟨vp_of (a := (v3.toInt + 2)) e3 (by omega) (by omega), ?_⟩
  have z4 := i32 (xs (Int32.toNatClampNeg (v3 + 2)))
  refine ⟨⟨hF0, rfl⟩, ?_⟩
  refine kp7 rfl hR0 rfl (kpA rfl (kpnm rfl hR0 rfl (kp102 rfl hR0 rfl (kx (cx_give9 hR0 hRM.1.1 (W9.mm hW9) (W9.hs hW9)) (kp6 rfl hR0 rfl (kp4 rfl (kp5 rfl hR0 rfl (kp0 rfl (kp1 rfl (kp2 rfl (kp3 rfl (sp_X11_give hB0 hR0 (fun x5 y10 I6 J7 hB8 p9 kq14 kq13 kq12 kq11 k16 k15 k17 w22 w21 w20 w19 w18 => ?_)))))))))))))
  have i23 := i32 x5
  have b24 := Bd.o hB0 io9_112_3_6 bd9_6_1
  have e25 : ((I6 3 1) : Int32).toInt = (I 3 1).toInt := Eq.trans (congrArg Int32.toInt kq11) rfl
  have kz26 : ((I6 3 1) : Int32).toInt = (I 3 1).toInt := e25
  have b27 := Bd.o hB0 io9_112_97_12 bd9_12_8
  have e28 : ((I6 97 8) : Int32).toInt = (I 97 8).toInt := Eq.trans (congrArg Int32.toInt kq12) rfl
  have kz29 : ((I6 97 8) : Int32).toInt = (I 97 8).toInt := e28
  have b30 := Bd.o hB0 io9_112_1_11 bd9_11_13
  have e31 : ((I6 1 13) : Int32).toInt = (I 1 13).toInt := Eq.trans (congrArg Int32.toInt kq13) rfl
  have kz32 : ((I6 1 13) : Int32).toInt = (I 1 13).toInt := e31
  have b33 := Bd.o hB0 io9_112_97_12 bd9_12_23
  have e34 : ((I6 97 23) : Int32).toInt = (I 97 23).toInt := Eq.trans (congrArg Int32.toInt kq14) rfl
  have kz35 : ((I6 97 23) : Int32).toInt = (I 97 23).toInt := e34
  refine ⟨vp_of (a := (v3.toInt + 1)) e1 (by omega) (by omega), ?_⟩
  have z36 := i32 (xs (Int32.toNatClampNeg (v3 + 1)))
  refine ⟨vp_of (a := (v3.toInt + 2)) e3 (by omega) (by omega), ?_⟩
  have z37 := i32 (xs (Int32.toNatClampNeg (v3 + 2)))
  refine ⟨⟨hF0, rfl⟩, ?_⟩
  refine kp7 rfl hR0 rfl (kpA rfl (kpnm rfl hR0 rfl (kx (mx_give9 (now_9 hR0) (FrCk.z102 (now_9 hR0) w22.2.2) (W9.mm hW9) w22.2.1) (kp6 rfl hR0 rfl (kp4 rfl (kp5 rfl hR0 rfl (kp0 rfl (kp1 rfl (kp2 rfl (kp3 rfl (sp_X12_give hB8 hR0 (fun x38 y43 I39 J40 hB41 p42 kq47 kq46 kq45 kq44 k49 k48 k50 w54 w53 w52 w51 => ?_))))))))))))
  have f55 : Fr pK I6 I39 := p42
  have i56 := i32 x38
  have e57 : ((I39 3 1) : Int32).toInt = (I 3 1).toInt := Eq.trans (congrArg Int32.toInt (Eq.trans kq44 kq11)) rfl
  have kz58 : ((I39 3 1) : Int32).toInt = (I 3 1).toInt := e57
  have e59 : ((I39 97 8) : Int32).toInt = (I 97 8).toInt := Eq.trans (congrArg Int32.toInt (Eq.trans kq45 kq12)) rfl
  have kz60 : ((I39 97 8) : Int32).toInt = (I 97 8).toInt := e59
  have e61 : ((I39 1 13) : Int32).toInt = (I 1 13).toInt := Eq.trans (congrArg Int32.toInt (Eq.trans kq46 kq13)) rfl
  have kz62 : ((I39 1 13) : Int32).toInt = (I 1 13).toInt := e61
  have e63 : ((I39 97 23) : Int32).toInt = (I 97 23).toInt := Eq.trans (congrArg Int32.toInt (Eq.trans kq47 kq14)) rfl
  have kz64 : ((I39 97 23) : Int32).toInt = (I 97 23).toInt := e63
  have hg65 : (x38 : Int32).toInt = (x5 : Int32).toInt := congrArg Int32.toInt (w54.1.trans w22.1.symm)
  exact hN _ _ R hB41 hR0 hF0 ⟨(Eq.trans (e57) (Eq.trans hL0 (Eq.symm (e59)))), (Eq.trans (e61) (Eq.trans hL1 (Eq.symm (e63)))), (RT.kp (RT.kp hL2 k15 k16) k48 k49), trivial⟩ (R3.kp (R3.kp hR3 w18 (by have ya : ((I6 3 1) : Int32).toInt = (I 3 1).toInt := e25; have yb : ((I 3 1) : Int32).toInt = (I 3 1).toInt := rfl; first | exact Int.le_of_eq (ya.trans yb) | exact ya.trans yb | omega)) w51 (by have ya : ((I39 3 1) : Int32).toInt = (I 3 1).toInt := e57; have yb : ((I6 3 1) : Int32).toInt = (I 3 1).toInt := e25; first | exact Int.le_of_eq (ya.trans yb) | exact ya.trans yb | omega)) (RM.kp hR0 (RM.kp hR0 hRM ⟨w19, w20, (fun j _ => congrFun w21.1 j)⟩) ⟨w52, w53, (fun j hj => f55.1 j hj)⟩) trivial (W9.two hR0 hW9 w22.2.2 w54.2.2 w54.2.1)
set_option maxRecDepth 100000 in
set_option maxHeartbeats 2000000 in
theorem lc_22 {Q : Nat → Qt} {P : Kt} {L : Nat} {xs : Nat → Int32} (hc : Cl (AM 640) false true L xs 2 112 kL_law Q P) (hL : L ≤ 3584) {v3 : Int32} {I : Im} {J : Jm} {R : Rm} (hB0 : Bd I) (hR0 : RI R) (hF0 : Fl R) (hL0 : (I 3 1).toInt = (I 97 8).toInt) (hL1 : (I 1 13).toInt = (I 97 23).toInt) (hL2 : RT I) (hL3 : True) (hR3 : R3 I J) (hRM : RM I J R) (hFQ : True) (hW9 : W9 I R) (h0 : 0 ≤ v3.toInt) (h7 : v3.toInt + 7 ≤ (L : Int)) (hN : ∀ (I : Im) (J : Jm) (R : Rm), Bd I → RI R → Fl R → RLz I → R3 I J → RM I J R → True → W9 I R → P 1889 112 [(0, .ref 0), (1, .ref 1), (2, .ref 97), (3, .int v3)] [] I J R) : P 930 112 [(0, .ref 0), (1, .ref 1), (2, .ref 97), (3, .int v3)] [] I J R := by
  have i_v3 := i32 v3
  have e97 : I 97 8 = nI (fl I) := (Int32.toInt_inj.mp hL0).symm.trans (fl_bd hB0).1
  have b31 := Bd.o hB0 io9_112_3_6 bd9_6_1
  refine ls_930 hc v3 _ _ _ ?_
  have e1 : ((v3 + 1) : Int32).toInt = (v3.toInt) + (1) := ti_add rfl rfl (by omega)
  refine ⟨vp_of (a := (v3.toInt + 1)) e1 (by omega) (by omega), ?_⟩
  have z2 := i32 (xs (Int32.toNatClampNeg (v3 + 1)))
  have e3 : ((v3 + 2) : Int32).toInt = (v3.toInt) + (2) := ti_add rfl rfl (by omega)
  refine ⟨vp_of (a := (v3.toInt + 2)) e3 (by omega) (by omega), ?_⟩
  have z4 := i32 (xs (Int32.toNatClampNeg (v3 + 2)))
  refine ⟨⟨hF0, rfl⟩, ?_⟩
  refine kp7 rfl hR0 rfl (kpA rfl (kpnm rfl hR0 rfl (kp102 rfl hR0 rfl (kx (cx_take9 hR0 hRM.1.1 (W9.mm hW9) (W9.hs hW9)) (kp6 rfl hR0 rfl (kp4 rfl (kp5 rfl hR0 rfl (kp0 rfl (kp1 rfl (kp2 rfl (kp3 rfl (sp_X11_take hB0 hR0 (fun x5 y10 I6 J7 hB8 p9 kq14 kq13 kq12 kq11 k16 k15 k17 w22 w21 w20 w19 w18 => ?_)))))))))))))
  have i23 := i32 x5
  have b24 := Bd.o hB0 io9_112_3_6 bd9_6_1
  have e25 : ((I6 3 1) : Int32).toInt = (I 3 1).toInt := Eq.trans (congrArg Int32.toInt kq11) rfl
  have kz26 : ((I6 3 1) : Int32).toInt = (I 3 1).toInt := e25
  have b27 := Bd.o hB0 io9_112_97_12 bd9_12_8
  have e28 : ((I6 97 8) : Int32).toInt = (I 97 8).toInt := Eq.trans (congrArg Int32.toInt kq12) rfl
  have kz29 : ((I6 97 8) : Int32).toInt = (I 97 8).toInt := e28
  have b30 := Bd.o hB0 io9_112_1_11 bd9_11_13
  have e31 : ((I6 1 13) : Int32).toInt = (I 1 13).toInt := Eq.trans (congrArg Int32.toInt kq13) rfl
  have kz32 : ((I6 1 13) : Int32).toInt = (I 1 13).toInt := e31
  have b33 := Bd.o hB0 io9_112_97_12 bd9_12_23
  have e34 : ((I6 97 23) : Int32).toInt = (I 97 23).toInt := Eq.trans (congrArg Int32.toInt kq14) rfl
  have kz35 : ((I6 97 23) : Int32).toInt = (I 97 23).toInt := e34
  refine ⟨vp_of (a := (v3.toInt + 1)) e1 (by omega) (by omega), ?_⟩
  have z36 := i32 (xs (Int32.toNatClampNeg (v3 + 1)))
  refine ⟨vp_of (a := (v3.toInt + 2)) e3 (by omega) (by omega), ?_⟩
  have z37 := i32 (xs (Int32.toNatClampNeg (v3 + 2)))
  refine ⟨⟨hF0, rfl⟩, ?_⟩
  refine kp7 rfl hR0 rfl (kpA rfl (kpnm rfl hR0 rfl (kx (mx_take9 (now_9 hR0) (FrCk.z102 (now_9 hR0) w22.2.2) (W9.mm hW9) w22.2.1) (kp6 rfl hR0 rfl (kp4 rfl (kp5 rfl hR0 rfl (kp0 rfl (kp1 rfl (kp2 rfl (kp3 rfl (sp_X12_take hB8 hR0 (fun x38 y43 I39 J40 hB41 p42 kq47 kq46 kq45 kq44 k49 k48 k50 w54 w53 w52 w51 => ?_))))))))))))
  have f55 : Fr pK I6 I39 := p42
  have i56 := i32 x38
  have e57 : ((I39 3 1) : Int32).toInt = (I 3 1).toInt := Eq.trans (congrArg Int32.toInt (Eq.trans kq44 kq11)) rfl
  have kz58 : ((I39 3 1) : Int32).toInt = (I 3 1).toInt := e57
  have e59 : ((I39 97 8) : Int32).toInt = (I 97 8).toInt := Eq.trans (congrArg Int32.toInt (Eq.trans kq45 kq12)) rfl
  have kz60 : ((I39 97 8) : Int32).toInt = (I 97 8).toInt := e59
  have e61 : ((I39 1 13) : Int32).toInt = (I 1 13).toInt := Eq.trans (congrArg Int32.toInt (Eq.trans kq46 kq13)) rfl
  have kz62 : ((I39 1 13) : Int32).toInt = (I 1 13).toInt := e61
  have e63 : ((I39 97 23) : Int32).toInt = (I 97 23).toInt := Eq.trans (congrArg Int32.toInt (Eq.trans kq47 kq14)) rfl
  have kz64 : ((I39 97 23) : Int32).toInt = (I 97 23).toInt := e63
  have hg65 : (x38 : Int32).toInt = (x5 : Int32).toInt := congrArg Int32.toInt (w54.1.trans w22.1.symm)
  exact hN _ _ R hB41 hR0 hF0 ⟨(Eq.trans (e57) (Eq.trans hL0 (Eq.symm (e59)))), (Eq.trans (e61) (Eq.trans hL1 (Eq.symm (e63)))), (RT.kp (RT.kp hL2 k15 k16) k48 k49), trivial⟩ (R3.kp (R3.kp hR3 w18 (by have ya : ((I6 3 1) : Int32).toInt = (I 3 1).toInt := e25; have yb : ((I 3 1) : Int32).toInt = (I 3 1).toInt := rfl; first | exact Int.le_of_eq (ya.trans yb) | exact ya.trans yb | omega)) w51 (by have ya : ((I39 3 1) : Int32).toInt = (I 3 1).toInt := e57; have yb : ((I6 3 1) : Int32).toInt = (I 3 1).toInt := e25; first | exact Int.le_of_eq (ya.trans yb) | exact ya.trans yb | omega)) (RM.kp hR0 (RM.kp hR0 hRM ⟨w19, w20, (fun j _ => congrFun w21.1 j)⟩) ⟨w52, w53, (fun j hj => f55.1 j hj)⟩) trivial (W9.two hR0 hW9 w22.2.2 w54.2.2 w54.2.1)
set_option maxRecDepth 100000 in
set_option maxHeartbeats 2000000 in
theorem lc_23 {Q : Nat → Qt} {P : Kt} {L : Nat} {xs : Nat → Int32} (hc : Cl (AM 640) false true L xs 2 112 kL_law Q P) (hL : L ≤ 3584) {v3 : Int32} {I : Im} {J : Jm} {R : Rm} (hB0 : Bd I) (hR0 : RI R) (hF0 : Fl R) (hL0 : (I 3 1).toInt = (I 97 8).toInt) (hL1 : (I 1 13).toInt = (I 97 23).toInt) (hL2 : RT I) (hL3 : True) (hR3 : R3 I J) (hRM : RM I J R) (hFQ : True) (hW9 : W9 I R) (h0 : 0 ≤ v3.toInt) (h7 : v3.toInt + 7 ≤ (L : Int)) (hN : ∀ (I : Im) (J : Jm) (R : Rm), Bd I → RI R → Fl R → RLz I → R3 I J → RM I J R → True → W9 I R → P 1889 112 [(0, .ref 0), (1, .ref 1), (2, .ref 97), (3, .int v3)] [] I J R) : P 963 112 [(0, .ref 0), (1, .ref 1), (2, .ref 97), (3, .int v3)] [] I J R := by
  have i_v3 := i32 v3
  have e97 : I 97 8 = nI (fl I) := (Int32.toInt_inj.mp hL0).symm.trans (fl_bd hB0).1
  have b31 := Bd.o hB0 io9_112_3_6 bd9_6_1
  refine ls_963 hc v3 _ _ _ ?_
  have e1 : ((v3 + 1) : Int32).toInt = (v3.toInt) + (1) := ti_add rfl rfl (by omega)
  refine ⟨vp_of (a := (v3.toInt + 1)) e1 (by omega) (by omega), ?_⟩
  have z2 := i32 (xs (Int32.toNatClampNeg (v3 + 1)))
  have e3 : ((v3 + 2) : Int32).toInt = (v3.toInt) + (2) := ti_add rfl rfl (by omega)
  refine ⟨vp_of (a := (v3.toInt + 2)) e3 (by omega) (by omega), ?_⟩
  have z4 := i32 (xs (Int32.toNatClampNeg (v3 + 2)))
  have e5 : ((v3 + 3) : Int32).toInt = (v3.toInt) + (3) := ti_add rfl rfl (by omega)
  refine ⟨vp_of (a := (v3.toInt + 3)) e5 (by omega) (by omega), ?_⟩
  have z6 := i32 (xs (Int32.toNatClampNeg (v3 + 3)))
  refine ⟨⟨hF0, rfl⟩, ?_⟩
  refine kp7 rfl hR0 rfl (kpA rfl (kpnm rfl hR0 rfl (kp102 rfl hR0 rfl (kx (cx_owe9 hB0 hR0) (kp6 rfl hR0 rfl (kp4 rfl (kp5 rfl hR0 rfl (kp0 rfl (kp1 rfl (kp2 rfl (kp3 rfl (sp_X11_owe hB0 hR0 (fun x7 y12 I8 J9 hB10 p11 kq16 kq15 kq14 kq13 k18 k17 k19 w24 w23 w22 w21 w20 => ?_)))))))))))))
  intro o25
  have i26 := i32 x7
  have b27 := Bd.o hB0 io9_112_3_6 bd9_6_1
  have e28 : ((I8 3 1) : Int32).toInt = (I 3 1).toInt := Eq.trans (congrArg Int32.toInt kq13) rfl
  have kz29 : ((I8 3 1) : Int32).toInt = (I 3 1).toInt := e28
  have b30 := Bd.o hB0 io9_112_97_12 bd9_12_8
  have e31 : ((I8 97 8) : Int32).toInt = (I 97 8).toInt := Eq.trans (congrArg Int32.toInt kq14) rfl
  have kz32 : ((I8 97 8) : Int32).toInt = (I 97 8).toInt := e31
  have b33 := Bd.o hB0 io9_112_1_11 bd9_11_13
  have e34 : ((I8 1 13) : Int32).toInt = (I 1 13).toInt := Eq.trans (congrArg Int32.toInt kq15) rfl
  have kz35 : ((I8 1 13) : Int32).toInt = (I 1 13).toInt := e34
  have b36 := Bd.o hB0 io9_112_97_12 bd9_12_23
  have e37 : ((I8 97 23) : Int32).toInt = (I 97 23).toInt := Eq.trans (congrArg Int32.toInt kq16) rfl
  have kz38 : ((I8 97 23) : Int32).toInt = (I 97 23).toInt := e37
  refine ⟨vp_of (a := (v3.toInt + 1)) e1 (by omega) (by omega), ?_⟩
  have z39 := i32 (xs (Int32.toNatClampNeg (v3 + 1)))
  refine ⟨vp_of (a := (v3.toInt + 2)) e3 (by omega) (by omega), ?_⟩
  have z40 := i32 (xs (Int32.toNatClampNeg (v3 + 2)))
  refine ⟨vp_of (a := (v3.toInt + 3)) e5 (by omega) (by omega), ?_⟩
  have z41 := i32 (xs (Int32.toNatClampNeg (v3 + 3)))
  refine ⟨⟨hF0, rfl⟩, ?_⟩
  refine kp7 rfl hR0 rfl (kpA rfl (kpnm rfl hR0 rfl (kx (mx_owe9 hR0 hRM.1.1 hW9 w24) (kp6 rfl hR0 rfl (kp4 rfl (kp5 rfl hR0 rfl (kp0 rfl (kp1 rfl (kp2 rfl (kp3 rfl (sp_X12_owe hB10 hR0 (fun x42 y47 I43 J44 hB45 p46 kq51 kq50 kq49 kq48 k53 k52 k54 w58 w57 w56 w55 => ?_))))))))))))
  intro o59
  have f60 : Fr pK I8 I43 := p46
  have i61 := i32 x42
  have e62 : ((I43 3 1) : Int32).toInt = (I 3 1).toInt := Eq.trans (congrArg Int32.toInt (Eq.trans kq48 kq13)) rfl
  have kz63 : ((I43 3 1) : Int32).toInt = (I 3 1).toInt := e62
  have e64 : ((I43 97 8) : Int32).toInt = (I 97 8).toInt := Eq.trans (congrArg Int32.toInt (Eq.trans kq49 kq14)) rfl
  have kz65 : ((I43 97 8) : Int32).toInt = (I 97 8).toInt := e64
  have e66 : ((I43 1 13) : Int32).toInt = (I 1 13).toInt := Eq.trans (congrArg Int32.toInt (Eq.trans kq50 kq15)) rfl
  have kz67 : ((I43 1 13) : Int32).toInt = (I 1 13).toInt := e66
  have e68 : ((I43 97 23) : Int32).toInt = (I 97 23).toInt := Eq.trans (congrArg Int32.toInt (Eq.trans kq51 kq16)) rfl
  have kz69 : ((I43 97 23) : Int32).toInt = (I 97 23).toInt := e68
  have hg70 : (x42 : Int32).toInt = (x7 : Int32).toInt := congrArg Int32.toInt (w58.1)
  exact hN _ _ R hB45 hR0 hF0 ⟨(Eq.trans (e62) (Eq.trans hL0 (Eq.symm (e64)))), (Eq.trans (e66) (Eq.trans hL1 (Eq.symm (e68)))), (RT.kp (RT.kp hL2 k17 k18) k52 k53), trivial⟩ (R3.kp (R3.kp hR3 w20 (by have ya : ((I8 3 1) : Int32).toInt = (I 3 1).toInt := e28; have yb : ((I 3 1) : Int32).toInt = (I 3 1).toInt := rfl; first | exact Int.le_of_eq (ya.trans yb) | exact ya.trans yb | omega)) w55 (by have ya : ((I43 3 1) : Int32).toInt = (I 3 1).toInt := e62; have yb : ((I8 3 1) : Int32).toInt = (I 3 1).toInt := e28; first | exact Int.le_of_eq (ya.trans yb) | exact ya.trans yb | omega)) (RM.kp hR0 (RM.kp hR0 hRM ⟨w21, w22, (fun j _ => congrFun w23.1 j)⟩) ⟨w56, w57, (fun j hj => f60.1 j hj)⟩) trivial (w58.2)
set_option maxRecDepth 100000 in
set_option maxHeartbeats 2000000 in
theorem lc_24 {Q : Nat → Qt} {P : Kt} {L : Nat} {xs : Nat → Int32} (hc : Cl (AM 640) false true L xs 2 112 kL_law Q P) (hL : L ≤ 3584) {v3 : Int32} {I : Im} {J : Jm} {R : Rm} (hB0 : Bd I) (hR0 : RI R) (hF0 : Fl R) (hL0 : (I 3 1).toInt = (I 97 8).toInt) (hL1 : (I 1 13).toInt = (I 97 23).toInt) (hL2 : RT I) (hL3 : True) (hR3 : R3 I J) (hRM : RM I J R) (hFQ : True) (hW9 : W9 I R) (h0 : 0 ≤ v3.toInt) (h7 : v3.toInt + 7 ≤ (L : Int)) (hN : ∀ (I : Im) (J : Jm) (R : Rm), Bd I → RI R → Fl R → RLz I → R3 I J → RM I J R → True → W9 I R → P 1889 112 [(0, .ref 0), (1, .ref 1), (2, .ref 97), (3, .int v3)] [] I J R) : P 1006 112 [(0, .ref 0), (1, .ref 1), (2, .ref 97), (3, .int v3)] [] I J R := by
  have i_v3 := i32 v3
  have e97 : I 97 8 = nI (fl I) := (Int32.toInt_inj.mp hL0).symm.trans (fl_bd hB0).1
  have b31 := Bd.o hB0 io9_112_3_6 bd9_6_1
  refine ls_1006 hc v3 _ _ _ ?_
  have e1 : ((v3 + 1) : Int32).toInt = (v3.toInt) + (1) := ti_add rfl rfl (by omega)
  refine ⟨vp_of (a := (v3.toInt + 1)) e1 (by omega) (by omega), ?_⟩
  have z2 := i32 (xs (Int32.toNatClampNeg (v3 + 1)))
  have e3 : ((v3 + 2) : Int32).toInt = (v3.toInt) + (2) := ti_add rfl rfl (by omega)
  refine ⟨vp_of (a := (v3.toInt + 2)) e3 (by omega) (by omega), ?_⟩
  have z4 := i32 (xs (Int32.toNatClampNeg (v3 + 2)))
  refine ⟨⟨hF0, rfl⟩, ?_⟩
  refine kp7 rfl hR0 rfl (kx (cx_come hB0 hR0) (kx (cx_come9 hB0 hR0) (kp6 rfl hR0 rfl (kp4 rfl (kp5 rfl hR0 rfl (kp0 rfl (kp1 rfl (kp2 rfl (kp3 rfl (sp_X11_come hB0 hR0 (fun x5 y10 I6 J7 hB8 p9 kq14 kq13 kq12 kq11 k16 k15 k17 w20 w19 w18 => ?_)))))))))))
  have i21 := i32 x5
  have b22 := Bd.o hB0 io9_112_3_6 bd9_6_1
  have e23 : ((I6 3 1) : Int32).toInt = (I 3 1).toInt := Eq.trans (congrArg Int32.toInt kq11) rfl
  have kz24 : ((I6 3 1) : Int32).toInt = (I 3 1).toInt := e23
  have b25 := Bd.o hB0 io9_112_97_12 bd9_12_8
  have e26 : ((I6 97 8) : Int32).toInt = (I 97 8).toInt := Eq.trans (congrArg Int32.toInt kq12) rfl
  have kz27 : ((I6 97 8) : Int32).toInt = (I 97 8).toInt := e26
  have b28 := Bd.o hB0 io9_112_1_11 bd9_11_13
  have e29 : ((I6 1 13) : Int32).toInt = (I 1 13).toInt := Eq.trans (congrArg Int32.toInt kq13) rfl
  have kz30 : ((I6 1 13) : Int32).toInt = (I 1 13).toInt := e29
  have b31 := Bd.o hB0 io9_112_97_12 bd9_12_23
  have e32 : ((I6 97 23) : Int32).toInt = (I 97 23).toInt := Eq.trans (congrArg Int32.toInt kq14) rfl
  have kz33 : ((I6 97 23) : Int32).toInt = (I 97 23).toInt := e32
  refine ⟨vp_of (a := (v3.toInt + 1)) e1 (by omega) (by omega), ?_⟩
  have z34 := i32 (xs (Int32.toNatClampNeg (v3 + 1)))
  refine ⟨vp_of (a := (v3.toInt + 2)) e3 (by omega) (by omega), ?_⟩
  have z35 := i32 (xs (Int32.toNatClampNeg (v3 + 2)))
  refine ⟨⟨hF0, rfl⟩, ?_⟩
  refine kp7 rfl hR0 rfl (kx (mx_come hB8) (kx (mx_come9 (J := J) hR0 hRM.1.1 hW9 w20) (kp6 rfl hR0 rfl (kp4 rfl (kp5 rfl hR0 rfl (kp0 rfl (kp1 rfl (kp2 rfl (kp3 rfl (sp_X12_come hB8 hR0 (fun x36 y41 I37 J38 hB39 p40 kq45 kq44 kq43 kq42 k47 k46 k48 w51 w50 w49 => ?_)))))))))))
  have i52 := i32 x36
  have e53 : ((I37 3 1) : Int32).toInt = (I 3 1).toInt := Eq.trans (congrArg Int32.toInt (Eq.trans kq42 kq11)) rfl
  have kz54 : ((I37 3 1) : Int32).toInt = (I 3 1).toInt := e53
  have e55 : ((I37 97 8) : Int32).toInt = (I 97 8).toInt := Eq.trans (congrArg Int32.toInt (Eq.trans kq43 kq12)) rfl
  have kz56 : ((I37 97 8) : Int32).toInt = (I 97 8).toInt := e55
  have e57 : ((I37 1 13) : Int32).toInt = (I 1 13).toInt := Eq.trans (congrArg Int32.toInt (Eq.trans kq44 kq13)) rfl
  have kz58 : ((I37 1 13) : Int32).toInt = (I 1 13).toInt := e57
  have e59 : ((I37 97 23) : Int32).toInt = (I 97 23).toInt := Eq.trans (congrArg Int32.toInt (Eq.trans kq45 kq14)) rfl
  have kz60 : ((I37 97 23) : Int32).toInt = (I 97 23).toInt := e59
  have hg61 : (x36 : Int32).toInt = (x5 : Int32).toInt := congrArg Int32.toInt (w51.1)
  have hr62 := RM.come hB0 hR0 hRM w19 w50
  have hg63 : (x36 : Int32).toInt = (x5 : Int32).toInt := congrArg Int32.toInt hr62.2
  exact hN _ _ R hB39 hR0 hF0 ⟨(Eq.trans (e53) (Eq.trans hL0 (Eq.symm (e55)))), (Eq.trans (e57) (Eq.trans hL1 (Eq.symm (e59)))), (RT.kp (RT.kp hL2 k15 k16) k46 k47), trivial⟩ (R3.kp (R3.kp hR3 w18 (by have ya : ((I6 3 1) : Int32).toInt = (I 3 1).toInt := e23; have yb : ((I 3 1) : Int32).toInt = (I 3 1).toInt := rfl; first | exact Int.le_of_eq (ya.trans yb) | exact ya.trans yb | omega)) w49 (by have ya : ((I37 3 1) : Int32).toInt = (I 3 1).toInt := e53; have yb : ((I6 3 1) : Int32).toInt = (I 3 1).toInt := e23; first | exact Int.le_of_eq (ya.trans yb) | exact ya.trans yb | omega)) (hr62.1) trivial (w51.2)
set_option maxRecDepth 100000 in
set_option maxHeartbeats 2000000 in
theorem lc_25 {Q : Nat → Qt} {P : Kt} {L : Nat} {xs : Nat → Int32} (hc : Cl (AM 640) false true L xs 2 112 kL_law Q P) (hL : L ≤ 3584) {v3 : Int32} {I : Im} {J : Jm} {R : Rm} (hB0 : Bd I) (hR0 : RI R) (hF0 : Fl R) (hL0 : (I 3 1).toInt = (I 97 8).toInt) (hL1 : (I 1 13).toInt = (I 97 23).toInt) (hL2 : RT I) (hL3 : True) (hR3 : R3 I J) (hRM : RM I J R) (hFQ : True) (hW9 : W9 I R) (h0 : 0 ≤ v3.toInt) (h7 : v3.toInt + 7 ≤ (L : Int)) (hN : ∀ (I : Im) (J : Jm) (R : Rm), Bd I → RI R → Fl R → RLz I → R3 I J → RM I J R → True → W9 I R → P 1889 112 [(0, .ref 0), (1, .ref 1), (2, .ref 97), (3, .int v3)] [] I J R) : P 1039 112 [(0, .ref 0), (1, .ref 1), (2, .ref 97), (3, .int v3)] [] I J R := by
  have i_v3 := i32 v3
  have e97 : I 97 8 = nI (fl I) := (Int32.toInt_inj.mp hL0).symm.trans (fl_bd hB0).1
  have b31 := Bd.o hB0 io9_112_3_6 bd9_6_1
  refine ls_1039 hc v3 _ _ _ ?_
  have e1 : ((v3 + 1) : Int32).toInt = (v3.toInt) + (1) := ti_add rfl rfl (by omega)
  refine ⟨vp_of (a := (v3.toInt + 1)) e1 (by omega) (by omega), ?_⟩
  have z2 := i32 (xs (Int32.toNatClampNeg (v3 + 1)))
  have e3 : ((v3 + 2) : Int32).toInt = (v3.toInt) + (2) := ti_add rfl rfl (by omega)
  refine ⟨vp_of (a := (v3.toInt + 2)) e3 (by omega) (by omega), ?_⟩
  have z4 := i32 (xs (Int32.toNatClampNeg (v3 + 2)))
  refine ⟨fun c5 => ?_, fun c5 => ?_⟩
  · skip
    have d6 : (((xs (Int32.toNatClampNeg (v3 + 2))).toInt) : Int) = (0) := ci_eq rfl rfl c5
    refine ⟨⟨hF0, rfl⟩, ?_⟩
    refine kp7 rfl hR0 rfl (kx (cx_learn (Or.inl rfl) hR0) (kx (cx_learn9 hR0) (kp6 rfl hR0 rfl (kp4 rfl (kp5 rfl hR0 rfl (kp0 rfl (kp1 rfl (kp2 rfl (kp3 rfl (sp_X11_learn hB0 hR0 (fun x7 y12 I8 J9 hB10 p11 kq16 kq15 kq14 kq13 k18 k17 k19 w22 w21 w20 => ?_)))))))))))
    intro o23
    have i24 := i32 x7
    have b25 := Bd.o hB0 io9_112_3_6 bd9_6_1
    have e26 : ((I8 3 1) : Int32).toInt = (I 3 1).toInt := Eq.trans (congrArg Int32.toInt kq13) rfl
    have kz27 : ((I8 3 1) : Int32).toInt = (I 3 1).toInt := e26
    have b28 := Bd.o hB0 io9_112_97_12 bd9_12_8
    have e29 : ((I8 97 8) : Int32).toInt = (I 97 8).toInt := Eq.trans (congrArg Int32.toInt kq14) rfl
    have kz30 : ((I8 97 8) : Int32).toInt = (I 97 8).toInt := e29
    have b31 := Bd.o hB0 io9_112_1_11 bd9_11_13
    have e32 : ((I8 1 13) : Int32).toInt = (I 1 13).toInt := Eq.trans (congrArg Int32.toInt kq15) rfl
    have kz33 : ((I8 1 13) : Int32).toInt = (I 1 13).toInt := e32
    have b34 := Bd.o hB0 io9_112_97_12 bd9_12_23
    have e35 : ((I8 97 23) : Int32).toInt = (I 97 23).toInt := Eq.trans (congrArg Int32.toInt kq16) rfl
    have kz36 : ((I8 97 23) : Int32).toInt = (I 97 23).toInt := e35
    refine ⟨vp_of (a := (v3.toInt + 1)) e1 (by omega) (by omega), ?_⟩
    have z37 := i32 (xs (Int32.toNatClampNeg (v3 + 1)))
    refine ⟨vp_of (a := (v3.toInt + 2)) e3 (by omega) (by omega), ?_⟩
    have z38 := i32 (xs (Int32.toNatClampNeg (v3 + 2)))
    refine ⟨fun c39 => ?_, fun c39 => ?_⟩
    · skip
      have d40 : (((xs (Int32.toNatClampNeg (v3 + 2))).toInt) : Int) = (0) := ci_eq rfl rfl c39
      refine ⟨⟨hF0, rfl⟩, ?_⟩
      refine kp7 rfl hR0 rfl (kx (mx_learn hB10 (Or.inl rfl)) (kx (mx_learn9 hB10) (kp6 rfl hR0 rfl (kp4 rfl (kp5 rfl hR0 rfl (kp0 rfl (kp1 rfl (kp2 rfl (kp3 rfl (sp_X12_learn hB10 hR0 (fun x41 y46 I42 J43 hB44 p45 kq50 kq49 kq48 kq47 k52 k51 k53 w56 w55 w54 => ?_)))))))))))
      intro o57
      have i58 := i32 x41
      have e59 : ((I42 3 1) : Int32).toInt = (I 3 1).toInt := Eq.trans (congrArg Int32.toInt (Eq.trans kq47 kq13)) rfl
      have kz60 : ((I42 3 1) : Int32).toInt = (I 3 1).toInt := e59
      have e61 : ((I42 97 8) : Int32).toInt = (I 97 8).toInt := Eq.trans (congrArg Int32.toInt (Eq.trans kq48 kq14)) rfl
      have kz62 : ((I42 97 8) : Int32).toInt = (I 97 8).toInt := e61
      have e63 : ((I42 1 13) : Int32).toInt = (I 1 13).toInt := Eq.trans (congrArg Int32.toInt (Eq.trans kq49 kq15)) rfl
      have kz64 : ((I42 1 13) : Int32).toInt = (I 1 13).toInt := e63
      have e65 : ((I42 97 23) : Int32).toInt = (I 97 23).toInt := Eq.trans (congrArg Int32.toInt (Eq.trans kq50 kq16)) rfl
      have kz66 : ((I42 97 23) : Int32).toInt = (I 97 23).toInt := e65
      have hr67 := RM.learn hR0 hRM w21 w55
      have hg68 : (x41 : Int32).toInt = (x7 : Int32).toInt := congrArg Int32.toInt hr67.2
      exact hN _ _ R hB44 hR0 hF0 ⟨(Eq.trans (e59) (Eq.trans hL0 (Eq.symm (e61)))), (Eq.trans (e63) (Eq.trans hL1 (Eq.symm (e65)))), (RT.kp (RT.kp hL2 k17 k18) k51 k52), trivial⟩ (R3.kp (R3.kp hR3 w20 (by have ya : ((I8 3 1) : Int32).toInt = (I 3 1).toInt := e26; have yb : ((I 3 1) : Int32).toInt = (I 3 1).toInt := rfl; first | exact Int.le_of_eq (ya.trans yb) | exact ya.trans yb | omega)) w54 (by have ya : ((I42 3 1) : Int32).toInt = (I 3 1).toInt := e59; have yb : ((I8 3 1) : Int32).toInt = (I 3 1).toInt := e26; first | exact Int.le_of_eq (ya.trans yb) | exact ya.trans yb | omega)) (hr67.1) trivial (W9.learn hR0 hW9 w22 w56)
    · skip
      have d69 : ¬ (((xs (Int32.toNatClampNeg (v3 + 2))).toInt) : Int) = (0) := ci_ne rfl rfl c39
      refine ⟨⟨hF0, rfl⟩, ?_⟩
      refine kp7 rfl hR0 rfl (kx (mx_learn hB10 (Or.inr rfl)) (kx (mx_learn9 hB10) (kp6 rfl hR0 rfl (kp4 rfl (kp5 rfl hR0 rfl (kp0 rfl (kp1 rfl (kp2 rfl (kp3 rfl (sp_X12_learn hB10 hR0 (fun x70 y75 I71 J72 hB73 p74 kq79 kq78 kq77 kq76 k81 k80 k82 w85 w84 w83 => ?_)))))))))))
      intro o86
      have i87 := i32 x70
      have e88 : ((I71 3 1) : Int32).toInt = (I 3 1).toInt := Eq.trans (congrArg Int32.toInt (Eq.trans kq76 kq13)) rfl
      have kz89 : ((I71 3 1) : Int32).toInt = (I 3 1).toInt := e88
      have e90 : ((I71 97 8) : Int32).toInt = (I 97 8).toInt := Eq.trans (congrArg Int32.toInt (Eq.trans kq77 kq14)) rfl
      have kz91 : ((I71 97 8) : Int32).toInt = (I 97 8).toInt := e90
      have e92 : ((I71 1 13) : Int32).toInt = (I 1 13).toInt := Eq.trans (congrArg Int32.toInt (Eq.trans kq78 kq15)) rfl
      have kz93 : ((I71 1 13) : Int32).toInt = (I 1 13).toInt := e92
      have e94 : ((I71 97 23) : Int32).toInt = (I 97 23).toInt := Eq.trans (congrArg Int32.toInt (Eq.trans kq79 kq16)) rfl
      have kz95 : ((I71 97 23) : Int32).toInt = (I 97 23).toInt := e94
      have hr96 : RM I71 J72 R ∧ x70 = x7 := False.elim (by omega)
      have hg97 : (x70 : Int32).toInt = (x7 : Int32).toInt := congrArg Int32.toInt hr96.2
      exact hN _ _ R hB73 hR0 hF0 ⟨(Eq.trans (e88) (Eq.trans hL0 (Eq.symm (e90)))), (Eq.trans (e92) (Eq.trans hL1 (Eq.symm (e94)))), (RT.kp (RT.kp hL2 k17 k18) k80 k81), trivial⟩ (R3.kp (R3.kp hR3 w20 (by have ya : ((I8 3 1) : Int32).toInt = (I 3 1).toInt := e26; have yb : ((I 3 1) : Int32).toInt = (I 3 1).toInt := rfl; first | exact Int.le_of_eq (ya.trans yb) | exact ya.trans yb | omega)) w83 (by have ya : ((I71 3 1) : Int32).toInt = (I 3 1).toInt := e88; have yb : ((I8 3 1) : Int32).toInt = (I 3 1).toInt := e26; first | exact Int.le_of_eq (ya.trans yb) | exact ya.trans yb | omega)) (hr96.1) trivial (W9.learn hR0 hW9 w22 w85)
  · skip
    have d98 : ¬ (((xs (Int32.toNatClampNeg (v3 + 2))).toInt) : Int) = (0) := ci_ne rfl rfl c5
    refine ⟨⟨hF0, rfl⟩, ?_⟩
    refine kp7 rfl hR0 rfl (kx (cx_learn (Or.inr rfl) hR0) (kx (cx_learn9 hR0) (kp6 rfl hR0 rfl (kp4 rfl (kp5 rfl hR0 rfl (kp0 rfl (kp1 rfl (kp2 rfl (kp3 rfl (sp_X11_learn hB0 hR0 (fun x99 y104 I100 J101 hB102 p103 kq108 kq107 kq106 kq105 k110 k109 k111 w114 w113 w112 => ?_)))))))))))
    intro o115
    have i116 := i32 x99
    have b117 := Bd.o hB0 io9_112_3_6 bd9_6_1
    have e118 : ((I100 3 1) : Int32).toInt = (I 3 1).toInt := Eq.trans (congrArg Int32.toInt kq105) rfl
    have kz119 : ((I100 3 1) : Int32).toInt = (I 3 1).toInt := e118
    have b120 := Bd.o hB0 io9_112_97_12 bd9_12_8
    have e121 : ((I100 97 8) : Int32).toInt = (I 97 8).toInt := Eq.trans (congrArg Int32.toInt kq106) rfl
    have kz122 : ((I100 97 8) : Int32).toInt = (I 97 8).toInt := e121
    have b123 := Bd.o hB0 io9_112_1_11 bd9_11_13
    have e124 : ((I100 1 13) : Int32).toInt = (I 1 13).toInt := Eq.trans (congrArg Int32.toInt kq107) rfl
    have kz125 : ((I100 1 13) : Int32).toInt = (I 1 13).toInt := e124
    have b126 := Bd.o hB0 io9_112_97_12 bd9_12_23
    have e127 : ((I100 97 23) : Int32).toInt = (I 97 23).toInt := Eq.trans (congrArg Int32.toInt kq108) rfl
    have kz128 : ((I100 97 23) : Int32).toInt = (I 97 23).toInt := e127
    refine ⟨vp_of (a := (v3.toInt + 1)) e1 (by omega) (by omega), ?_⟩
    have z129 := i32 (xs (Int32.toNatClampNeg (v3 + 1)))
    refine ⟨vp_of (a := (v3.toInt + 2)) e3 (by omega) (by omega), ?_⟩
    have z130 := i32 (xs (Int32.toNatClampNeg (v3 + 2)))
    refine ⟨fun c131 => ?_, fun c131 => ?_⟩
    · skip
      have d132 : (((xs (Int32.toNatClampNeg (v3 + 2))).toInt) : Int) = (0) := ci_eq rfl rfl c131
      refine ⟨⟨hF0, rfl⟩, ?_⟩
      refine kp7 rfl hR0 rfl (kx (mx_learn hB102 (Or.inl rfl)) (kx (mx_learn9 hB102) (kp6 rfl hR0 rfl (kp4 rfl (kp5 rfl hR0 rfl (kp0 rfl (kp1 rfl (kp2 rfl (kp3 rfl (sp_X12_learn hB102 hR0 (fun x133 y138 I134 J135 hB136 p137 kq142 kq141 kq140 kq139 k144 k143 k145 w148 w147 w146 => ?_)))))))))))
      intro o149
      have i150 := i32 x133
      have e151 : ((I134 3 1) : Int32).toInt = (I 3 1).toInt := Eq.trans (congrArg Int32.toInt (Eq.trans kq139 kq105)) rfl
      have kz152 : ((I134 3 1) : Int32).toInt = (I 3 1).toInt := e151
      have e153 : ((I134 97 8) : Int32).toInt = (I 97 8).toInt := Eq.trans (congrArg Int32.toInt (Eq.trans kq140 kq106)) rfl
      have kz154 : ((I134 97 8) : Int32).toInt = (I 97 8).toInt := e153
      have e155 : ((I134 1 13) : Int32).toInt = (I 1 13).toInt := Eq.trans (congrArg Int32.toInt (Eq.trans kq141 kq107)) rfl
      have kz156 : ((I134 1 13) : Int32).toInt = (I 1 13).toInt := e155
      have e157 : ((I134 97 23) : Int32).toInt = (I 97 23).toInt := Eq.trans (congrArg Int32.toInt (Eq.trans kq142 kq108)) rfl
      have kz158 : ((I134 97 23) : Int32).toInt = (I 97 23).toInt := e157
      have hr159 : RM I134 J135 R ∧ x133 = x99 := False.elim (by omega)
      have hg160 : (x133 : Int32).toInt = (x99 : Int32).toInt := congrArg Int32.toInt hr159.2
      exact hN _ _ R hB136 hR0 hF0 ⟨(Eq.trans (e151) (Eq.trans hL0 (Eq.symm (e153)))), (Eq.trans (e155) (Eq.trans hL1 (Eq.symm (e157)))), (RT.kp (RT.kp hL2 k109 k110) k143 k144), trivial⟩ (R3.kp (R3.kp hR3 w112 (by have ya : ((I100 3 1) : Int32).toInt = (I 3 1).toInt := e118; have yb : ((I 3 1) : Int32).toInt = (I 3 1).toInt := rfl; first | exact Int.le_of_eq (ya.trans yb) | exact ya.trans yb | omega)) w146 (by have ya : ((I134 3 1) : Int32).toInt = (I 3 1).toInt := e151; have yb : ((I100 3 1) : Int32).toInt = (I 3 1).toInt := e118; first | exact Int.le_of_eq (ya.trans yb) | exact ya.trans yb | omega)) (hr159.1) trivial (W9.learn hR0 hW9 w114 w148)
    · skip
      have d161 : ¬ (((xs (Int32.toNatClampNeg (v3 + 2))).toInt) : Int) = (0) := ci_ne rfl rfl c131
      refine ⟨⟨hF0, rfl⟩, ?_⟩
      refine kp7 rfl hR0 rfl (kx (mx_learn hB102 (Or.inr rfl)) (kx (mx_learn9 hB102) (kp6 rfl hR0 rfl (kp4 rfl (kp5 rfl hR0 rfl (kp0 rfl (kp1 rfl (kp2 rfl (kp3 rfl (sp_X12_learn hB102 hR0 (fun x162 y167 I163 J164 hB165 p166 kq171 kq170 kq169 kq168 k173 k172 k174 w177 w176 w175 => ?_)))))))))))
      intro o178
      have i179 := i32 x162
      have e180 : ((I163 3 1) : Int32).toInt = (I 3 1).toInt := Eq.trans (congrArg Int32.toInt (Eq.trans kq168 kq105)) rfl
      have kz181 : ((I163 3 1) : Int32).toInt = (I 3 1).toInt := e180
      have e182 : ((I163 97 8) : Int32).toInt = (I 97 8).toInt := Eq.trans (congrArg Int32.toInt (Eq.trans kq169 kq106)) rfl
      have kz183 : ((I163 97 8) : Int32).toInt = (I 97 8).toInt := e182
      have e184 : ((I163 1 13) : Int32).toInt = (I 1 13).toInt := Eq.trans (congrArg Int32.toInt (Eq.trans kq170 kq107)) rfl
      have kz185 : ((I163 1 13) : Int32).toInt = (I 1 13).toInt := e184
      have e186 : ((I163 97 23) : Int32).toInt = (I 97 23).toInt := Eq.trans (congrArg Int32.toInt (Eq.trans kq171 kq108)) rfl
      have kz187 : ((I163 97 23) : Int32).toInt = (I 97 23).toInt := e186
      have hr188 := RM.learn hR0 hRM w113 w176
      have hg189 : (x162 : Int32).toInt = (x99 : Int32).toInt := congrArg Int32.toInt hr188.2
      exact hN _ _ R hB165 hR0 hF0 ⟨(Eq.trans (e180) (Eq.trans hL0 (Eq.symm (e182)))), (Eq.trans (e184) (Eq.trans hL1 (Eq.symm (e186)))), (RT.kp (RT.kp hL2 k109 k110) k172 k173), trivial⟩ (R3.kp (R3.kp hR3 w112 (by have ya : ((I100 3 1) : Int32).toInt = (I 3 1).toInt := e118; have yb : ((I 3 1) : Int32).toInt = (I 3 1).toInt := rfl; first | exact Int.le_of_eq (ya.trans yb) | exact ya.trans yb | omega)) w175 (by have ya : ((I163 3 1) : Int32).toInt = (I 3 1).toInt := e180; have yb : ((I100 3 1) : Int32).toInt = (I 3 1).toInt := e118; first | exact Int.le_of_eq (ya.trans yb) | exact ya.trans yb | omega)) (hr188.1) trivial (W9.learn hR0 hW9 w114 w177)
set_option maxRecDepth 100000 in
set_option maxHeartbeats 2000000 in
theorem lc_26 {Q : Nat → Qt} {P : Kt} {L : Nat} {xs : Nat → Int32} (hc : Cl (AM 640) false true L xs 2 112 kL_law Q P) (hL : L ≤ 3584) {v3 : Int32} {I : Im} {J : Jm} {R : Rm} (hB0 : Bd I) (hR0 : RI R) (hF0 : Fl R) (hL0 : (I 3 1).toInt = (I 97 8).toInt) (hL1 : (I 1 13).toInt = (I 97 23).toInt) (hL2 : RT I) (hL3 : True) (hR3 : R3 I J) (hRM : RM I J R) (hFQ : True) (hW9 : W9 I R) (h0 : 0 ≤ v3.toInt) (h7 : v3.toInt + 7 ≤ (L : Int)) (hN : ∀ (I : Im) (J : Jm) (R : Rm), Bd I → RI R → Fl R → RLz I → R3 I J → RM I J R → True → W9 I R → P 1889 112 [(0, .ref 0), (1, .ref 1), (2, .ref 97), (3, .int v3)] [] I J R) : P 1088 112 [(0, .ref 0), (1, .ref 1), (2, .ref 97), (3, .int v3)] [] I J R := by
  have i_v3 := i32 v3
  have e97 : I 97 8 = nI (fl I) := (Int32.toInt_inj.mp hL0).symm.trans (fl_bd hB0).1
  have b31 := Bd.o hB0 io9_112_3_6 bd9_6_1
  refine ls_1088 hc v3 _ _ _ ?_
  have e1 : ((v3 + 1) : Int32).toInt = (v3.toInt) + (1) := ti_add rfl rfl (by omega)
  refine ⟨vp_of (a := (v3.toInt + 1)) e1 (by omega) (by omega), ?_⟩
  have z2 := i32 (xs (Int32.toNatClampNeg (v3 + 1)))
  refine ⟨⟨hF0, rfl⟩, ?_⟩
  refine kp7 rfl hR0 rfl (kpA rfl (kpnm rfl hR0 rfl (kp102 rfl hR0 rfl (kx (cx_rule9 hR0) (kp6 rfl hR0 rfl (kp4 rfl (kp5 rfl hR0 rfl (kp0 rfl (kp1 rfl (kp2 rfl (kp3 rfl (sp_X11_rule hB0 hR0 (fun x3 y8 I4 J5 hB6 p7 kq12 kq11 kq10 kq9 k14 k13 k15 w20 w19 w18 w17 w16 => ?_)))))))))))))
  intro o21
  have i22 := i32 x3
  have b23 := Bd.o hB0 io9_112_3_6 bd9_6_1
  have e24 : ((I4 3 1) : Int32).toInt = (I 3 1).toInt := Eq.trans (congrArg Int32.toInt kq9) rfl
  have kz25 : ((I4 3 1) : Int32).toInt = (I 3 1).toInt := e24
  have b26 := Bd.o hB0 io9_112_97_12 bd9_12_8
  have e27 : ((I4 97 8) : Int32).toInt = (I 97 8).toInt := Eq.trans (congrArg Int32.toInt kq10) rfl
  have kz28 : ((I4 97 8) : Int32).toInt = (I 97 8).toInt := e27
  have b29 := Bd.o hB0 io9_112_1_11 bd9_11_13
  have e30 : ((I4 1 13) : Int32).toInt = (I 1 13).toInt := Eq.trans (congrArg Int32.toInt kq11) rfl
  have kz31 : ((I4 1 13) : Int32).toInt = (I 1 13).toInt := e30
  have b32 := Bd.o hB0 io9_112_97_12 bd9_12_23
  have e33 : ((I4 97 23) : Int32).toInt = (I 97 23).toInt := Eq.trans (congrArg Int32.toInt kq12) rfl
  have kz34 : ((I4 97 23) : Int32).toInt = (I 97 23).toInt := e33
  refine ⟨vp_of (a := (v3.toInt + 1)) e1 (by omega) (by omega), ?_⟩
  have z35 := i32 (xs (Int32.toNatClampNeg (v3 + 1)))
  refine ⟨⟨hF0, rfl⟩, ?_⟩
  refine kp7 rfl hR0 rfl (kpA rfl (kpnm rfl hR0 rfl (kx (mx_rule9 hR0 hW9 w20) (kp6 rfl hR0 rfl (kp4 rfl (kp5 rfl hR0 rfl (kp0 rfl (kp1 rfl (kp2 rfl (kp3 rfl (sp_X12_rule hB6 hR0 (fun x36 y41 I37 J38 hB39 p40 kq45 kq44 kq43 kq42 k47 k46 k48 w52 w51 w50 w49 => ?_))))))))))))
  intro o53
  have f54 : Fr pK I4 I37 := p40.1
  have i55 := i32 x36
  have e56 : ((I37 3 1) : Int32).toInt = (I 3 1).toInt := Eq.trans (congrArg Int32.toInt (Eq.trans kq42 kq9)) rfl
  have kz57 : ((I37 3 1) : Int32).toInt = (I 3 1).toInt := e56
  have e58 : ((I37 97 8) : Int32).toInt = (I 97 8).toInt := Eq.trans (congrArg Int32.toInt (Eq.trans kq43 kq10)) rfl
  have kz59 : ((I37 97 8) : Int32).toInt = (I 97 8).toInt := e58
  have e60 : ((I37 1 13) : Int32).toInt = (I 1 13).toInt := Eq.trans (congrArg Int32.toInt (Eq.trans kq44 kq11)) rfl
  have kz61 : ((I37 1 13) : Int32).toInt = (I 1 13).toInt := e60
  have e62 : ((I37 97 23) : Int32).toInt = (I 97 23).toInt := Eq.trans (congrArg Int32.toInt (Eq.trans kq45 kq12)) rfl
  have kz63 : ((I37 97 23) : Int32).toInt = (I 97 23).toInt := e62
  have hg64 : (x36 : Int32).toInt = (x3 : Int32).toInt := congrArg Int32.toInt (w52.1)
  exact hN _ _ R hB39 hR0 hF0 ⟨(Eq.trans (e56) (Eq.trans hL0 (Eq.symm (e58)))), (Eq.trans (e60) (Eq.trans hL1 (Eq.symm (e62)))), (RT.kp (RT.kp hL2 k13 k14) k46 k47), trivial⟩ (R3.kp (R3.kp hR3 w16 (by have ya : ((I4 3 1) : Int32).toInt = (I 3 1).toInt := e24; have yb : ((I 3 1) : Int32).toInt = (I 3 1).toInt := rfl; first | exact Int.le_of_eq (ya.trans yb) | exact ya.trans yb | omega)) w49 (by have ya : ((I37 3 1) : Int32).toInt = (I 3 1).toInt := e56; have yb : ((I4 3 1) : Int32).toInt = (I 3 1).toInt := e24; first | exact Int.le_of_eq (ya.trans yb) | exact ya.trans yb | omega)) (RM.kp hR0 (RM.kp hR0 hRM ⟨w17, w18, (fun j _ => congrFun w19.1 j)⟩) ⟨w50, w51, (fun j hj => f54.1 j hj)⟩) trivial (w52.2)
set_option maxRecDepth 100000 in
set_option maxHeartbeats 2000000 in
theorem lc_27 {Q : Nat → Qt} {P : Kt} {L : Nat} {xs : Nat → Int32} (hc : Cl (AM 640) false true L xs 2 112 kL_law Q P) (hL : L ≤ 3584) {v3 : Int32} {I : Im} {J : Jm} {R : Rm} (hB0 : Bd I) (hR0 : RI R) (hF0 : Fl R) (hL0 : (I 3 1).toInt = (I 97 8).toInt) (hL1 : (I 1 13).toInt = (I 97 23).toInt) (hL2 : RT I) (hL3 : True) (hR3 : R3 I J) (hRM : RM I J R) (hFQ : True) (hW9 : W9 I R) (h0 : 0 ≤ v3.toInt) (h7 : v3.toInt + 7 ≤ (L : Int)) (hN : ∀ (I : Im) (J : Jm) (R : Rm), Bd I → RI R → Fl R → RLz I → R3 I J → RM I J R → True → W9 I R → P 1889 112 [(0, .ref 0), (1, .ref 1), (2, .ref 97), (3, .int v3)] [] I J R) : P 1111 112 [(0, .ref 0), (1, .ref 1), (2, .ref 97), (3, .int v3)] [] I J R := by
  have i_v3 := i32 v3
  have e97 : I 97 8 = nI (fl I) := (Int32.toInt_inj.mp hL0).symm.trans (fl_bd hB0).1
  have b31 := Bd.o hB0 io9_112_3_6 bd9_6_1
  refine ls_1111 hc v3 _ _ _ ?_
  have e1 : ((v3 + 1) : Int32).toInt = (v3.toInt) + (1) := ti_add rfl rfl (by omega)
  refine ⟨vp_of (a := (v3.toInt + 1)) e1 (by omega) (by omega), ?_⟩
  have z2 := i32 (xs (Int32.toNatClampNeg (v3 + 1)))
  have e3 : ((v3 + 2) : Int32).toInt = (v3.toInt) + (2) := ti_add rfl rfl (by omega)
  refine ⟨vp_of (a := (v3.toInt + 2)) e3 (by omega) (by omega), ?_⟩
  have z4 := i32 (xs (Int32.toNatClampNeg (v3 + 2)))
  refine ⟨⟨hF0, rfl⟩, ?_⟩
  refine kp7 rfl hR0 rfl (kpA rfl (kpnm rfl hR0 rfl (kp102 rfl hR0 rfl (kpW9 rfl hR0 rfl (kp6 rfl hR0 rfl (kp4 rfl (kp5 rfl hR0 rfl (kp0 rfl (kp1 rfl (kp2 rfl (kp3 rfl (sp_X11_fewest hB0 hR0 (fun x5 y10 I6 J7 hB8 p9 kq14 kq13 kq12 kq11 k16 k15 k17 w22 w21 w20 w19 w18 => ?_)))))))))))))
  have i23 := i32 x5
  have b24 := Bd.o hB0 io9_112_3_6 bd9_6_1
  have e25 : ((I6 3 1) : Int32).toInt = (I 3 1).toInt := Eq.trans (congrArg Int32.toInt kq11) rfl
  have kz26 : ((I6 3 1) : Int32).toInt = (I 3 1).toInt := e25
  have b27 := Bd.o hB0 io9_112_97_12 bd9_12_8
  have e28 : ((I6 97 8) : Int32).toInt = (I 97 8).toInt := Eq.trans (congrArg Int32.toInt kq12) rfl
  have kz29 : ((I6 97 8) : Int32).toInt = (I 97 8).toInt := e28
  have b30 := Bd.o hB0 io9_112_1_11 bd9_11_13
  have e31 : ((I6 1 13) : Int32).toInt = (I 1 13).toInt := Eq.trans (congrArg Int32.toInt kq13) rfl
  have kz32 : ((I6 1 13) : Int32).toInt = (I 1 13).toInt := e31
  have b33 := Bd.o hB0 io9_112_97_12 bd9_12_23
  have e34 : ((I6 97 23) : Int32).toInt = (I 97 23).toInt := Eq.trans (congrArg Int32.toInt kq14) rfl
  have kz35 : ((I6 97 23) : Int32).toInt = (I 97 23).toInt := e34
  refine ⟨vp_of (a := (v3.toInt + 1)) e1 (by omega) (by omega), ?_⟩
  have z36 := i32 (xs (Int32.toNatClampNeg (v3 + 1)))
  refine ⟨vp_of (a := (v3.toInt + 2)) e3 (by omega) (by omega), ?_⟩
  have z37 := i32 (xs (Int32.toNatClampNeg (v3 + 2)))
  refine ⟨⟨hF0, rfl⟩, ?_⟩
  refine kp7 rfl hR0 rfl (kpA rfl (kpnm rfl hR0 rfl (kpW9 rfl hR0 rfl (kp6 rfl hR0 rfl (kp4 rfl (kp5 rfl hR0 rfl (kp0 rfl (kp1 rfl (kp2 rfl (kp3 rfl (sp_X12_fewest hB8 hR0 (fun x38 y43 I39 J40 hB41 p42 kq47 kq46 kq45 kq44 k49 k48 k50 w54 w53 w52 w51 => ?_))))))))))))
  have f55 : Fr pT I6 I39 := p42
  have i56 := i32 x38
  have e57 : ((I39 3 1) : Int32).toInt = (I 3 1).toInt := Eq.trans (congrArg Int32.toInt (Eq.trans kq44 kq11)) rfl
  have kz58 : ((I39 3 1) : Int32).toInt = (I 3 1).toInt := e57
  have e59 : ((I39 97 8) : Int32).toInt = (I 97 8).toInt := Eq.trans (congrArg Int32.toInt (Eq.trans kq45 kq12)) rfl
  have kz60 : ((I39 97 8) : Int32).toInt = (I 97 8).toInt := e59
  have e61 : ((I39 1 13) : Int32).toInt = (I 1 13).toInt := Eq.trans (congrArg Int32.toInt (Eq.trans kq46 kq13)) rfl
  have kz62 : ((I39 1 13) : Int32).toInt = (I 1 13).toInt := e61
  have e63 : ((I39 97 23) : Int32).toInt = (I 97 23).toInt := Eq.trans (congrArg Int32.toInt (Eq.trans kq47 kq14)) rfl
  have kz64 : ((I39 97 23) : Int32).toInt = (I 97 23).toInt := e63
  exact hN _ _ R hB41 hR0 hF0 ⟨(Eq.trans (e57) (Eq.trans hL0 (Eq.symm (e59)))), (Eq.trans (e61) (Eq.trans hL1 (Eq.symm (e63)))), (RT.kp (RT.kp hL2 k15 k16) k48 k49), trivial⟩ (R3.kp (R3.kp hR3 w18 (by have ya : ((I6 3 1) : Int32).toInt = (I 3 1).toInt := e25; have yb : ((I 3 1) : Int32).toInt = (I 3 1).toInt := rfl; first | exact Int.le_of_eq (ya.trans yb) | exact ya.trans yb | omega)) w51 (by have ya : ((I39 3 1) : Int32).toInt = (I 3 1).toInt := e57; have yb : ((I6 3 1) : Int32).toInt = (I 3 1).toInt := e25; first | exact Int.le_of_eq (ya.trans yb) | exact ya.trans yb | omega)) (RM.kp hR0 (RM.kp hR0 hRM ⟨w19, w20, (fun j _ => congrFun w21.1 j)⟩) ⟨w52, w53, (fun j _ => f55.1 j trivial)⟩) trivial (W9.kp hR0 (W9.kp hR0 hW9 w22 w21.1 w19.2) w54 (funext fun j => f55.1 j trivial) w52.2)
set_option maxRecDepth 100000 in
set_option maxHeartbeats 2000000 in
theorem lc_28 {Q : Nat → Qt} {P : Kt} {L : Nat} {xs : Nat → Int32} (hc : Cl (AM 640) false true L xs 2 112 kL_law Q P) (hL : L ≤ 3584) {v3 : Int32} {I : Im} {J : Jm} {R : Rm} (hB0 : Bd I) (hR0 : RI R) (hF0 : Fl R) (hL0 : (I 3 1).toInt = (I 97 8).toInt) (hL1 : (I 1 13).toInt = (I 97 23).toInt) (hL2 : RT I) (hL3 : True) (hR3 : R3 I J) (hRM : RM I J R) (hFQ : True) (hW9 : W9 I R) (h0 : 0 ≤ v3.toInt) (h7 : v3.toInt + 7 ≤ (L : Int)) (hN : ∀ (I : Im) (J : Jm) (R : Rm), Bd I → RI R → Fl R → RLz I → R3 I J → RM I J R → True → W9 I R → P 1889 112 [(0, .ref 0), (1, .ref 1), (2, .ref 97), (3, .int v3)] [] I J R) : P 1144 112 [(0, .ref 0), (1, .ref 1), (2, .ref 97), (3, .int v3)] [] I J R := by
  have i_v3 := i32 v3
  have e97 : I 97 8 = nI (fl I) := (Int32.toInt_inj.mp hL0).symm.trans (fl_bd hB0).1
  have b31 := Bd.o hB0 io9_112_3_6 bd9_6_1
  refine ls_1144 hc v3 _ _ _ ?_
  have e1 : ((v3 + 1) : Int32).toInt = (v3.toInt) + (1) := ti_add rfl rfl (by omega)
  refine ⟨vp_of (a := (v3.toInt + 1)) e1 (by omega) (by omega), ?_⟩
  have z2 := i32 (xs (Int32.toNatClampNeg (v3 + 1)))
  have e3 : ((v3 + 2) : Int32).toInt = (v3.toInt) + (2) := ti_add rfl rfl (by omega)
  refine ⟨vp_of (a := (v3.toInt + 2)) e3 (by omega) (by omega), ?_⟩
  have z4 := i32 (xs (Int32.toNatClampNeg (v3 + 2)))
  have e5 : ((v3 + 3) : Int32).toInt = (v3.toInt) + (3) := ti_add rfl rfl (by omega)
  refine ⟨vp_of (a := (v3.toInt + 3)) e5 (by omega) (by omega), ?_⟩
  have z6 := i32 (xs (Int32.toNatClampNeg (v3 + 3)))
  refine ⟨⟨hF0, rfl⟩, ?_⟩
  refine kp7 rfl hR0 rfl (kpA rfl (kpnm rfl hR0 rfl (kp102 rfl hR0 rfl (kpW9 rfl hR0 rfl (kp6 rfl hR0 rfl (kp4 rfl (kp5 rfl hR0 rfl (kp0 rfl (kp1 rfl (kp2 rfl (kp3 rfl (sp_X11_fewestAt hB0 hR0 (fun x7 y12 I8 J9 hB10 p11 kq16 kq15 kq14 kq13 k18 k17 k19 w24 w23 w22 w21 w20 => ?_)))))))))))))
  have i25 := i32 x7
  have b26 := Bd.o hB0 io9_112_3_6 bd9_6_1
  have e27 : ((I8 3 1) : Int32).toInt = (I 3 1).toInt := Eq.trans (congrArg Int32.toInt kq13) rfl
  have kz28 : ((I8 3 1) : Int32).toInt = (I 3 1).toInt := e27
  have b29 := Bd.o hB0 io9_112_97_12 bd9_12_8
  have e30 : ((I8 97 8) : Int32).toInt = (I 97 8).toInt := Eq.trans (congrArg Int32.toInt kq14) rfl
  have kz31 : ((I8 97 8) : Int32).toInt = (I 97 8).toInt := e30
  have b32 := Bd.o hB0 io9_112_1_11 bd9_11_13
  have e33 : ((I8 1 13) : Int32).toInt = (I 1 13).toInt := Eq.trans (congrArg Int32.toInt kq15) rfl
  have kz34 : ((I8 1 13) : Int32).toInt = (I 1 13).toInt := e33
  have b35 := Bd.o hB0 io9_112_97_12 bd9_12_23
  have e36 : ((I8 97 23) : Int32).toInt = (I 97 23).toInt := Eq.trans (congrArg Int32.toInt kq16) rfl
  have kz37 : ((I8 97 23) : Int32).toInt = (I 97 23).toInt := e36
  refine ⟨vp_of (a := (v3.toInt + 1)) e1 (by omega) (by omega), ?_⟩
  have z38 := i32 (xs (Int32.toNatClampNeg (v3 + 1)))
  refine ⟨vp_of (a := (v3.toInt + 2)) e3 (by omega) (by omega), ?_⟩
  have z39 := i32 (xs (Int32.toNatClampNeg (v3 + 2)))
  refine ⟨vp_of (a := (v3.toInt + 3)) e5 (by omega) (by omega), ?_⟩
  have z40 := i32 (xs (Int32.toNatClampNeg (v3 + 3)))
  refine ⟨⟨hF0, rfl⟩, ?_⟩
  refine kp7 rfl hR0 rfl (kpA rfl (kpnm rfl hR0 rfl (kpW9 rfl hR0 rfl (kp6 rfl hR0 rfl (kp4 rfl (kp5 rfl hR0 rfl (kp0 rfl (kp1 rfl (kp2 rfl (kp3 rfl (sp_X12_fewestAt hB10 hR0 (fun x41 y46 I42 J43 hB44 p45 kq50 kq49 kq48 kq47 k52 k51 k53 w57 w56 w55 w54 => ?_))))))))))))
  have f58 : Fr pT I8 I42 := p45
  have i59 := i32 x41
  have e60 : ((I42 3 1) : Int32).toInt = (I 3 1).toInt := Eq.trans (congrArg Int32.toInt (Eq.trans kq47 kq13)) rfl
  have kz61 : ((I42 3 1) : Int32).toInt = (I 3 1).toInt := e60
  have e62 : ((I42 97 8) : Int32).toInt = (I 97 8).toInt := Eq.trans (congrArg Int32.toInt (Eq.trans kq48 kq14)) rfl
  have kz63 : ((I42 97 8) : Int32).toInt = (I 97 8).toInt := e62
  have e64 : ((I42 1 13) : Int32).toInt = (I 1 13).toInt := Eq.trans (congrArg Int32.toInt (Eq.trans kq49 kq15)) rfl
  have kz65 : ((I42 1 13) : Int32).toInt = (I 1 13).toInt := e64
  have e66 : ((I42 97 23) : Int32).toInt = (I 97 23).toInt := Eq.trans (congrArg Int32.toInt (Eq.trans kq50 kq16)) rfl
  have kz67 : ((I42 97 23) : Int32).toInt = (I 97 23).toInt := e66
  exact hN _ _ R hB44 hR0 hF0 ⟨(Eq.trans (e60) (Eq.trans hL0 (Eq.symm (e62)))), (Eq.trans (e64) (Eq.trans hL1 (Eq.symm (e66)))), (RT.kp (RT.kp hL2 k17 k18) k51 k52), trivial⟩ (R3.kp (R3.kp hR3 w20 (by have ya : ((I8 3 1) : Int32).toInt = (I 3 1).toInt := e27; have yb : ((I 3 1) : Int32).toInt = (I 3 1).toInt := rfl; first | exact Int.le_of_eq (ya.trans yb) | exact ya.trans yb | omega)) w54 (by have ya : ((I42 3 1) : Int32).toInt = (I 3 1).toInt := e60; have yb : ((I8 3 1) : Int32).toInt = (I 3 1).toInt := e27; first | exact Int.le_of_eq (ya.trans yb) | exact ya.trans yb | omega)) (RM.kp hR0 (RM.kp hR0 hRM ⟨w21, w22, (fun j _ => congrFun w23.1 j)⟩) ⟨w55, w56, (fun j _ => f58.1 j trivial)⟩) trivial (W9.kp hR0 (W9.kp hR0 hW9 w24 w23.1 w21.2) w57 (funext fun j => f58.1 j trivial) w55.2)
set_option maxRecDepth 100000 in
set_option maxHeartbeats 2000000 in
theorem lc_29 {Q : Nat → Qt} {P : Kt} {L : Nat} {xs : Nat → Int32} (hc : Cl (AM 640) false true L xs 2 112 kL_law Q P) (hL : L ≤ 3584) {v3 : Int32} {I : Im} {J : Jm} {R : Rm} (hB0 : Bd I) (hR0 : RI R) (hF0 : Fl R) (hL0 : (I 3 1).toInt = (I 97 8).toInt) (hL1 : (I 1 13).toInt = (I 97 23).toInt) (hL2 : RT I) (hL3 : True) (hR3 : R3 I J) (hRM : RM I J R) (hFQ : True) (hW9 : W9 I R) (h0 : 0 ≤ v3.toInt) (h7 : v3.toInt + 7 ≤ (L : Int)) (hN : ∀ (I : Im) (J : Jm) (R : Rm), Bd I → RI R → Fl R → RLz I → R3 I J → RM I J R → True → W9 I R → P 1889 112 [(0, .ref 0), (1, .ref 1), (2, .ref 97), (3, .int v3)] [] I J R) : P 1187 112 [(0, .ref 0), (1, .ref 1), (2, .ref 97), (3, .int v3)] [] I J R := by
  have i_v3 := i32 v3
  have e97 : I 97 8 = nI (fl I) := (Int32.toInt_inj.mp hL0).symm.trans (fl_bd hB0).1
  have b31 := Bd.o hB0 io9_112_3_6 bd9_6_1
  refine ls_1187 hc v3 _ _ _ ?_
  have e1 : ((v3 + 1) : Int32).toInt = (v3.toInt) + (1) := ti_add rfl rfl (by omega)
  refine ⟨vp_of (a := (v3.toInt + 1)) e1 (by omega) (by omega), ?_⟩
  have z2 := i32 (xs (Int32.toNatClampNeg (v3 + 1)))
  have e3 : ((v3 + 2) : Int32).toInt = (v3.toInt) + (2) := ti_add rfl rfl (by omega)
  refine ⟨vp_of (a := (v3.toInt + 2)) e3 (by omega) (by omega), ?_⟩
  have z4 := i32 (xs (Int32.toNatClampNeg (v3 + 2)))
  have e5 : ((v3 + 3) : Int32).toInt = (v3.toInt) + (3) := ti_add rfl rfl (by omega)
  refine ⟨vp_of (a := (v3.toInt + 3)) e5 (by omega) (by omega), ?_⟩
  have z6 := i32 (xs (Int32.toNatClampNeg (v3 + 3)))
  refine ⟨⟨hF0, rfl⟩, ?_⟩
  refine kp7 rfl hR0 rfl (kpA rfl (kpnm rfl hR0 rfl (kp102 rfl hR0 rfl (kpW9 rfl hR0 rfl (kp6 rfl hR0 rfl (kp4 rfl (kp5 rfl hR0 rfl (kp0 rfl (kp1 rfl (kp2 rfl (kp3 rfl (sp_X11_ways hB0 hR0 (fun x7 y12 I8 J9 hB10 p11 kq16 kq15 kq14 kq13 k18 k17 k19 w24 w23 w22 w21 w20 => ?_)))))))))))))
  have i25 := i32 x7
  have b26 := Bd.o hB0 io9_112_3_6 bd9_6_1
  have e27 : ((I8 3 1) : Int32).toInt = (I 3 1).toInt := Eq.trans (congrArg Int32.toInt kq13) rfl
  have kz28 : ((I8 3 1) : Int32).toInt = (I 3 1).toInt := e27
  have b29 := Bd.o hB0 io9_112_97_12 bd9_12_8
  have e30 : ((I8 97 8) : Int32).toInt = (I 97 8).toInt := Eq.trans (congrArg Int32.toInt kq14) rfl
  have kz31 : ((I8 97 8) : Int32).toInt = (I 97 8).toInt := e30
  have b32 := Bd.o hB0 io9_112_1_11 bd9_11_13
  have e33 : ((I8 1 13) : Int32).toInt = (I 1 13).toInt := Eq.trans (congrArg Int32.toInt kq15) rfl
  have kz34 : ((I8 1 13) : Int32).toInt = (I 1 13).toInt := e33
  have b35 := Bd.o hB0 io9_112_97_12 bd9_12_23
  have e36 : ((I8 97 23) : Int32).toInt = (I 97 23).toInt := Eq.trans (congrArg Int32.toInt kq16) rfl
  have kz37 : ((I8 97 23) : Int32).toInt = (I 97 23).toInt := e36
  refine ⟨vp_of (a := (v3.toInt + 1)) e1 (by omega) (by omega), ?_⟩
  have z38 := i32 (xs (Int32.toNatClampNeg (v3 + 1)))
  refine ⟨vp_of (a := (v3.toInt + 2)) e3 (by omega) (by omega), ?_⟩
  have z39 := i32 (xs (Int32.toNatClampNeg (v3 + 2)))
  refine ⟨vp_of (a := (v3.toInt + 3)) e5 (by omega) (by omega), ?_⟩
  have z40 := i32 (xs (Int32.toNatClampNeg (v3 + 3)))
  refine ⟨⟨hF0, rfl⟩, ?_⟩
  refine kp7 rfl hR0 rfl (kpA rfl (kpnm rfl hR0 rfl (kpW9 rfl hR0 rfl (kp6 rfl hR0 rfl (kp4 rfl (kp5 rfl hR0 rfl (kp0 rfl (kp1 rfl (kp2 rfl (kp3 rfl (sp_X12_ways hB10 hR0 (fun x41 y46 I42 J43 hB44 p45 kq50 kq49 kq48 kq47 k52 k51 k53 w57 w56 w55 w54 => ?_))))))))))))
  have f58 : Fr pT I8 I42 := p45
  have i59 := i32 x41
  have e60 : ((I42 3 1) : Int32).toInt = (I 3 1).toInt := Eq.trans (congrArg Int32.toInt (Eq.trans kq47 kq13)) rfl
  have kz61 : ((I42 3 1) : Int32).toInt = (I 3 1).toInt := e60
  have e62 : ((I42 97 8) : Int32).toInt = (I 97 8).toInt := Eq.trans (congrArg Int32.toInt (Eq.trans kq48 kq14)) rfl
  have kz63 : ((I42 97 8) : Int32).toInt = (I 97 8).toInt := e62
  have e64 : ((I42 1 13) : Int32).toInt = (I 1 13).toInt := Eq.trans (congrArg Int32.toInt (Eq.trans kq49 kq15)) rfl
  have kz65 : ((I42 1 13) : Int32).toInt = (I 1 13).toInt := e64
  have e66 : ((I42 97 23) : Int32).toInt = (I 97 23).toInt := Eq.trans (congrArg Int32.toInt (Eq.trans kq50 kq16)) rfl
  have kz67 : ((I42 97 23) : Int32).toInt = (I 97 23).toInt := e66
  exact hN _ _ R hB44 hR0 hF0 ⟨(Eq.trans (e60) (Eq.trans hL0 (Eq.symm (e62)))), (Eq.trans (e64) (Eq.trans hL1 (Eq.symm (e66)))), (RT.kp (RT.kp hL2 k17 k18) k51 k52), trivial⟩ (R3.kp (R3.kp hR3 w20 (by have ya : ((I8 3 1) : Int32).toInt = (I 3 1).toInt := e27; have yb : ((I 3 1) : Int32).toInt = (I 3 1).toInt := rfl; first | exact Int.le_of_eq (ya.trans yb) | exact ya.trans yb | omega)) w54 (by have ya : ((I42 3 1) : Int32).toInt = (I 3 1).toInt := e60; have yb : ((I8 3 1) : Int32).toInt = (I 3 1).toInt := e27; first | exact Int.le_of_eq (ya.trans yb) | exact ya.trans yb | omega)) (RM.kp hR0 (RM.kp hR0 hRM ⟨w21, w22, (fun j _ => congrFun w23.1 j)⟩) ⟨w55, w56, (fun j _ => f58.1 j trivial)⟩) trivial (W9.kp hR0 (W9.kp hR0 hW9 w24 w23.1 w21.2) w57 (funext fun j => f58.1 j trivial) w55.2)
set_option maxRecDepth 100000 in
set_option maxHeartbeats 2000000 in
theorem lc_30 {Q : Nat → Qt} {P : Kt} {L : Nat} {xs : Nat → Int32} (hc : Cl (AM 640) false true L xs 2 112 kL_law Q P) (hL : L ≤ 3584) {v3 : Int32} {I : Im} {J : Jm} {R : Rm} (hB0 : Bd I) (hR0 : RI R) (hF0 : Fl R) (hL0 : (I 3 1).toInt = (I 97 8).toInt) (hL1 : (I 1 13).toInt = (I 97 23).toInt) (hL2 : RT I) (hL3 : True) (hR3 : R3 I J) (hRM : RM I J R) (hFQ : True) (hW9 : W9 I R) (h0 : 0 ≤ v3.toInt) (h7 : v3.toInt + 7 ≤ (L : Int)) (hN : ∀ (I : Im) (J : Jm) (R : Rm), Bd I → RI R → Fl R → RLz I → R3 I J → RM I J R → True → W9 I R → P 1889 112 [(0, .ref 0), (1, .ref 1), (2, .ref 97), (3, .int v3)] [] I J R) : P 1230 112 [(0, .ref 0), (1, .ref 1), (2, .ref 97), (3, .int v3)] [] I J R := by
  have i_v3 := i32 v3
  have e97 : I 97 8 = nI (fl I) := (Int32.toInt_inj.mp hL0).symm.trans (fl_bd hB0).1
  have b31 := Bd.o hB0 io9_112_3_6 bd9_6_1
  refine ls_1230 hc v3 _ _ _ ?_
  have e1 : ((v3 + 1) : Int32).toInt = (v3.toInt) + (1) := ti_add rfl rfl (by omega)
  refine ⟨vp_of (a := (v3.toInt + 1)) e1 (by omega) (by omega), ?_⟩
  have z2 := i32 (xs (Int32.toNatClampNeg (v3 + 1)))
  have e3 : ((v3 + 2) : Int32).toInt = (v3.toInt) + (2) := ti_add rfl rfl (by omega)
  refine ⟨vp_of (a := (v3.toInt + 2)) e3 (by omega) (by omega), ?_⟩
  have z4 := i32 (xs (Int32.toNatClampNeg (v3 + 2)))
  have e5 : ((v3 + 3) : Int32).toInt = (v3.toInt) + (3) := ti_add rfl rfl (by omega)
  refine ⟨vp_of (a := (v3.toInt + 3)) e5 (by omega) (by omega), ?_⟩
  have z6 := i32 (xs (Int32.toNatClampNeg (v3 + 3)))
  have e7 : ((v3 + 4) : Int32).toInt = (v3.toInt) + (4) := ti_add rfl rfl (by omega)
  refine ⟨vp_of (a := (v3.toInt + 4)) e7 (by omega) (by omega), ?_⟩
  have z8 := i32 (xs (Int32.toNatClampNeg (v3 + 4)))
  refine ⟨⟨hF0, rfl⟩, ?_⟩
  refine kp7 rfl hR0 rfl (kpA rfl (kpnm rfl hR0 rfl (kp102 rfl hR0 rfl (kpW9 rfl hR0 rfl (kp6 rfl hR0 rfl (kp4 rfl (kp5 rfl hR0 rfl (kp0 rfl (kp1 rfl (kp2 rfl (kp3 rfl (sp_X11_oddsThat hB0 hR0 (fun x9 y14 I10 J11 hB12 p13 kq18 kq17 kq16 kq15 k20 k19 k21 w26 w25 w24 w23 w22 => ?_)))))))))))))
  intro o27
  have i28 := i32 x9
  have b29 := Bd.o hB0 io9_112_3_6 bd9_6_1
  have e30 : ((I10 3 1) : Int32).toInt = (I 3 1).toInt := Eq.trans (congrArg Int32.toInt kq15) rfl
  have kz31 : ((I10 3 1) : Int32).toInt = (I 3 1).toInt := e30
  have b32 := Bd.o hB0 io9_112_97_12 bd9_12_8
  have e33 : ((I10 97 8) : Int32).toInt = (I 97 8).toInt := Eq.trans (congrArg Int32.toInt kq16) rfl
  have kz34 : ((I10 97 8) : Int32).toInt = (I 97 8).toInt := e33
  have b35 := Bd.o hB0 io9_112_1_11 bd9_11_13
  have e36 : ((I10 1 13) : Int32).toInt = (I 1 13).toInt := Eq.trans (congrArg Int32.toInt kq17) rfl
  have kz37 : ((I10 1 13) : Int32).toInt = (I 1 13).toInt := e36
  have b38 := Bd.o hB0 io9_112_97_12 bd9_12_23
  have e39 : ((I10 97 23) : Int32).toInt = (I 97 23).toInt := Eq.trans (congrArg Int32.toInt kq18) rfl
  have kz40 : ((I10 97 23) : Int32).toInt = (I 97 23).toInt := e39
  refine ⟨vp_of (a := (v3.toInt + 1)) e1 (by omega) (by omega), ?_⟩
  have z41 := i32 (xs (Int32.toNatClampNeg (v3 + 1)))
  refine ⟨vp_of (a := (v3.toInt + 2)) e3 (by omega) (by omega), ?_⟩
  have z42 := i32 (xs (Int32.toNatClampNeg (v3 + 2)))
  refine ⟨vp_of (a := (v3.toInt + 3)) e5 (by omega) (by omega), ?_⟩
  have z43 := i32 (xs (Int32.toNatClampNeg (v3 + 3)))
  refine ⟨vp_of (a := (v3.toInt + 4)) e7 (by omega) (by omega), ?_⟩
  have z44 := i32 (xs (Int32.toNatClampNeg (v3 + 4)))
  refine ⟨⟨hF0, rfl⟩, ?_⟩
  refine kp7 rfl hR0 rfl (kpA rfl (kpnm rfl hR0 rfl (kpW9 rfl hR0 rfl (kp6 rfl hR0 rfl (kp4 rfl (kp5 rfl hR0 rfl (kp0 rfl (kp1 rfl (kp2 rfl (kp3 rfl (sp_X12_oddsThat hB12 hR0 (fun x45 y50 I46 J47 hB48 p49 kq54 kq53 kq52 kq51 k56 k55 k57 w61 w60 w59 w58 => ?_))))))))))))
  intro o62
  have f63 : Fr pT I10 I46 := p49
  have i64 := i32 x45
  have e65 : ((I46 3 1) : Int32).toInt = (I 3 1).toInt := Eq.trans (congrArg Int32.toInt (Eq.trans kq51 kq15)) rfl
  have kz66 : ((I46 3 1) : Int32).toInt = (I 3 1).toInt := e65
  have e67 : ((I46 97 8) : Int32).toInt = (I 97 8).toInt := Eq.trans (congrArg Int32.toInt (Eq.trans kq52 kq16)) rfl
  have kz68 : ((I46 97 8) : Int32).toInt = (I 97 8).toInt := e67
  have e69 : ((I46 1 13) : Int32).toInt = (I 1 13).toInt := Eq.trans (congrArg Int32.toInt (Eq.trans kq53 kq17)) rfl
  have kz70 : ((I46 1 13) : Int32).toInt = (I 1 13).toInt := e69
  have e71 : ((I46 97 23) : Int32).toInt = (I 97 23).toInt := Eq.trans (congrArg Int32.toInt (Eq.trans kq54 kq18)) rfl
  have kz72 : ((I46 97 23) : Int32).toInt = (I 97 23).toInt := e71
  exact hN _ _ R hB48 hR0 hF0 ⟨(Eq.trans (e65) (Eq.trans hL0 (Eq.symm (e67)))), (Eq.trans (e69) (Eq.trans hL1 (Eq.symm (e71)))), (RT.kp (RT.kp hL2 k19 k20) k55 k56), trivial⟩ (R3.kp (R3.kp hR3 w22 (by have ya : ((I10 3 1) : Int32).toInt = (I 3 1).toInt := e30; have yb : ((I 3 1) : Int32).toInt = (I 3 1).toInt := rfl; first | exact Int.le_of_eq (ya.trans yb) | exact ya.trans yb | omega)) w58 (by have ya : ((I46 3 1) : Int32).toInt = (I 3 1).toInt := e65; have yb : ((I10 3 1) : Int32).toInt = (I 3 1).toInt := e30; first | exact Int.le_of_eq (ya.trans yb) | exact ya.trans yb | omega)) (RM.kp hR0 (RM.kp hR0 hRM ⟨w23, w24, (fun j _ => congrFun w25.1 j)⟩) ⟨w59, w60, (fun j _ => f63.1 j trivial)⟩) trivial (W9.kp hR0 (W9.kp hR0 hW9 w26 w25.1 w23.2) w61 (funext fun j => f63.1 j trivial) w59.2)
set_option maxRecDepth 100000 in
set_option maxHeartbeats 2000000 in
theorem lc_31 {Q : Nat → Qt} {P : Kt} {L : Nat} {xs : Nat → Int32} (hc : Cl (AM 640) false true L xs 2 112 kL_law Q P) (hL : L ≤ 3584) {v3 : Int32} {I : Im} {J : Jm} {R : Rm} (hB0 : Bd I) (hR0 : RI R) (hF0 : Fl R) (hL0 : (I 3 1).toInt = (I 97 8).toInt) (hL1 : (I 1 13).toInt = (I 97 23).toInt) (hL2 : RT I) (hL3 : True) (hR3 : R3 I J) (hRM : RM I J R) (hFQ : True) (hW9 : W9 I R) (h0 : 0 ≤ v3.toInt) (h7 : v3.toInt + 7 ≤ (L : Int)) (hN : ∀ (I : Im) (J : Jm) (R : Rm), Bd I → RI R → Fl R → RLz I → R3 I J → RM I J R → True → W9 I R → P 1889 112 [(0, .ref 0), (1, .ref 1), (2, .ref 97), (3, .int v3)] [] I J R) : P 1283 112 [(0, .ref 0), (1, .ref 1), (2, .ref 97), (3, .int v3)] [] I J R := by
  have i_v3 := i32 v3
  have e97 : I 97 8 = nI (fl I) := (Int32.toInt_inj.mp hL0).symm.trans (fl_bd hB0).1
  have b31 := Bd.o hB0 io9_112_3_6 bd9_6_1
  refine ls_1283 hc v3 _ _ _ ?_
  have e1 : ((v3 + 1) : Int32).toInt = (v3.toInt) + (1) := ti_add rfl rfl (by omega)
  refine ⟨vp_of (a := (v3.toInt + 1)) e1 (by omega) (by omega), ?_⟩
  have z2 := i32 (xs (Int32.toNatClampNeg (v3 + 1)))
  have e3 : ((v3 + 2) : Int32).toInt = (v3.toInt) + (2) := ti_add rfl rfl (by omega)
  refine ⟨vp_of (a := (v3.toInt + 2)) e3 (by omega) (by omega), ?_⟩
  have z4 := i32 (xs (Int32.toNatClampNeg (v3 + 2)))
  have e5 : ((v3 + 3) : Int32).toInt = (v3.toInt) + (3) := ti_add rfl rfl (by omega)
  refine ⟨vp_of (a := (v3.toInt + 3)) e5 (by omega) (by omega), ?_⟩
  have z6 := i32 (xs (Int32.toNatClampNeg (v3 + 3)))
  refine ⟨⟨hF0, rfl⟩, ?_⟩
  refine kp7 rfl hR0 rfl (kpA rfl (kpnm rfl hR0 rfl (kp102 rfl hR0 rfl (kpW9 rfl hR0 rfl (kp6 rfl hR0 rfl (kp4 rfl (kp5 rfl hR0 rfl (kp0 rfl (kp1 rfl (kp2 rfl (kp3 rfl (sp_X11_ask hB0 hR0 (fun x7 y12 I8 J9 hB10 p11 kq16 kq15 kq14 kq13 k18 k17 k19 w24 w23 w22 w21 w20 => ?_)))))))))))))
  have i25 := i32 x7
  have b26 := Bd.o hB0 io9_112_3_6 bd9_6_1
  have e27 : ((I8 3 1) : Int32).toInt = (I 3 1).toInt := Eq.trans (congrArg Int32.toInt kq13) rfl
  have kz28 : ((I8 3 1) : Int32).toInt = (I 3 1).toInt := e27
  have b29 := Bd.o hB0 io9_112_97_12 bd9_12_8
  have e30 : ((I8 97 8) : Int32).toInt = (I 97 8).toInt := Eq.trans (congrArg Int32.toInt kq14) rfl
  have kz31 : ((I8 97 8) : Int32).toInt = (I 97 8).toInt := e30
  have b32 := Bd.o hB0 io9_112_1_11 bd9_11_13
  have e33 : ((I8 1 13) : Int32).toInt = (I 1 13).toInt := Eq.trans (congrArg Int32.toInt kq15) rfl
  have kz34 : ((I8 1 13) : Int32).toInt = (I 1 13).toInt := e33
  have b35 := Bd.o hB0 io9_112_97_12 bd9_12_23
  have e36 : ((I8 97 23) : Int32).toInt = (I 97 23).toInt := Eq.trans (congrArg Int32.toInt kq16) rfl
  have kz37 : ((I8 97 23) : Int32).toInt = (I 97 23).toInt := e36
  refine ⟨vp_of (a := (v3.toInt + 1)) e1 (by omega) (by omega), ?_⟩
  have z38 := i32 (xs (Int32.toNatClampNeg (v3 + 1)))
  refine ⟨vp_of (a := (v3.toInt + 2)) e3 (by omega) (by omega), ?_⟩
  have z39 := i32 (xs (Int32.toNatClampNeg (v3 + 2)))
  refine ⟨vp_of (a := (v3.toInt + 3)) e5 (by omega) (by omega), ?_⟩
  have z40 := i32 (xs (Int32.toNatClampNeg (v3 + 3)))
  refine ⟨⟨hF0, rfl⟩, ?_⟩
  refine kp7 rfl hR0 rfl (kpA rfl (kpnm rfl hR0 rfl (kpW9 rfl hR0 rfl (kp6 rfl hR0 rfl (kp4 rfl (kp5 rfl hR0 rfl (kp0 rfl (kp1 rfl (kp2 rfl (kp3 rfl (sp_X12_ask hB10 hR0 (fun x41 y46 I42 J43 hB44 p45 kq50 kq49 kq48 kq47 k52 k51 k53 w57 w56 w55 w54 => ?_))))))))))))
  have f58 : Fr pT I8 I42 := p45
  have i59 := i32 x41
  have e60 : ((I42 3 1) : Int32).toInt = (I 3 1).toInt := Eq.trans (congrArg Int32.toInt (Eq.trans kq47 kq13)) rfl
  have kz61 : ((I42 3 1) : Int32).toInt = (I 3 1).toInt := e60
  have e62 : ((I42 97 8) : Int32).toInt = (I 97 8).toInt := Eq.trans (congrArg Int32.toInt (Eq.trans kq48 kq14)) rfl
  have kz63 : ((I42 97 8) : Int32).toInt = (I 97 8).toInt := e62
  have e64 : ((I42 1 13) : Int32).toInt = (I 1 13).toInt := Eq.trans (congrArg Int32.toInt (Eq.trans kq49 kq15)) rfl
  have kz65 : ((I42 1 13) : Int32).toInt = (I 1 13).toInt := e64
  have e66 : ((I42 97 23) : Int32).toInt = (I 97 23).toInt := Eq.trans (congrArg Int32.toInt (Eq.trans kq50 kq16)) rfl
  have kz67 : ((I42 97 23) : Int32).toInt = (I 97 23).toInt := e66
  exact hN _ _ R hB44 hR0 hF0 ⟨(Eq.trans (e60) (Eq.trans hL0 (Eq.symm (e62)))), (Eq.trans (e64) (Eq.trans hL1 (Eq.symm (e66)))), (RT.kp (RT.kp hL2 k17 k18) k51 k52), trivial⟩ (R3.kp (R3.kp hR3 w20 (by have ya : ((I8 3 1) : Int32).toInt = (I 3 1).toInt := e27; have yb : ((I 3 1) : Int32).toInt = (I 3 1).toInt := rfl; first | exact Int.le_of_eq (ya.trans yb) | exact ya.trans yb | omega)) w54 (by have ya : ((I42 3 1) : Int32).toInt = (I 3 1).toInt := e60; have yb : ((I8 3 1) : Int32).toInt = (I 3 1).toInt := e27; first | exact Int.le_of_eq (ya.trans yb) | exact ya.trans yb | omega)) (RM.kp hR0 (RM.kp hR0 hRM ⟨w21, w22, (fun j _ => congrFun w23.1 j)⟩) ⟨w55, w56, (fun j _ => f58.1 j trivial)⟩) trivial (W9.kp hR0 (W9.kp hR0 hW9 w24 w23.1 w21.2) w57 (funext fun j => f58.1 j trivial) w55.2)
set_option maxRecDepth 100000 in
set_option maxHeartbeats 2000000 in
theorem lc_32 {Q : Nat → Qt} {P : Kt} {L : Nat} {xs : Nat → Int32} (hc : Cl (AM 640) false true L xs 2 112 kL_law Q P) (hL : L ≤ 3584) {v3 : Int32} {I : Im} {J : Jm} {R : Rm} (hB0 : Bd I) (hR0 : RI R) (hF0 : Fl R) (hL0 : (I 3 1).toInt = (I 97 8).toInt) (hL1 : (I 1 13).toInt = (I 97 23).toInt) (hL2 : RT I) (hL3 : True) (hR3 : R3 I J) (hRM : RM I J R) (hFQ : True) (hW9 : W9 I R) (h0 : 0 ≤ v3.toInt) (h7 : v3.toInt + 7 ≤ (L : Int)) (hN : ∀ (I : Im) (J : Jm) (R : Rm), Bd I → RI R → Fl R → RLz I → R3 I J → RM I J R → True → W9 I R → P 1889 112 [(0, .ref 0), (1, .ref 1), (2, .ref 97), (3, .int v3)] [] I J R) : P 1326 112 [(0, .ref 0), (1, .ref 1), (2, .ref 97), (3, .int v3)] [] I J R := by
  have i_v3 := i32 v3
  have e97 : I 97 8 = nI (fl I) := (Int32.toInt_inj.mp hL0).symm.trans (fl_bd hB0).1
  have b31 := Bd.o hB0 io9_112_3_6 bd9_6_1
  refine ls_1326 hc v3 _ _ _ ?_
  have e1 : ((v3 + 1) : Int32).toInt = (v3.toInt) + (1) := ti_add rfl rfl (by omega)
  refine ⟨vp_of (a := (v3.toInt + 1)) e1 (by omega) (by omega), ?_⟩
  have z2 := i32 (xs (Int32.toNatClampNeg (v3 + 1)))
  have e3 : ((v3 + 2) : Int32).toInt = (v3.toInt) + (2) := ti_add rfl rfl (by omega)
  refine ⟨vp_of (a := (v3.toInt + 2)) e3 (by omega) (by omega), ?_⟩
  have z4 := i32 (xs (Int32.toNatClampNeg (v3 + 2)))
  have e5 : ((v3 + 3) : Int32).toInt = (v3.toInt) + (3) := ti_add rfl rfl (by omega)
  refine ⟨vp_of (a := (v3.toInt + 3)) e5 (by omega) (by omega), ?_⟩
  have z6 := i32 (xs (Int32.toNatClampNeg (v3 + 3)))
  refine ⟨⟨hF0, rfl⟩, ?_⟩
  refine kp7 rfl hR0 rfl (kpA rfl (kpnm rfl hR0 rfl (kp102 rfl hR0 rfl (kpW9 rfl hR0 rfl (kp6 rfl hR0 rfl (kp4 rfl (kp5 rfl hR0 rfl (kp0 rfl (kp1 rfl (kp2 rfl (kp3 rfl (sp_X11_kindestAt hB0 hR0 (fun x7 y12 I8 J9 hB10 p11 kq16 kq15 kq14 kq13 k18 k17 k19 w24 w23 w22 w21 w20 => ?_)))))))))))))
  have i25 := i32 x7
  have b26 := Bd.o hB0 io9_112_3_6 bd9_6_1
  have e27 : ((I8 3 1) : Int32).toInt = (I 3 1).toInt := Eq.trans (congrArg Int32.toInt kq13) rfl
  have kz28 : ((I8 3 1) : Int32).toInt = (I 3 1).toInt := e27
  have b29 := Bd.o hB0 io9_112_97_12 bd9_12_8
  have e30 : ((I8 97 8) : Int32).toInt = (I 97 8).toInt := Eq.trans (congrArg Int32.toInt kq14) rfl
  have kz31 : ((I8 97 8) : Int32).toInt = (I 97 8).toInt := e30
  have b32 := Bd.o hB0 io9_112_1_11 bd9_11_13
  have e33 : ((I8 1 13) : Int32).toInt = (I 1 13).toInt := Eq.trans (congrArg Int32.toInt kq15) rfl
  have kz34 : ((I8 1 13) : Int32).toInt = (I 1 13).toInt := e33
  have b35 := Bd.o hB0 io9_112_97_12 bd9_12_23
  have e36 : ((I8 97 23) : Int32).toInt = (I 97 23).toInt := Eq.trans (congrArg Int32.toInt kq16) rfl
  have kz37 : ((I8 97 23) : Int32).toInt = (I 97 23).toInt := e36
  refine ⟨vp_of (a := (v3.toInt + 1)) e1 (by omega) (by omega), ?_⟩
  have z38 := i32 (xs (Int32.toNatClampNeg (v3 + 1)))
  refine ⟨vp_of (a := (v3.toInt + 2)) e3 (by omega) (by omega), ?_⟩
  have z39 := i32 (xs (Int32.toNatClampNeg (v3 + 2)))
  refine ⟨vp_of (a := (v3.toInt + 3)) e5 (by omega) (by omega), ?_⟩
  have z40 := i32 (xs (Int32.toNatClampNeg (v3 + 3)))
  refine ⟨⟨hF0, rfl⟩, ?_⟩
  refine kp7 rfl hR0 rfl (kpA rfl (kpnm rfl hR0 rfl (kpW9 rfl hR0 rfl (kp6 rfl hR0 rfl (kp4 rfl (kp5 rfl hR0 rfl (kp0 rfl (kp1 rfl (kp2 rfl (kp3 rfl (sp_X12_kindestAt hB10 hR0 (fun x41 y46 I42 J43 hB44 p45 kq50 kq49 kq48 kq47 k52 k51 k53 w57 w56 w55 w54 => ?_))))))))))))
  have f58 : Fr pT I8 I42 := p45
  have i59 := i32 x41
  have e60 : ((I42 3 1) : Int32).toInt = (I 3 1).toInt := Eq.trans (congrArg Int32.toInt (Eq.trans kq47 kq13)) rfl
  have kz61 : ((I42 3 1) : Int32).toInt = (I 3 1).toInt := e60
  have e62 : ((I42 97 8) : Int32).toInt = (I 97 8).toInt := Eq.trans (congrArg Int32.toInt (Eq.trans kq48 kq14)) rfl
  have kz63 : ((I42 97 8) : Int32).toInt = (I 97 8).toInt := e62
  have e64 : ((I42 1 13) : Int32).toInt = (I 1 13).toInt := Eq.trans (congrArg Int32.toInt (Eq.trans kq49 kq15)) rfl
  have kz65 : ((I42 1 13) : Int32).toInt = (I 1 13).toInt := e64
  have e66 : ((I42 97 23) : Int32).toInt = (I 97 23).toInt := Eq.trans (congrArg Int32.toInt (Eq.trans kq50 kq16)) rfl
  have kz67 : ((I42 97 23) : Int32).toInt = (I 97 23).toInt := e66
  exact hN _ _ R hB44 hR0 hF0 ⟨(Eq.trans (e60) (Eq.trans hL0 (Eq.symm (e62)))), (Eq.trans (e64) (Eq.trans hL1 (Eq.symm (e66)))), (RT.kp (RT.kp hL2 k17 k18) k51 k52), trivial⟩ (R3.kp (R3.kp hR3 w20 (by have ya : ((I8 3 1) : Int32).toInt = (I 3 1).toInt := e27; have yb : ((I 3 1) : Int32).toInt = (I 3 1).toInt := rfl; first | exact Int.le_of_eq (ya.trans yb) | exact ya.trans yb | omega)) w54 (by have ya : ((I42 3 1) : Int32).toInt = (I 3 1).toInt := e60; have yb : ((I8 3 1) : Int32).toInt = (I 3 1).toInt := e27; first | exact Int.le_of_eq (ya.trans yb) | exact ya.trans yb | omega)) (RM.kp hR0 (RM.kp hR0 hRM ⟨w21, w22, (fun j _ => congrFun w23.1 j)⟩) ⟨w55, w56, (fun j _ => f58.1 j trivial)⟩) trivial (W9.kp hR0 (W9.kp hR0 hW9 w24 w23.1 w21.2) w57 (funext fun j => f58.1 j trivial) w55.2)
set_option maxRecDepth 100000 in
set_option maxHeartbeats 2000000 in
theorem lc_33 {Q : Nat → Qt} {P : Kt} {L : Nat} {xs : Nat → Int32} (hc : Cl (AM 640) false true L xs 2 112 kL_law Q P) (hL : L ≤ 3584) {v3 : Int32} {I : Im} {J : Jm} {R : Rm} (hB0 : Bd I) (hR0 : RI R) (hF0 : Fl R) (hL0 : (I 3 1).toInt = (I 97 8).toInt) (hL1 : (I 1 13).toInt = (I 97 23).toInt) (hL2 : RT I) (hL3 : True) (hR3 : R3 I J) (hRM : RM I J R) (hFQ : True) (hW9 : W9 I R) (h0 : 0 ≤ v3.toInt) (h7 : v3.toInt + 7 ≤ (L : Int)) (hN : ∀ (I : Im) (J : Jm) (R : Rm), Bd I → RI R → Fl R → RLz I → R3 I J → RM I J R → True → W9 I R → P 1889 112 [(0, .ref 0), (1, .ref 1), (2, .ref 97), (3, .int v3)] [] I J R) : P 1369 112 [(0, .ref 0), (1, .ref 1), (2, .ref 97), (3, .int v3)] [] I J R := by
  have i_v3 := i32 v3
  have e97 : I 97 8 = nI (fl I) := (Int32.toInt_inj.mp hL0).symm.trans (fl_bd hB0).1
  have b31 := Bd.o hB0 io9_112_3_6 bd9_6_1
  refine ls_1369 hc v3 _ _ _ ?_
  have e1 : ((v3 + 1) : Int32).toInt = (v3.toInt) + (1) := ti_add rfl rfl (by omega)
  refine ⟨vp_of (a := (v3.toInt + 1)) e1 (by omega) (by omega), ?_⟩
  have z2 := i32 (xs (Int32.toNatClampNeg (v3 + 1)))
  have e3 : ((v3 + 2) : Int32).toInt = (v3.toInt) + (2) := ti_add rfl rfl (by omega)
  refine ⟨vp_of (a := (v3.toInt + 2)) e3 (by omega) (by omega), ?_⟩
  have z4 := i32 (xs (Int32.toNatClampNeg (v3 + 2)))
  have e5 : ((v3 + 3) : Int32).toInt = (v3.toInt) + (3) := ti_add rfl rfl (by omega)
  refine ⟨vp_of (a := (v3.toInt + 3)) e5 (by omega) (by omega), ?_⟩
  have z6 := i32 (xs (Int32.toNatClampNeg (v3 + 3)))
  refine ⟨⟨hF0, rfl⟩, ?_⟩
  refine kp7 rfl hR0 rfl (kpA rfl (kpnm rfl hR0 rfl (kp102 rfl hR0 rfl (kpW9 rfl hR0 rfl (kp6 rfl hR0 rfl (kp4 rfl (kp5 rfl hR0 rfl (kp0 rfl (kp1 rfl (kp2 rfl (kp3 rfl (sp_X11_greedyAt hB0 hR0 (fun x7 y12 I8 J9 hB10 p11 kq16 kq15 kq14 kq13 k18 k17 k19 w24 w23 w22 w21 w20 => ?_)))))))))))))
  have i25 := i32 x7
  have b26 := Bd.o hB0 io9_112_3_6 bd9_6_1
  have e27 : ((I8 3 1) : Int32).toInt = (I 3 1).toInt := Eq.trans (congrArg Int32.toInt kq13) rfl
  have kz28 : ((I8 3 1) : Int32).toInt = (I 3 1).toInt := e27
  have b29 := Bd.o hB0 io9_112_97_12 bd9_12_8
  have e30 : ((I8 97 8) : Int32).toInt = (I 97 8).toInt := Eq.trans (congrArg Int32.toInt kq14) rfl
  have kz31 : ((I8 97 8) : Int32).toInt = (I 97 8).toInt := e30
  have b32 := Bd.o hB0 io9_112_1_11 bd9_11_13
  have e33 : ((I8 1 13) : Int32).toInt = (I 1 13).toInt := Eq.trans (congrArg Int32.toInt kq15) rfl
  have kz34 : ((I8 1 13) : Int32).toInt = (I 1 13).toInt := e33
  have b35 := Bd.o hB0 io9_112_97_12 bd9_12_23
  have e36 : ((I8 97 23) : Int32).toInt = (I 97 23).toInt := Eq.trans (congrArg Int32.toInt kq16) rfl
  have kz37 : ((I8 97 23) : Int32).toInt = (I 97 23).toInt := e36
  refine ⟨vp_of (a := (v3.toInt + 1)) e1 (by omega) (by omega), ?_⟩
  have z38 := i32 (xs (Int32.toNatClampNeg (v3 + 1)))
  refine ⟨vp_of (a := (v3.toInt + 2)) e3 (by omega) (by omega), ?_⟩
  have z39 := i32 (xs (Int32.toNatClampNeg (v3 + 2)))
  refine ⟨vp_of (a := (v3.toInt + 3)) e5 (by omega) (by omega), ?_⟩
  have z40 := i32 (xs (Int32.toNatClampNeg (v3 + 3)))
  refine ⟨⟨hF0, rfl⟩, ?_⟩
  refine kp7 rfl hR0 rfl (kpA rfl (kpnm rfl hR0 rfl (kp102 rfl hR0 rfl (kpW9 rfl hR0 rfl (kp6 rfl hR0 rfl (kp4 rfl (kp5 rfl hR0 rfl (kp0 rfl (kp1 rfl (kp2 rfl (kp3 rfl (sp_X12_greedyAt hB10 hR0 (fun x41 y46 I42 J43 hB44 p45 kq50 kq49 kq48 kq47 k52 k51 k53 w58 w57 w56 w55 w54 => ?_)))))))))))))
  have i59 := i32 x41
  have e60 : ((I42 3 1) : Int32).toInt = (I 3 1).toInt := Eq.trans (congrArg Int32.toInt (Eq.trans kq47 kq13)) rfl
  have kz61 : ((I42 3 1) : Int32).toInt = (I 3 1).toInt := e60
  have e62 : ((I42 97 8) : Int32).toInt = (I 97 8).toInt := Eq.trans (congrArg Int32.toInt (Eq.trans kq48 kq14)) rfl
  have kz63 : ((I42 97 8) : Int32).toInt = (I 97 8).toInt := e62
  have e64 : ((I42 1 13) : Int32).toInt = (I 1 13).toInt := Eq.trans (congrArg Int32.toInt (Eq.trans kq49 kq15)) rfl
  have kz65 : ((I42 1 13) : Int32).toInt = (I 1 13).toInt := e64
  have e66 : ((I42 97 23) : Int32).toInt = (I 97 23).toInt := Eq.trans (congrArg Int32.toInt (Eq.trans kq50 kq16)) rfl
  have kz67 : ((I42 97 23) : Int32).toInt = (I 97 23).toInt := e66
  exact hN _ _ R hB44 hR0 hF0 ⟨(Eq.trans (e60) (Eq.trans hL0 (Eq.symm (e62)))), (Eq.trans (e64) (Eq.trans hL1 (Eq.symm (e66)))), (RT.kp (RT.kp hL2 k17 k18) k51 k52), trivial⟩ (R3.kp (R3.kp hR3 w20 (by have ya : ((I8 3 1) : Int32).toInt = (I 3 1).toInt := e27; have yb : ((I 3 1) : Int32).toInt = (I 3 1).toInt := rfl; first | exact Int.le_of_eq (ya.trans yb) | exact ya.trans yb | omega)) w54 (by have ya : ((I42 3 1) : Int32).toInt = (I 3 1).toInt := e60; have yb : ((I8 3 1) : Int32).toInt = (I 3 1).toInt := e27; first | exact Int.le_of_eq (ya.trans yb) | exact ya.trans yb | omega)) (RM.kp hR0 (RM.kp hR0 hRM ⟨w21, w22, (fun j _ => congrFun w23.1 j)⟩) ⟨w55, w56, (fun j _ => congrFun w57.1 j)⟩) trivial (W9.kp hR0 (W9.kp hR0 hW9 w24 w23.1 w21.2) w58 w57.1 w55.2)
set_option maxRecDepth 100000 in
set_option maxHeartbeats 2000000 in
theorem lc_34 {Q : Nat → Qt} {P : Kt} {L : Nat} {xs : Nat → Int32} (hc : Cl (AM 640) false true L xs 2 112 kL_law Q P) (hL : L ≤ 3584) {v3 : Int32} {I : Im} {J : Jm} {R : Rm} (hB0 : Bd I) (hR0 : RI R) (hF0 : Fl R) (hL0 : (I 3 1).toInt = (I 97 8).toInt) (hL1 : (I 1 13).toInt = (I 97 23).toInt) (hL2 : RT I) (hL3 : True) (hR3 : R3 I J) (hRM : RM I J R) (hFQ : True) (hW9 : W9 I R) (h0 : 0 ≤ v3.toInt) (h7 : v3.toInt + 7 ≤ (L : Int)) (hN : ∀ (I : Im) (J : Jm) (R : Rm), Bd I → RI R → Fl R → RLz I → R3 I J → RM I J R → True → W9 I R → P 1889 112 [(0, .ref 0), (1, .ref 1), (2, .ref 97), (3, .int v3)] [] I J R) : P 1412 112 [(0, .ref 0), (1, .ref 1), (2, .ref 97), (3, .int v3)] [] I J R := by
  have i_v3 := i32 v3
  have e97 : I 97 8 = nI (fl I) := (Int32.toInt_inj.mp hL0).symm.trans (fl_bd hB0).1
  have b31 := Bd.o hB0 io9_112_3_6 bd9_6_1
  refine ls_1412 hc v3 _ _ _ ?_
  have e1 : ((v3 + 1) : Int32).toInt = (v3.toInt) + (1) := ti_add rfl rfl (by omega)
  refine ⟨vp_of (a := (v3.toInt + 1)) e1 (by omega) (by omega), ?_⟩
  have z2 := i32 (xs (Int32.toNatClampNeg (v3 + 1)))
  have e3 : ((v3 + 2) : Int32).toInt = (v3.toInt) + (2) := ti_add rfl rfl (by omega)
  refine ⟨vp_of (a := (v3.toInt + 2)) e3 (by omega) (by omega), ?_⟩
  have z4 := i32 (xs (Int32.toNatClampNeg (v3 + 2)))
  have e5 : ((v3 + 3) : Int32).toInt = (v3.toInt) + (3) := ti_add rfl rfl (by omega)
  refine ⟨vp_of (a := (v3.toInt + 3)) e5 (by omega) (by omega), ?_⟩
  have z6 := i32 (xs (Int32.toNatClampNeg (v3 + 3)))
  have e7 : ((v3 + 4) : Int32).toInt = (v3.toInt) + (4) := ti_add rfl rfl (by omega)
  refine ⟨vp_of (a := (v3.toInt + 4)) e7 (by omega) (by omega), ?_⟩
  have z8 := i32 (xs (Int32.toNatClampNeg (v3 + 4)))
  refine ⟨⟨hF0, rfl⟩, ?_⟩
  refine kp7 rfl hR0 rfl (kpA rfl (kpnm rfl hR0 rfl (kp102 rfl hR0 rfl (kpW9 rfl hR0 rfl (kp6 rfl hR0 rfl (kp4 rfl (kp5 rfl hR0 rfl (kp0 rfl (kp1 rfl (kp2 rfl (kp3 rfl (sp_X11_slips hB0 hR0 (fun x9 y14 I10 J11 hB12 p13 kq18 kq17 kq16 kq15 k20 k19 k21 w26 w25 w24 w23 w22 => ?_)))))))))))))
  have i27 := i32 x9
  have b28 := Bd.o hB0 io9_112_3_6 bd9_6_1
  have e29 : ((I10 3 1) : Int32).toInt = (I 3 1).toInt := Eq.trans (congrArg Int32.toInt kq15) rfl
  have kz30 : ((I10 3 1) : Int32).toInt = (I 3 1).toInt := e29
  have b31 := Bd.o hB0 io9_112_97_12 bd9_12_8
  have e32 : ((I10 97 8) : Int32).toInt = (I 97 8).toInt := Eq.trans (congrArg Int32.toInt kq16) rfl
  have kz33 : ((I10 97 8) : Int32).toInt = (I 97 8).toInt := e32
  have b34 := Bd.o hB0 io9_112_1_11 bd9_11_13
  have e35 : ((I10 1 13) : Int32).toInt = (I 1 13).toInt := Eq.trans (congrArg Int32.toInt kq17) rfl
  have kz36 : ((I10 1 13) : Int32).toInt = (I 1 13).toInt := e35
  have b37 := Bd.o hB0 io9_112_97_12 bd9_12_23
  have e38 : ((I10 97 23) : Int32).toInt = (I 97 23).toInt := Eq.trans (congrArg Int32.toInt kq18) rfl
  have kz39 : ((I10 97 23) : Int32).toInt = (I 97 23).toInt := e38
  refine ⟨vp_of (a := (v3.toInt + 1)) e1 (by omega) (by omega), ?_⟩
  have z40 := i32 (xs (Int32.toNatClampNeg (v3 + 1)))
  refine ⟨vp_of (a := (v3.toInt + 2)) e3 (by omega) (by omega), ?_⟩
  have z41 := i32 (xs (Int32.toNatClampNeg (v3 + 2)))
  refine ⟨vp_of (a := (v3.toInt + 3)) e5 (by omega) (by omega), ?_⟩
  have z42 := i32 (xs (Int32.toNatClampNeg (v3 + 3)))
  refine ⟨vp_of (a := (v3.toInt + 4)) e7 (by omega) (by omega), ?_⟩
  have z43 := i32 (xs (Int32.toNatClampNeg (v3 + 4)))
  refine ⟨⟨hF0, rfl⟩, ?_⟩
  refine kp7 rfl hR0 rfl (kpA rfl (kpnm rfl hR0 rfl (kp102 rfl hR0 rfl (kpW9 rfl hR0 rfl (kp6 rfl hR0 rfl (kp4 rfl (kp5 rfl hR0 rfl (kp0 rfl (kp1 rfl (kp2 rfl (kp3 rfl (sp_X12_slips hB12 hR0 (fun x44 y49 I45 J46 hB47 p48 kq53 kq52 kq51 kq50 k55 k54 k56 w61 w60 w59 w58 w57 => ?_)))))))))))))
  have i62 := i32 x44
  have e63 : ((I45 3 1) : Int32).toInt = (I 3 1).toInt := Eq.trans (congrArg Int32.toInt (Eq.trans kq50 kq15)) rfl
  have kz64 : ((I45 3 1) : Int32).toInt = (I 3 1).toInt := e63
  have e65 : ((I45 97 8) : Int32).toInt = (I 97 8).toInt := Eq.trans (congrArg Int32.toInt (Eq.trans kq51 kq16)) rfl
  have kz66 : ((I45 97 8) : Int32).toInt = (I 97 8).toInt := e65
  have e67 : ((I45 1 13) : Int32).toInt = (I 1 13).toInt := Eq.trans (congrArg Int32.toInt (Eq.trans kq52 kq17)) rfl
  have kz68 : ((I45 1 13) : Int32).toInt = (I 1 13).toInt := e67
  have e69 : ((I45 97 23) : Int32).toInt = (I 97 23).toInt := Eq.trans (congrArg Int32.toInt (Eq.trans kq53 kq18)) rfl
  have kz70 : ((I45 97 23) : Int32).toInt = (I 97 23).toInt := e69
  exact hN _ _ R hB47 hR0 hF0 ⟨(Eq.trans (e63) (Eq.trans hL0 (Eq.symm (e65)))), (Eq.trans (e67) (Eq.trans hL1 (Eq.symm (e69)))), (RT.kp (RT.kp hL2 k19 k20) k54 k55), trivial⟩ (R3.kp (R3.kp hR3 w22 (by have ya : ((I10 3 1) : Int32).toInt = (I 3 1).toInt := e29; have yb : ((I 3 1) : Int32).toInt = (I 3 1).toInt := rfl; first | exact Int.le_of_eq (ya.trans yb) | exact ya.trans yb | omega)) w57 (by have ya : ((I45 3 1) : Int32).toInt = (I 3 1).toInt := e63; have yb : ((I10 3 1) : Int32).toInt = (I 3 1).toInt := e29; first | exact Int.le_of_eq (ya.trans yb) | exact ya.trans yb | omega)) (RM.kp hR0 (RM.kp hR0 hRM ⟨w23, w24, (fun j _ => congrFun w25.1 j)⟩) ⟨w58, w59, (fun j _ => congrFun w60.1 j)⟩) trivial (W9.kp hR0 (W9.kp hR0 hW9 w26 w25.1 w23.2) w61 w60.1 w58.2)
set_option maxRecDepth 100000 in
set_option maxHeartbeats 2000000 in
theorem lc_35 {Q : Nat → Qt} {P : Kt} {L : Nat} {xs : Nat → Int32} (hc : Cl (AM 640) false true L xs 2 112 kL_law Q P) (hL : L ≤ 3584) {v3 : Int32} {I : Im} {J : Jm} {R : Rm} (hB0 : Bd I) (hR0 : RI R) (hF0 : Fl R) (hL0 : (I 3 1).toInt = (I 97 8).toInt) (hL1 : (I 1 13).toInt = (I 97 23).toInt) (hL2 : RT I) (hL3 : True) (hR3 : R3 I J) (hRM : RM I J R) (hFQ : True) (hW9 : W9 I R) (h0 : 0 ≤ v3.toInt) (h7 : v3.toInt + 7 ≤ (L : Int)) (hN : ∀ (I : Im) (J : Jm) (R : Rm), Bd I → RI R → Fl R → RLz I → R3 I J → RM I J R → True → W9 I R → P 1889 112 [(0, .ref 0), (1, .ref 1), (2, .ref 97), (3, .int v3)] [] I J R) : P 1465 112 [(0, .ref 0), (1, .ref 1), (2, .ref 97), (3, .int v3)] [] I J R := by
  have i_v3 := i32 v3
  have e97 : I 97 8 = nI (fl I) := (Int32.toInt_inj.mp hL0).symm.trans (fl_bd hB0).1
  have b31 := Bd.o hB0 io9_112_3_6 bd9_6_1
  refine ls_1465 hc v3 _ _ _ ?_
  have e1 : ((v3 + 1) : Int32).toInt = (v3.toInt) + (1) := ti_add rfl rfl (by omega)
  refine ⟨vp_of (a := (v3.toInt + 1)) e1 (by omega) (by omega), ?_⟩
  have z2 := i32 (xs (Int32.toNatClampNeg (v3 + 1)))
  have e3 : ((v3 + 2) : Int32).toInt = (v3.toInt) + (2) := ti_add rfl rfl (by omega)
  refine ⟨vp_of (a := (v3.toInt + 2)) e3 (by omega) (by omega), ?_⟩
  have z4 := i32 (xs (Int32.toNatClampNeg (v3 + 2)))
  have e5 : ((v3 + 3) : Int32).toInt = (v3.toInt) + (3) := ti_add rfl rfl (by omega)
  refine ⟨vp_of (a := (v3.toInt + 3)) e5 (by omega) (by omega), ?_⟩
  have z6 := i32 (xs (Int32.toNatClampNeg (v3 + 3)))
  have e7 : ((v3 + 4) : Int32).toInt = (v3.toInt) + (4) := ti_add rfl rfl (by omega)
  refine ⟨vp_of (a := (v3.toInt + 4)) e7 (by omega) (by omega), ?_⟩
  have z8 := i32 (xs (Int32.toNatClampNeg (v3 + 4)))
  have e9 : ((v3 + 5) : Int32).toInt = (v3.toInt) + (5) := ti_add rfl rfl (by omega)
  refine ⟨vp_of (a := (v3.toInt + 5)) e9 (by omega) (by omega), ?_⟩
  have z10 := i32 (xs (Int32.toNatClampNeg (v3 + 5)))
  have e11 : ((v3 + 6) : Int32).toInt = (v3.toInt) + (6) := ti_add rfl rfl (by omega)
  refine ⟨vp_of (a := (v3.toInt + 6)) e11 (by omega) (by omega), ?_⟩
  have z12 := i32 (xs (Int32.toNatClampNeg (v3 + 6)))
  refine ⟨⟨hF0, rfl⟩, ?_⟩
  refine kp7 rfl hR0 rfl (kpA rfl (kpnm rfl hR0 rfl (kp102 rfl hR0 rfl (kpW9 rfl hR0 rfl (kp6 rfl hR0 rfl (kp4 rfl (kp5 rfl hR0 rfl (kp0 rfl (kp1 rfl (kp2 rfl (kp3 rfl (sp_X11_slipAt hB0 hR0 (fun x13 y18 I14 J15 hB16 p17 kq22 kq21 kq20 kq19 k24 k23 k25 w30 w29 w28 w27 w26 => ?_)))))))))))))
  have i31 := i32 x13
  have b32 := Bd.o hB0 io9_112_3_6 bd9_6_1
  have e33 : ((I14 3 1) : Int32).toInt = (I 3 1).toInt := Eq.trans (congrArg Int32.toInt kq19) rfl
  have kz34 : ((I14 3 1) : Int32).toInt = (I 3 1).toInt := e33
  have b35 := Bd.o hB0 io9_112_97_12 bd9_12_8
  have e36 : ((I14 97 8) : Int32).toInt = (I 97 8).toInt := Eq.trans (congrArg Int32.toInt kq20) rfl
  have kz37 : ((I14 97 8) : Int32).toInt = (I 97 8).toInt := e36
  have b38 := Bd.o hB0 io9_112_1_11 bd9_11_13
  have e39 : ((I14 1 13) : Int32).toInt = (I 1 13).toInt := Eq.trans (congrArg Int32.toInt kq21) rfl
  have kz40 : ((I14 1 13) : Int32).toInt = (I 1 13).toInt := e39
  have b41 := Bd.o hB0 io9_112_97_12 bd9_12_23
  have e42 : ((I14 97 23) : Int32).toInt = (I 97 23).toInt := Eq.trans (congrArg Int32.toInt kq22) rfl
  have kz43 : ((I14 97 23) : Int32).toInt = (I 97 23).toInt := e42
  refine ⟨vp_of (a := (v3.toInt + 1)) e1 (by omega) (by omega), ?_⟩
  have z44 := i32 (xs (Int32.toNatClampNeg (v3 + 1)))
  refine ⟨vp_of (a := (v3.toInt + 2)) e3 (by omega) (by omega), ?_⟩
  have z45 := i32 (xs (Int32.toNatClampNeg (v3 + 2)))
  refine ⟨vp_of (a := (v3.toInt + 3)) e5 (by omega) (by omega), ?_⟩
  have z46 := i32 (xs (Int32.toNatClampNeg (v3 + 3)))
  refine ⟨vp_of (a := (v3.toInt + 4)) e7 (by omega) (by omega), ?_⟩
  have z47 := i32 (xs (Int32.toNatClampNeg (v3 + 4)))
  refine ⟨vp_of (a := (v3.toInt + 5)) e9 (by omega) (by omega), ?_⟩
  have z48 := i32 (xs (Int32.toNatClampNeg (v3 + 5)))
  refine ⟨vp_of (a := (v3.toInt + 6)) e11 (by omega) (by omega), ?_⟩
  have z49 := i32 (xs (Int32.toNatClampNeg (v3 + 6)))
  refine ⟨⟨hF0, rfl⟩, ?_⟩
  refine kp7 rfl hR0 rfl (kpA rfl (kpnm rfl hR0 rfl (kp102 rfl hR0 rfl (kpW9 rfl hR0 rfl (kp6 rfl hR0 rfl (kp4 rfl (kp5 rfl hR0 rfl (kp0 rfl (kp1 rfl (kp2 rfl (kp3 rfl (sp_X12_slipAt hB16 hR0 (fun x50 y55 I51 J52 hB53 p54 kq59 kq58 kq57 kq56 k61 k60 k62 w67 w66 w65 w64 w63 => ?_)))))))))))))
  have i68 := i32 x50
  have e69 : ((I51 3 1) : Int32).toInt = (I 3 1).toInt := Eq.trans (congrArg Int32.toInt (Eq.trans kq56 kq19)) rfl
  have kz70 : ((I51 3 1) : Int32).toInt = (I 3 1).toInt := e69
  have e71 : ((I51 97 8) : Int32).toInt = (I 97 8).toInt := Eq.trans (congrArg Int32.toInt (Eq.trans kq57 kq20)) rfl
  have kz72 : ((I51 97 8) : Int32).toInt = (I 97 8).toInt := e71
  have e73 : ((I51 1 13) : Int32).toInt = (I 1 13).toInt := Eq.trans (congrArg Int32.toInt (Eq.trans kq58 kq21)) rfl
  have kz74 : ((I51 1 13) : Int32).toInt = (I 1 13).toInt := e73
  have e75 : ((I51 97 23) : Int32).toInt = (I 97 23).toInt := Eq.trans (congrArg Int32.toInt (Eq.trans kq59 kq22)) rfl
  have kz76 : ((I51 97 23) : Int32).toInt = (I 97 23).toInt := e75
  exact hN _ _ R hB53 hR0 hF0 ⟨(Eq.trans (e69) (Eq.trans hL0 (Eq.symm (e71)))), (Eq.trans (e73) (Eq.trans hL1 (Eq.symm (e75)))), (RT.kp (RT.kp hL2 k23 k24) k60 k61), trivial⟩ (R3.kp (R3.kp hR3 w26 (by have ya : ((I14 3 1) : Int32).toInt = (I 3 1).toInt := e33; have yb : ((I 3 1) : Int32).toInt = (I 3 1).toInt := rfl; first | exact Int.le_of_eq (ya.trans yb) | exact ya.trans yb | omega)) w63 (by have ya : ((I51 3 1) : Int32).toInt = (I 3 1).toInt := e69; have yb : ((I14 3 1) : Int32).toInt = (I 3 1).toInt := e33; first | exact Int.le_of_eq (ya.trans yb) | exact ya.trans yb | omega)) (RM.kp hR0 (RM.kp hR0 hRM ⟨w27, w28, (fun j _ => congrFun w29.1 j)⟩) ⟨w64, w65, (fun j _ => congrFun w66.1 j)⟩) trivial (W9.kp hR0 (W9.kp hR0 hW9 w30 w29.1 w27.2) w67 w66.1 w64.2)
set_option maxRecDepth 100000 in
set_option maxHeartbeats 2000000 in
theorem lc_36 {Q : Nat → Qt} {P : Kt} {L : Nat} {xs : Nat → Int32} (hc : Cl (AM 640) false true L xs 2 112 kL_law Q P) (hL : L ≤ 3584) {v3 : Int32} {I : Im} {J : Jm} {R : Rm} (hB0 : Bd I) (hR0 : RI R) (hF0 : Fl R) (hL0 : (I 3 1).toInt = (I 97 8).toInt) (hL1 : (I 1 13).toInt = (I 97 23).toInt) (hL2 : RT I) (hL3 : True) (hR3 : R3 I J) (hRM : RM I J R) (hFQ : True) (hW9 : W9 I R) (h0 : 0 ≤ v3.toInt) (h7 : v3.toInt + 7 ≤ (L : Int)) (hN : ∀ (I : Im) (J : Jm) (R : Rm), Bd I → RI R → Fl R → RLz I → R3 I J → RM I J R → True → W9 I R → P 1889 112 [(0, .ref 0), (1, .ref 1), (2, .ref 97), (3, .int v3)] [] I J R) : P 1540 112 [(0, .ref 0), (1, .ref 1), (2, .ref 97), (3, .int v3)] [] I J R := by
  have i_v3 := i32 v3
  have e97 : I 97 8 = nI (fl I) := (Int32.toInt_inj.mp hL0).symm.trans (fl_bd hB0).1
  have b31 := Bd.o hB0 io9_112_3_6 bd9_6_1
  refine ls_1540 hc v3 _ _ _ ?_
  have e1 : ((v3 + 1) : Int32).toInt = (v3.toInt) + (1) := ti_add rfl rfl (by omega)
  refine ⟨vp_of (a := (v3.toInt + 1)) e1 (by omega) (by omega), ?_⟩
  have z2 := i32 (xs (Int32.toNatClampNeg (v3 + 1)))
  refine ⟨⟨hF0, rfl⟩, ?_⟩
  refine kp7 rfl hR0 rfl (kpA rfl (kpnm rfl hR0 rfl (kp102 rfl hR0 rfl (kpW9 rfl hR0 rfl (kp6 rfl hR0 rfl (kp4 rfl (kp5 rfl hR0 rfl (kp0 rfl (kp1 rfl (kp2 rfl (kp3 rfl (sp_X11_reach hB0 hR0 (fun x3 y8 I4 J5 hB6 p7 kq12 kq11 kq10 kq9 k14 k13 k15 w20 w19 w18 w17 w16 => ?_)))))))))))))
  have i21 := i32 x3
  have b22 := Bd.o hB0 io9_112_3_6 bd9_6_1
  have e23 : ((I4 3 1) : Int32).toInt = (I 3 1).toInt := Eq.trans (congrArg Int32.toInt kq9) rfl
  have kz24 : ((I4 3 1) : Int32).toInt = (I 3 1).toInt := e23
  have b25 := Bd.o hB0 io9_112_97_12 bd9_12_8
  have e26 : ((I4 97 8) : Int32).toInt = (I 97 8).toInt := Eq.trans (congrArg Int32.toInt kq10) rfl
  have kz27 : ((I4 97 8) : Int32).toInt = (I 97 8).toInt := e26
  have b28 := Bd.o hB0 io9_112_1_11 bd9_11_13
  have e29 : ((I4 1 13) : Int32).toInt = (I 1 13).toInt := Eq.trans (congrArg Int32.toInt kq11) rfl
  have kz30 : ((I4 1 13) : Int32).toInt = (I 1 13).toInt := e29
  have b31 := Bd.o hB0 io9_112_97_12 bd9_12_23
  have e32 : ((I4 97 23) : Int32).toInt = (I 97 23).toInt := Eq.trans (congrArg Int32.toInt kq12) rfl
  have kz33 : ((I4 97 23) : Int32).toInt = (I 97 23).toInt := e32
  refine ⟨vp_of (a := (v3.toInt + 1)) e1 (by omega) (by omega), ?_⟩
  have z34 := i32 (xs (Int32.toNatClampNeg (v3 + 1)))
  refine ⟨⟨hF0, rfl⟩, ?_⟩
  refine kp7 rfl hR0 rfl (kpA rfl (kpnm rfl hR0 rfl (kpW9 rfl hR0 rfl (kp6 rfl hR0 rfl (kp4 rfl (kp5 rfl hR0 rfl (kp0 rfl (kp1 rfl (kp2 rfl (kp3 rfl (sp_X12_reach hB6 hR0 (fun x35 y40 I36 J37 hB38 p39 kq44 kq43 kq42 kq41 k46 k45 k47 w51 w50 w49 w48 => ?_))))))))))))
  have f52 : Fr pT I4 I36 := p39
  have i53 := i32 x35
  have e54 : ((I36 3 1) : Int32).toInt = (I 3 1).toInt := Eq.trans (congrArg Int32.toInt (Eq.trans kq41 kq9)) rfl
  have kz55 : ((I36 3 1) : Int32).toInt = (I 3 1).toInt := e54
  have e56 : ((I36 97 8) : Int32).toInt = (I 97 8).toInt := Eq.trans (congrArg Int32.toInt (Eq.trans kq42 kq10)) rfl
  have kz57 : ((I36 97 8) : Int32).toInt = (I 97 8).toInt := e56
  have e58 : ((I36 1 13) : Int32).toInt = (I 1 13).toInt := Eq.trans (congrArg Int32.toInt (Eq.trans kq43 kq11)) rfl
  have kz59 : ((I36 1 13) : Int32).toInt = (I 1 13).toInt := e58
  have e60 : ((I36 97 23) : Int32).toInt = (I 97 23).toInt := Eq.trans (congrArg Int32.toInt (Eq.trans kq44 kq12)) rfl
  have kz61 : ((I36 97 23) : Int32).toInt = (I 97 23).toInt := e60
  exact hN _ _ R hB38 hR0 hF0 ⟨(Eq.trans (e54) (Eq.trans hL0 (Eq.symm (e56)))), (Eq.trans (e58) (Eq.trans hL1 (Eq.symm (e60)))), (RT.kp (RT.kp hL2 k13 k14) k45 k46), trivial⟩ (R3.kp (R3.kp hR3 w16 (by have ya : ((I4 3 1) : Int32).toInt = (I 3 1).toInt := e23; have yb : ((I 3 1) : Int32).toInt = (I 3 1).toInt := rfl; first | exact Int.le_of_eq (ya.trans yb) | exact ya.trans yb | omega)) w48 (by have ya : ((I36 3 1) : Int32).toInt = (I 3 1).toInt := e54; have yb : ((I4 3 1) : Int32).toInt = (I 3 1).toInt := e23; first | exact Int.le_of_eq (ya.trans yb) | exact ya.trans yb | omega)) (RM.kp hR0 (RM.kp hR0 hRM ⟨w17, w18, (fun j _ => congrFun w19.1 j)⟩) ⟨w49, w50, (fun j _ => f52.1 j trivial)⟩) trivial (W9.kp hR0 (W9.kp hR0 hW9 w20 w19.1 w17.2) w51 (funext fun j => f52.1 j trivial) w49.2)
set_option maxRecDepth 100000 in
set_option maxHeartbeats 2000000 in
theorem lc_37 {Q : Nat → Qt} {P : Kt} {L : Nat} {xs : Nat → Int32} (hc : Cl (AM 640) false true L xs 2 112 kL_law Q P) (hL : L ≤ 3584) {v3 : Int32} {I : Im} {J : Jm} {R : Rm} (hB0 : Bd I) (hR0 : RI R) (hF0 : Fl R) (hL0 : (I 3 1).toInt = (I 97 8).toInt) (hL1 : (I 1 13).toInt = (I 97 23).toInt) (hL2 : RT I) (hL3 : True) (hR3 : R3 I J) (hRM : RM I J R) (hFQ : True) (hW9 : W9 I R) (h0 : 0 ≤ v3.toInt) (h7 : v3.toInt + 7 ≤ (L : Int)) (hN : ∀ (I : Im) (J : Jm) (R : Rm), Bd I → RI R → Fl R → RLz I → R3 I J → RM I J R → True → W9 I R → P 1889 112 [(0, .ref 0), (1, .ref 1), (2, .ref 97), (3, .int v3)] [] I J R) : P 1563 112 [(0, .ref 0), (1, .ref 1), (2, .ref 97), (3, .int v3)] [] I J R := by
  have i_v3 := i32 v3
  have e97 : I 97 8 = nI (fl I) := (Int32.toInt_inj.mp hL0).symm.trans (fl_bd hB0).1
  have b31 := Bd.o hB0 io9_112_3_6 bd9_6_1
  refine ls_1563 hc v3 _ _ _ ?_
  have e1 : ((v3 + 1) : Int32).toInt = (v3.toInt) + (1) := ti_add rfl rfl (by omega)
  refine ⟨vp_of (a := (v3.toInt + 1)) e1 (by omega) (by omega), ?_⟩
  have z2 := i32 (xs (Int32.toNatClampNeg (v3 + 1)))
  have e3 : ((v3 + 2) : Int32).toInt = (v3.toInt) + (2) := ti_add rfl rfl (by omega)
  refine ⟨vp_of (a := (v3.toInt + 2)) e3 (by omega) (by omega), ?_⟩
  have z4 := i32 (xs (Int32.toNatClampNeg (v3 + 2)))
  refine ⟨⟨hF0, rfl⟩, ?_⟩
  refine kp7 rfl hR0 rfl (kpA rfl (kpnm rfl hR0 rfl (kp102 rfl hR0 rfl (kpW9 rfl hR0 rfl (kp6 rfl hR0 rfl (kp4 rfl (kp5 rfl hR0 rfl (kp0 rfl (kp1 rfl (kp2 rfl (kp3 rfl (sp_X11_reachAt hB0 hR0 (fun x5 y10 I6 J7 hB8 p9 kq14 kq13 kq12 kq11 k16 k15 k17 w22 w21 w20 w19 w18 => ?_)))))))))))))
  have i23 := i32 x5
  have b24 := Bd.o hB0 io9_112_3_6 bd9_6_1
  have e25 : ((I6 3 1) : Int32).toInt = (I 3 1).toInt := Eq.trans (congrArg Int32.toInt kq11) rfl
  have kz26 : ((I6 3 1) : Int32).toInt = (I 3 1).toInt := e25
  have b27 := Bd.o hB0 io9_112_97_12 bd9_12_8
  have e28 : ((I6 97 8) : Int32).toInt = (I 97 8).toInt := Eq.trans (congrArg Int32.toInt kq12) rfl
  have kz29 : ((I6 97 8) : Int32).toInt = (I 97 8).toInt := e28
  have b30 := Bd.o hB0 io9_112_1_11 bd9_11_13
  have e31 : ((I6 1 13) : Int32).toInt = (I 1 13).toInt := Eq.trans (congrArg Int32.toInt kq13) rfl
  have kz32 : ((I6 1 13) : Int32).toInt = (I 1 13).toInt := e31
  have b33 := Bd.o hB0 io9_112_97_12 bd9_12_23
  have e34 : ((I6 97 23) : Int32).toInt = (I 97 23).toInt := Eq.trans (congrArg Int32.toInt kq14) rfl
  have kz35 : ((I6 97 23) : Int32).toInt = (I 97 23).toInt := e34
  refine ⟨vp_of (a := (v3.toInt + 1)) e1 (by omega) (by omega), ?_⟩
  have z36 := i32 (xs (Int32.toNatClampNeg (v3 + 1)))
  refine ⟨vp_of (a := (v3.toInt + 2)) e3 (by omega) (by omega), ?_⟩
  have z37 := i32 (xs (Int32.toNatClampNeg (v3 + 2)))
  refine ⟨⟨hF0, rfl⟩, ?_⟩
  refine kp7 rfl hR0 rfl (kpA rfl (kpnm rfl hR0 rfl (kpW9 rfl hR0 rfl (kp6 rfl hR0 rfl (kp4 rfl (kp5 rfl hR0 rfl (kp0 rfl (kp1 rfl (kp2 rfl (kp3 rfl (sp_X12_reachAt hB8 hR0 (fun x38 y43 I39 J40 hB41 p42 kq47 kq46 kq45 kq44 k49 k48 k50 w54 w53 w52 w51 => ?_))))))))))))
  have f55 : Fr pT I6 I39 := p42
  have i56 := i32 x38
  have e57 : ((I39 3 1) : Int32).toInt = (I 3 1).toInt := Eq.trans (congrArg Int32.toInt (Eq.trans kq44 kq11)) rfl
  have kz58 : ((I39 3 1) : Int32).toInt = (I 3 1).toInt := e57
  have e59 : ((I39 97 8) : Int32).toInt = (I 97 8).toInt := Eq.trans (congrArg Int32.toInt (Eq.trans kq45 kq12)) rfl
  have kz60 : ((I39 97 8) : Int32).toInt = (I 97 8).toInt := e59
  have e61 : ((I39 1 13) : Int32).toInt = (I 1 13).toInt := Eq.trans (congrArg Int32.toInt (Eq.trans kq46 kq13)) rfl
  have kz62 : ((I39 1 13) : Int32).toInt = (I 1 13).toInt := e61
  have e63 : ((I39 97 23) : Int32).toInt = (I 97 23).toInt := Eq.trans (congrArg Int32.toInt (Eq.trans kq47 kq14)) rfl
  have kz64 : ((I39 97 23) : Int32).toInt = (I 97 23).toInt := e63
  exact hN _ _ R hB41 hR0 hF0 ⟨(Eq.trans (e57) (Eq.trans hL0 (Eq.symm (e59)))), (Eq.trans (e61) (Eq.trans hL1 (Eq.symm (e63)))), (RT.kp (RT.kp hL2 k15 k16) k48 k49), trivial⟩ (R3.kp (R3.kp hR3 w18 (by have ya : ((I6 3 1) : Int32).toInt = (I 3 1).toInt := e25; have yb : ((I 3 1) : Int32).toInt = (I 3 1).toInt := rfl; first | exact Int.le_of_eq (ya.trans yb) | exact ya.trans yb | omega)) w51 (by have ya : ((I39 3 1) : Int32).toInt = (I 3 1).toInt := e57; have yb : ((I6 3 1) : Int32).toInt = (I 3 1).toInt := e25; first | exact Int.le_of_eq (ya.trans yb) | exact ya.trans yb | omega)) (RM.kp hR0 (RM.kp hR0 hRM ⟨w19, w20, (fun j _ => congrFun w21.1 j)⟩) ⟨w52, w53, (fun j _ => f55.1 j trivial)⟩) trivial (W9.kp hR0 (W9.kp hR0 hW9 w22 w21.1 w19.2) w54 (funext fun j => f55.1 j trivial) w52.2)
set_option maxRecDepth 100000 in
set_option maxHeartbeats 2000000 in
theorem lc_38 {Q : Nat → Qt} {P : Kt} {L : Nat} {xs : Nat → Int32} (hc : Cl (AM 640) false true L xs 2 112 kL_law Q P) (hL : L ≤ 3584) {v3 : Int32} {I : Im} {J : Jm} {R : Rm} (hB0 : Bd I) (hR0 : RI R) (hF0 : Fl R) (hL0 : (I 3 1).toInt = (I 97 8).toInt) (hL1 : (I 1 13).toInt = (I 97 23).toInt) (hL2 : RT I) (hL3 : True) (hR3 : R3 I J) (hRM : RM I J R) (hFQ : True) (hW9 : W9 I R) (h0 : 0 ≤ v3.toInt) (h7 : v3.toInt + 7 ≤ (L : Int)) (hN : ∀ (I : Im) (J : Jm) (R : Rm), Bd I → RI R → Fl R → RLz I → R3 I J → RM I J R → True → W9 I R → P 1889 112 [(0, .ref 0), (1, .ref 1), (2, .ref 97), (3, .int v3)] [] I J R) : P 1596 112 [(0, .ref 0), (1, .ref 1), (2, .ref 97), (3, .int v3)] [] I J R := by
  have i_v3 := i32 v3
  have e97 : I 97 8 = nI (fl I) := (Int32.toInt_inj.mp hL0).symm.trans (fl_bd hB0).1
  have b31 := Bd.o hB0 io9_112_3_6 bd9_6_1
  refine ls_1596 hc v3 _ _ _ ?_
  have e1 : ((v3 + 1) : Int32).toInt = (v3.toInt) + (1) := ti_add rfl rfl (by omega)
  refine ⟨vp_of (a := (v3.toInt + 1)) e1 (by omega) (by omega), ?_⟩
  have z2 := i32 (xs (Int32.toNatClampNeg (v3 + 1)))
  refine ⟨⟨hF0, rfl⟩, ?_⟩
  refine kp7 rfl hR0 rfl (kpA rfl (kpnm rfl hR0 rfl (kp102 rfl hR0 rfl (kpW9 rfl hR0 rfl (kp6 rfl hR0 rfl (kp4 rfl (kp5 rfl hR0 rfl (kp0 rfl (kp1 rfl (kp2 rfl (kp3 rfl (sp_X11_fill hB0 hR0 (fun x3 y8 I4 J5 hB6 p7 kq12 kq11 kq10 kq9 k14 k13 k15 w20 w19 w18 w17 w16 => ?_)))))))))))))
  have i21 := i32 x3
  have b22 := Bd.o hB0 io9_112_3_6 bd9_6_1
  have e23 : ((I4 3 1) : Int32).toInt = (I 3 1).toInt := Eq.trans (congrArg Int32.toInt kq9) rfl
  have kz24 : ((I4 3 1) : Int32).toInt = (I 3 1).toInt := e23
  have b25 := Bd.o hB0 io9_112_97_12 bd9_12_8
  have e26 : ((I4 97 8) : Int32).toInt = (I 97 8).toInt := Eq.trans (congrArg Int32.toInt kq10) rfl
  have kz27 : ((I4 97 8) : Int32).toInt = (I 97 8).toInt := e26
  have b28 := Bd.o hB0 io9_112_1_11 bd9_11_13
  have e29 : ((I4 1 13) : Int32).toInt = (I 1 13).toInt := Eq.trans (congrArg Int32.toInt kq11) rfl
  have kz30 : ((I4 1 13) : Int32).toInt = (I 1 13).toInt := e29
  have b31 := Bd.o hB0 io9_112_97_12 bd9_12_23
  have e32 : ((I4 97 23) : Int32).toInt = (I 97 23).toInt := Eq.trans (congrArg Int32.toInt kq12) rfl
  have kz33 : ((I4 97 23) : Int32).toInt = (I 97 23).toInt := e32
  refine ⟨vp_of (a := (v3.toInt + 1)) e1 (by omega) (by omega), ?_⟩
  have z34 := i32 (xs (Int32.toNatClampNeg (v3 + 1)))
  refine ⟨⟨hF0, rfl⟩, ?_⟩
  refine kp7 rfl hR0 rfl (kpA rfl (kpnm rfl hR0 rfl (kpW9 rfl hR0 rfl (kp6 rfl hR0 rfl (kp4 rfl (kp5 rfl hR0 rfl (kp0 rfl (kp1 rfl (kp2 rfl (kp3 rfl (sp_X12_fill hB6 hR0 (fun x35 y40 I36 J37 hB38 p39 kq44 kq43 kq42 kq41 k46 k45 k47 w51 w50 w49 w48 => ?_))))))))))))
  have f52 : Fr pT I4 I36 := p39
  have i53 := i32 x35
  have e54 : ((I36 3 1) : Int32).toInt = (I 3 1).toInt := Eq.trans (congrArg Int32.toInt (Eq.trans kq41 kq9)) rfl
  have kz55 : ((I36 3 1) : Int32).toInt = (I 3 1).toInt := e54
  have e56 : ((I36 97 8) : Int32).toInt = (I 97 8).toInt := Eq.trans (congrArg Int32.toInt (Eq.trans kq42 kq10)) rfl
  have kz57 : ((I36 97 8) : Int32).toInt = (I 97 8).toInt := e56
  have e58 : ((I36 1 13) : Int32).toInt = (I 1 13).toInt := Eq.trans (congrArg Int32.toInt (Eq.trans kq43 kq11)) rfl
  have kz59 : ((I36 1 13) : Int32).toInt = (I 1 13).toInt := e58
  have e60 : ((I36 97 23) : Int32).toInt = (I 97 23).toInt := Eq.trans (congrArg Int32.toInt (Eq.trans kq44 kq12)) rfl
  have kz61 : ((I36 97 23) : Int32).toInt = (I 97 23).toInt := e60
  exact hN _ _ R hB38 hR0 hF0 ⟨(Eq.trans (e54) (Eq.trans hL0 (Eq.symm (e56)))), (Eq.trans (e58) (Eq.trans hL1 (Eq.symm (e60)))), (RT.kp (RT.kp hL2 k13 k14) k45 k46), trivial⟩ (R3.kp (R3.kp hR3 w16 (by have ya : ((I4 3 1) : Int32).toInt = (I 3 1).toInt := e23; have yb : ((I 3 1) : Int32).toInt = (I 3 1).toInt := rfl; first | exact Int.le_of_eq (ya.trans yb) | exact ya.trans yb | omega)) w48 (by have ya : ((I36 3 1) : Int32).toInt = (I 3 1).toInt := e54; have yb : ((I4 3 1) : Int32).toInt = (I 3 1).toInt := e23; first | exact Int.le_of_eq (ya.trans yb) | exact ya.trans yb | omega)) (RM.kp hR0 (RM.kp hR0 hRM ⟨w17, w18, (fun j _ => congrFun w19.1 j)⟩) ⟨w49, w50, (fun j _ => f52.1 j trivial)⟩) trivial (W9.kp hR0 (W9.kp hR0 hW9 w20 w19.1 w17.2) w51 (funext fun j => f52.1 j trivial) w49.2)
set_option maxRecDepth 100000 in
set_option maxHeartbeats 2000000 in
theorem lc_39 {Q : Nat → Qt} {P : Kt} {L : Nat} {xs : Nat → Int32} (hc : Cl (AM 640) false true L xs 2 112 kL_law Q P) (hL : L ≤ 3584) {v3 : Int32} {I : Im} {J : Jm} {R : Rm} (hB0 : Bd I) (hR0 : RI R) (hF0 : Fl R) (hL0 : (I 3 1).toInt = (I 97 8).toInt) (hL1 : (I 1 13).toInt = (I 97 23).toInt) (hL2 : RT I) (hL3 : True) (hR3 : R3 I J) (hRM : RM I J R) (hFQ : True) (hW9 : W9 I R) (h0 : 0 ≤ v3.toInt) (h7 : v3.toInt + 7 ≤ (L : Int)) (hN : ∀ (I : Im) (J : Jm) (R : Rm), Bd I → RI R → Fl R → RLz I → R3 I J → RM I J R → True → W9 I R → P 1889 112 [(0, .ref 0), (1, .ref 1), (2, .ref 97), (3, .int v3)] [] I J R) : P 1619 112 [(0, .ref 0), (1, .ref 1), (2, .ref 97), (3, .int v3)] [] I J R := by
  have i_v3 := i32 v3
  have e97 : I 97 8 = nI (fl I) := (Int32.toInt_inj.mp hL0).symm.trans (fl_bd hB0).1
  have b31 := Bd.o hB0 io9_112_3_6 bd9_6_1
  refine ls_1619 hc v3 _ _ _ ?_
  have e1 : ((v3 + 1) : Int32).toInt = (v3.toInt) + (1) := ti_add rfl rfl (by omega)
  refine ⟨vp_of (a := (v3.toInt + 1)) e1 (by omega) (by omega), ?_⟩
  have z2 := i32 (xs (Int32.toNatClampNeg (v3 + 1)))
  have e3 : ((v3 + 2) : Int32).toInt = (v3.toInt) + (2) := ti_add rfl rfl (by omega)
  refine ⟨vp_of (a := (v3.toInt + 2)) e3 (by omega) (by omega), ?_⟩
  have z4 := i32 (xs (Int32.toNatClampNeg (v3 + 2)))
  refine ⟨⟨hF0, rfl⟩, ?_⟩
  refine kp7 rfl hR0 rfl (kpA rfl (kpnm rfl hR0 rfl (kp102 rfl hR0 rfl (kpW9 rfl hR0 rfl (kx (cx_fillAt9 hR0 hRM.1.1 hW9) (kp6 rfl hR0 rfl (kp4 rfl (kp5 rfl hR0 rfl (kp0 rfl (kp1 rfl (kp2 rfl (kp3 rfl (sp_X11_fillAt hB0 hR0 (fun x5 y10 I6 J7 hB8 p9 kq14 kq13 kq12 kq11 k16 k15 k17 w23 w22 w21 w20 w19 w18 => ?_))))))))))))))
  have i24 := i32 x5
  have b25 := Bd.o hB0 io9_112_3_6 bd9_6_1
  have e26 : ((I6 3 1) : Int32).toInt = (I 3 1).toInt := Eq.trans (congrArg Int32.toInt kq11) rfl
  have kz27 : ((I6 3 1) : Int32).toInt = (I 3 1).toInt := e26
  have b28 := Bd.o hB0 io9_112_97_12 bd9_12_8
  have e29 : ((I6 97 8) : Int32).toInt = (I 97 8).toInt := Eq.trans (congrArg Int32.toInt kq12) rfl
  have kz30 : ((I6 97 8) : Int32).toInt = (I 97 8).toInt := e29
  have b31 := Bd.o hB0 io9_112_1_11 bd9_11_13
  have e32 : ((I6 1 13) : Int32).toInt = (I 1 13).toInt := Eq.trans (congrArg Int32.toInt kq13) rfl
  have kz33 : ((I6 1 13) : Int32).toInt = (I 1 13).toInt := e32
  have b34 := Bd.o hB0 io9_112_97_12 bd9_12_23
  have e35 : ((I6 97 23) : Int32).toInt = (I 97 23).toInt := Eq.trans (congrArg Int32.toInt kq14) rfl
  have kz36 : ((I6 97 23) : Int32).toInt = (I 97 23).toInt := e35
  refine ⟨vp_of (a := (v3.toInt + 1)) e1 (by omega) (by omega), ?_⟩
  have z37 := i32 (xs (Int32.toNatClampNeg (v3 + 1)))
  refine ⟨vp_of (a := (v3.toInt + 2)) e3 (by omega) (by omega), ?_⟩
  have z38 := i32 (xs (Int32.toNatClampNeg (v3 + 2)))
  refine ⟨⟨hF0, rfl⟩, ?_⟩
  refine kp7 rfl hR0 rfl (kpA rfl (kpnm rfl hR0 rfl (kpW9 rfl hR0 rfl (kx (mx_fillAt9 hW9 w21.1) (kp6 rfl hR0 rfl (kp4 rfl (kp5 rfl hR0 rfl (kp0 rfl (kp1 rfl (kp2 rfl (kp3 rfl (sp_X12_fillAt hB8 hR0 (fun x39 y44 I40 J41 hB42 p43 kq48 kq47 kq46 kq45 k50 k49 k51 w56 w55 w54 w53 w52 => ?_)))))))))))))
  have f57 : Fr pT I6 I40 := p43
  have i58 := i32 x39
  have e59 : ((I40 3 1) : Int32).toInt = (I 3 1).toInt := Eq.trans (congrArg Int32.toInt (Eq.trans kq45 kq11)) rfl
  have kz60 : ((I40 3 1) : Int32).toInt = (I 3 1).toInt := e59
  have e61 : ((I40 97 8) : Int32).toInt = (I 97 8).toInt := Eq.trans (congrArg Int32.toInt (Eq.trans kq46 kq12)) rfl
  have kz62 : ((I40 97 8) : Int32).toInt = (I 97 8).toInt := e61
  have e63 : ((I40 1 13) : Int32).toInt = (I 1 13).toInt := Eq.trans (congrArg Int32.toInt (Eq.trans kq47 kq13)) rfl
  have kz64 : ((I40 1 13) : Int32).toInt = (I 1 13).toInt := e63
  have e65 : ((I40 97 23) : Int32).toInt = (I 97 23).toInt := Eq.trans (congrArg Int32.toInt (Eq.trans kq48 kq14)) rfl
  have kz66 : ((I40 97 23) : Int32).toInt = (I 97 23).toInt := e65
  have hg67 : (x39 : Int32).toInt = (x5 : Int32).toInt := congrArg Int32.toInt (w56.trans w23.symm)
  refine ⟨fun c68 => ?_, fun c68 => ?_⟩
  · skip
    have d69 : ((x5.toInt) : Int) = (x39.toInt) := ci_eq rfl rfl c68
    exact hN _ _ R hB42 hR0 hF0 ⟨(Eq.trans (e59) (Eq.trans hL0 (Eq.symm (e61)))), (Eq.trans (e63) (Eq.trans hL1 (Eq.symm (e65)))), (RT.kp (RT.kp hL2 k15 k16) k49 k50), trivial⟩ (R3.kp (R3.kp hR3 w18 (by have ya : ((I6 3 1) : Int32).toInt = (I 3 1).toInt := e26; have yb : ((I 3 1) : Int32).toInt = (I 3 1).toInt := rfl; first | exact Int.le_of_eq (ya.trans yb) | exact ya.trans yb | omega)) w52 (by have ya : ((I40 3 1) : Int32).toInt = (I 3 1).toInt := e59; have yb : ((I6 3 1) : Int32).toInt = (I 3 1).toInt := e26; first | exact Int.le_of_eq (ya.trans yb) | exact ya.trans yb | omega)) (RM.kp hR0 (RM.kp hR0 hRM ⟨w19, w20, (fun j _ => congrFun w21.1 j)⟩) ⟨w53, w54, (fun j _ => f57.1 j trivial)⟩) trivial (W9.kp hR0 (W9.kp hR0 hW9 w22 w21.1 w19.2) w55 (funext fun j => f57.1 j trivial) w53.2)
  · skip
    have d70 : ¬ ((x5.toInt) : Int) = (x39.toInt) := ci_ne rfl rfl c68
    exfalso
    omega
set_option maxRecDepth 100000 in
set_option maxHeartbeats 2000000 in
theorem lc_40 {Q : Nat → Qt} {P : Kt} {L : Nat} {xs : Nat → Int32} (hc : Cl (AM 640) false true L xs 2 112 kL_law Q P) (hL : L ≤ 3584) {v3 : Int32} {I : Im} {J : Jm} {R : Rm} (hB0 : Bd I) (hR0 : RI R) (hF0 : Fl R) (hL0 : (I 3 1).toInt = (I 97 8).toInt) (hL1 : (I 1 13).toInt = (I 97 23).toInt) (hL2 : RT I) (hL3 : True) (hR3 : R3 I J) (hRM : RM I J R) (hFQ : True) (hW9 : W9 I R) (h0 : 0 ≤ v3.toInt) (h7 : v3.toInt + 7 ≤ (L : Int)) (hN : ∀ (I : Im) (J : Jm) (R : Rm), Bd I → RI R → Fl R → RLz I → R3 I J → RM I J R → True → W9 I R → P 1889 112 [(0, .ref 0), (1, .ref 1), (2, .ref 97), (3, .int v3)] [] I J R) : P 1652 112 [(0, .ref 0), (1, .ref 1), (2, .ref 97), (3, .int v3)] [] I J R := by
  have i_v3 := i32 v3
  have e97 : I 97 8 = nI (fl I) := (Int32.toInt_inj.mp hL0).symm.trans (fl_bd hB0).1
  have b31 := Bd.o hB0 io9_112_3_6 bd9_6_1
  refine ls_1652 hc v3 _ _ _ ?_
  have e1 : ((v3 + 1) : Int32).toInt = (v3.toInt) + (1) := ti_add rfl rfl (by omega)
  refine ⟨vp_of (a := (v3.toInt + 1)) e1 (by omega) (by omega), ?_⟩
  have z2 := i32 (xs (Int32.toNatClampNeg (v3 + 1)))
  refine ⟨⟨hF0, rfl⟩, ?_⟩
  refine kp7 rfl hR0 rfl (kpA rfl (kpnm rfl hR0 rfl (kp102 rfl hR0 rfl (kpW9 rfl hR0 rfl (kp4 rfl (kp5 rfl hR0 rfl (kp0 rfl (kp1 rfl (kp2 rfl (kp3 rfl (sp_X11_plate hB0 hR0 (fun x3 y8 I4 J5 hB6 p7 kq12 kq11 kq10 kq9 k14 k13 w19 w18 w17 w16 w15 => ?_))))))))))))
  have i20 := i32 x3
  have b21 := Bd.o hB0 io9_112_3_6 bd9_6_1
  have e22 : ((I4 3 1) : Int32).toInt = (I 3 1).toInt := Eq.trans (congrArg Int32.toInt kq9) rfl
  have kz23 : ((I4 3 1) : Int32).toInt = (I 3 1).toInt := e22
  have b24 := Bd.o hB0 io9_112_97_12 bd9_12_8
  have e25 : ((I4 97 8) : Int32).toInt = (I 97 8).toInt := Eq.trans (congrArg Int32.toInt kq10) rfl
  have kz26 : ((I4 97 8) : Int32).toInt = (I 97 8).toInt := e25
  have b27 := Bd.o hB0 io9_112_1_11 bd9_11_13
  have e28 : ((I4 1 13) : Int32).toInt = (I 1 13).toInt := Eq.trans (congrArg Int32.toInt kq11) rfl
  have kz29 : ((I4 1 13) : Int32).toInt = (I 1 13).toInt := e28
  have b30 := Bd.o hB0 io9_112_97_12 bd9_12_23
  have e31 : ((I4 97 23) : Int32).toInt = (I 97 23).toInt := Eq.trans (congrArg Int32.toInt kq12) rfl
  have kz32 : ((I4 97 23) : Int32).toInt = (I 97 23).toInt := e31
  refine ⟨vp_of (a := (v3.toInt + 1)) e1 (by omega) (by omega), ?_⟩
  have z33 := i32 (xs (Int32.toNatClampNeg (v3 + 1)))
  refine ⟨⟨hF0, rfl⟩, ?_⟩
  refine kp7 rfl hR0 rfl (kpA rfl (kpnm rfl hR0 rfl (kp102 rfl hR0 rfl (kpW9 rfl hR0 rfl (kp6 rfl hR0 rfl (kp4 rfl (kp5 rfl hR0 rfl (kp0 rfl (kp1 rfl (kp2 rfl (kp3 rfl (sp_X12_plate hB6 hR0 (fun x34 y39 I35 J36 hB37 p38 kq43 kq42 kq41 kq40 k45 k44 k46 w51 w50 w49 w48 w47 => ?_)))))))))))))
  have i52 := i32 x34
  have e53 : ((I35 3 1) : Int32).toInt = (I 3 1).toInt := Eq.trans (congrArg Int32.toInt (Eq.trans kq40 kq9)) rfl
  have kz54 : ((I35 3 1) : Int32).toInt = (I 3 1).toInt := e53
  have e55 : ((I35 97 8) : Int32).toInt = (I 97 8).toInt := Eq.trans (congrArg Int32.toInt (Eq.trans kq41 kq10)) rfl
  have kz56 : ((I35 97 8) : Int32).toInt = (I 97 8).toInt := e55
  have e57 : ((I35 1 13) : Int32).toInt = (I 1 13).toInt := Eq.trans (congrArg Int32.toInt (Eq.trans kq42 kq11)) rfl
  have kz58 : ((I35 1 13) : Int32).toInt = (I 1 13).toInt := e57
  have e59 : ((I35 97 23) : Int32).toInt = (I 97 23).toInt := Eq.trans (congrArg Int32.toInt (Eq.trans kq43 kq12)) rfl
  have kz60 : ((I35 97 23) : Int32).toInt = (I 97 23).toInt := e59
  exact hN _ _ R hB37 hR0 hF0 ⟨(Eq.trans (e53) (Eq.trans hL0 (Eq.symm (e55)))), (Eq.trans (e57) (Eq.trans hL1 (Eq.symm (e59)))), (RT.kp (RT.kp hL2 k13 k14) k44 k45), trivial⟩ (R3.kp (R3.kp hR3 w15 (by have ya : ((I4 3 1) : Int32).toInt = (I 3 1).toInt := e22; have yb : ((I 3 1) : Int32).toInt = (I 3 1).toInt := rfl; first | exact Int.le_of_eq (ya.trans yb) | exact ya.trans yb | omega)) w47 (by have ya : ((I35 3 1) : Int32).toInt = (I 3 1).toInt := e53; have yb : ((I4 3 1) : Int32).toInt = (I 3 1).toInt := e22; first | exact Int.le_of_eq (ya.trans yb) | exact ya.trans yb | omega)) (RM.kp hR0 (RM.kp hR0 hRM ⟨w16, w17, (fun j _ => congrFun w18.1 j)⟩) ⟨w48, w49, (fun j _ => congrFun w50.1 j)⟩) trivial (W9.kp hR0 (W9.kp hR0 hW9 w19 w18.1 w16.2) w51 w50.1 w48.2)
set_option maxRecDepth 100000 in
set_option maxHeartbeats 2000000 in
theorem lc_41 {Q : Nat → Qt} {P : Kt} {L : Nat} {xs : Nat → Int32} (hc : Cl (AM 640) false true L xs 2 112 kL_law Q P) (hL : L ≤ 3584) {v3 : Int32} {I : Im} {J : Jm} {R : Rm} (hB0 : Bd I) (hR0 : RI R) (hF0 : Fl R) (hL0 : (I 3 1).toInt = (I 97 8).toInt) (hL1 : (I 1 13).toInt = (I 97 23).toInt) (hL2 : RT I) (hL3 : True) (hR3 : R3 I J) (hRM : RM I J R) (hFQ : True) (hW9 : W9 I R) (h0 : 0 ≤ v3.toInt) (h7 : v3.toInt + 7 ≤ (L : Int)) (hN : ∀ (I : Im) (J : Jm) (R : Rm), Bd I → RI R → Fl R → RLz I → R3 I J → RM I J R → True → W9 I R → P 1889 112 [(0, .ref 0), (1, .ref 1), (2, .ref 97), (3, .int v3)] [] I J R) : P 1675 112 [(0, .ref 0), (1, .ref 1), (2, .ref 97), (3, .int v3)] [] I J R := by
  have i_v3 := i32 v3
  have e97 : I 97 8 = nI (fl I) := (Int32.toInt_inj.mp hL0).symm.trans (fl_bd hB0).1
  have b31 := Bd.o hB0 io9_112_3_6 bd9_6_1
  refine ls_1675 hc v3 _ _ _ ?_
  have e1 : ((v3 + 1) : Int32).toInt = (v3.toInt) + (1) := ti_add rfl rfl (by omega)
  refine ⟨vp_of (a := (v3.toInt + 1)) e1 (by omega) (by omega), ?_⟩
  have z2 := i32 (xs (Int32.toNatClampNeg (v3 + 1)))
  refine ⟨⟨hF0, rfl⟩, ?_⟩
  refine kp7 rfl hR0 rfl (kpA rfl (kpnm rfl hR0 rfl (kp102 rfl hR0 rfl (kpW9 rfl hR0 rfl (kp4 rfl (kp5 rfl hR0 rfl (kp0 rfl (kp1 rfl (kp2 rfl (kp3 rfl (sp_X11_plateMove hB0 hR0 (fun x3 y8 I4 J5 hB6 p7 kq12 kq11 kq10 kq9 k14 k13 w19 w18 w17 w16 w15 => ?_))))))))))))
  have i20 := i32 x3
  have b21 := Bd.o hB0 io9_112_3_6 bd9_6_1
  have e22 : ((I4 3 1) : Int32).toInt = (I 3 1).toInt := Eq.trans (congrArg Int32.toInt kq9) rfl
  have kz23 : ((I4 3 1) : Int32).toInt = (I 3 1).toInt := e22
  have b24 := Bd.o hB0 io9_112_97_12 bd9_12_8
  have e25 : ((I4 97 8) : Int32).toInt = (I 97 8).toInt := Eq.trans (congrArg Int32.toInt kq10) rfl
  have kz26 : ((I4 97 8) : Int32).toInt = (I 97 8).toInt := e25
  have b27 := Bd.o hB0 io9_112_1_11 bd9_11_13
  have e28 : ((I4 1 13) : Int32).toInt = (I 1 13).toInt := Eq.trans (congrArg Int32.toInt kq11) rfl
  have kz29 : ((I4 1 13) : Int32).toInt = (I 1 13).toInt := e28
  have b30 := Bd.o hB0 io9_112_97_12 bd9_12_23
  have e31 : ((I4 97 23) : Int32).toInt = (I 97 23).toInt := Eq.trans (congrArg Int32.toInt kq12) rfl
  have kz32 : ((I4 97 23) : Int32).toInt = (I 97 23).toInt := e31
  refine ⟨vp_of (a := (v3.toInt + 1)) e1 (by omega) (by omega), ?_⟩
  have z33 := i32 (xs (Int32.toNatClampNeg (v3 + 1)))
  refine ⟨⟨hF0, rfl⟩, ?_⟩
  refine kp7 rfl hR0 rfl (kpA rfl (kpnm rfl hR0 rfl (kp102 rfl hR0 rfl (kpW9 rfl hR0 rfl (kp6 rfl hR0 rfl (kp4 rfl (kp5 rfl hR0 rfl (kp0 rfl (kp1 rfl (kp2 rfl (kp3 rfl (sp_X12_plateMove hB6 hR0 (fun x34 y39 I35 J36 hB37 p38 kq43 kq42 kq41 kq40 k45 k44 k46 w51 w50 w49 w48 w47 => ?_)))))))))))))
  have i52 := i32 x34
  have e53 : ((I35 3 1) : Int32).toInt = (I 3 1).toInt := Eq.trans (congrArg Int32.toInt (Eq.trans kq40 kq9)) rfl
  have kz54 : ((I35 3 1) : Int32).toInt = (I 3 1).toInt := e53
  have e55 : ((I35 97 8) : Int32).toInt = (I 97 8).toInt := Eq.trans (congrArg Int32.toInt (Eq.trans kq41 kq10)) rfl
  have kz56 : ((I35 97 8) : Int32).toInt = (I 97 8).toInt := e55
  have e57 : ((I35 1 13) : Int32).toInt = (I 1 13).toInt := Eq.trans (congrArg Int32.toInt (Eq.trans kq42 kq11)) rfl
  have kz58 : ((I35 1 13) : Int32).toInt = (I 1 13).toInt := e57
  have e59 : ((I35 97 23) : Int32).toInt = (I 97 23).toInt := Eq.trans (congrArg Int32.toInt (Eq.trans kq43 kq12)) rfl
  have kz60 : ((I35 97 23) : Int32).toInt = (I 97 23).toInt := e59
  exact hN _ _ R hB37 hR0 hF0 ⟨(Eq.trans (e53) (Eq.trans hL0 (Eq.symm (e55)))), (Eq.trans (e57) (Eq.trans hL1 (Eq.symm (e59)))), (RT.kp (RT.kp hL2 k13 k14) k44 k45), trivial⟩ (R3.kp (R3.kp hR3 w15 (by have ya : ((I4 3 1) : Int32).toInt = (I 3 1).toInt := e22; have yb : ((I 3 1) : Int32).toInt = (I 3 1).toInt := rfl; first | exact Int.le_of_eq (ya.trans yb) | exact ya.trans yb | omega)) w47 (by have ya : ((I35 3 1) : Int32).toInt = (I 3 1).toInt := e53; have yb : ((I4 3 1) : Int32).toInt = (I 3 1).toInt := e22; first | exact Int.le_of_eq (ya.trans yb) | exact ya.trans yb | omega)) (RM.kp hR0 (RM.kp hR0 hRM ⟨w16, w17, (fun j _ => congrFun w18.1 j)⟩) ⟨w48, w49, (fun j _ => congrFun w50.1 j)⟩) trivial (W9.kp hR0 (W9.kp hR0 hW9 w19 w18.1 w16.2) w51 w50.1 w48.2)
set_option maxRecDepth 100000 in
set_option maxHeartbeats 2000000 in
theorem lc_42 {Q : Nat → Qt} {P : Kt} {L : Nat} {xs : Nat → Int32} (hc : Cl (AM 640) false true L xs 2 112 kL_law Q P) (hL : L ≤ 3584) {v3 : Int32} {I : Im} {J : Jm} {R : Rm} (hB0 : Bd I) (hR0 : RI R) (hF0 : Fl R) (hL0 : (I 3 1).toInt = (I 97 8).toInt) (hL1 : (I 1 13).toInt = (I 97 23).toInt) (hL2 : RT I) (hL3 : True) (hR3 : R3 I J) (hRM : RM I J R) (hFQ : True) (hW9 : W9 I R) (h0 : 0 ≤ v3.toInt) (h7 : v3.toInt + 7 ≤ (L : Int)) (hN : ∀ (I : Im) (J : Jm) (R : Rm), Bd I → RI R → Fl R → RLz I → R3 I J → RM I J R → True → W9 I R → P 1889 112 [(0, .ref 0), (1, .ref 1), (2, .ref 97), (3, .int v3)] [] I J R) : P 1698 112 [(0, .ref 0), (1, .ref 1), (2, .ref 97), (3, .int v3)] [] I J R := by
  have i_v3 := i32 v3
  have e97 : I 97 8 = nI (fl I) := (Int32.toInt_inj.mp hL0).symm.trans (fl_bd hB0).1
  have b31 := Bd.o hB0 io9_112_3_6 bd9_6_1
  refine ls_1698 hc v3 _ _ _ ?_
  have e1 : ((v3 + 1) : Int32).toInt = (v3.toInt) + (1) := ti_add rfl rfl (by omega)
  refine ⟨vp_of (a := (v3.toInt + 1)) e1 (by omega) (by omega), ?_⟩
  have z2 := i32 (xs (Int32.toNatClampNeg (v3 + 1)))
  have e3 : ((v3 + 2) : Int32).toInt = (v3.toInt) + (2) := ti_add rfl rfl (by omega)
  refine ⟨vp_of (a := (v3.toInt + 2)) e3 (by omega) (by omega), ?_⟩
  have z4 := i32 (xs (Int32.toNatClampNeg (v3 + 2)))
  have e5 : ((v3 + 3) : Int32).toInt = (v3.toInt) + (3) := ti_add rfl rfl (by omega)
  refine ⟨vp_of (a := (v3.toInt + 3)) e5 (by omega) (by omega), ?_⟩
  have z6 := i32 (xs (Int32.toNatClampNeg (v3 + 3)))
  have e7 : ((v3 + 4) : Int32).toInt = (v3.toInt) + (4) := ti_add rfl rfl (by omega)
  refine ⟨vp_of (a := (v3.toInt + 4)) e7 (by omega) (by omega), ?_⟩
  have z8 := i32 (xs (Int32.toNatClampNeg (v3 + 4)))
  refine ⟨⟨hF0, rfl⟩, ?_⟩
  refine kp7 rfl hR0 rfl (kpA rfl (kpnm rfl hR0 rfl (kp102 rfl hR0 rfl (kpW9 rfl hR0 rfl (kp4 rfl (kp5 rfl hR0 rfl (kp0 rfl (kp1 rfl (kp2 rfl (kp3 rfl (sp_X11_luck hB0 hR0 (fun x9 y14 I10 J11 hB12 p13 kq18 kq17 kq16 kq15 k20 k19 w25 w24 w23 w22 w21 => ?_))))))))))))
  intro o26
  have i27 := i32 x9
  have b28 := Bd.o hB0 io9_112_3_6 bd9_6_1
  have e29 : ((I10 3 1) : Int32).toInt = (I 3 1).toInt := Eq.trans (congrArg Int32.toInt kq15) rfl
  have kz30 : ((I10 3 1) : Int32).toInt = (I 3 1).toInt := e29
  have b31 := Bd.o hB0 io9_112_97_12 bd9_12_8
  have e32 : ((I10 97 8) : Int32).toInt = (I 97 8).toInt := Eq.trans (congrArg Int32.toInt kq16) rfl
  have kz33 : ((I10 97 8) : Int32).toInt = (I 97 8).toInt := e32
  have b34 := Bd.o hB0 io9_112_1_11 bd9_11_13
  have e35 : ((I10 1 13) : Int32).toInt = (I 1 13).toInt := Eq.trans (congrArg Int32.toInt kq17) rfl
  have kz36 : ((I10 1 13) : Int32).toInt = (I 1 13).toInt := e35
  have b37 := Bd.o hB0 io9_112_97_12 bd9_12_23
  have e38 : ((I10 97 23) : Int32).toInt = (I 97 23).toInt := Eq.trans (congrArg Int32.toInt kq18) rfl
  have kz39 : ((I10 97 23) : Int32).toInt = (I 97 23).toInt := e38
  refine ⟨vp_of (a := (v3.toInt + 1)) e1 (by omega) (by omega), ?_⟩
  have z40 := i32 (xs (Int32.toNatClampNeg (v3 + 1)))
  refine ⟨vp_of (a := (v3.toInt + 2)) e3 (by omega) (by omega), ?_⟩
  have z41 := i32 (xs (Int32.toNatClampNeg (v3 + 2)))
  refine ⟨vp_of (a := (v3.toInt + 3)) e5 (by omega) (by omega), ?_⟩
  have z42 := i32 (xs (Int32.toNatClampNeg (v3 + 3)))
  refine ⟨vp_of (a := (v3.toInt + 4)) e7 (by omega) (by omega), ?_⟩
  have z43 := i32 (xs (Int32.toNatClampNeg (v3 + 4)))
  refine ⟨⟨hF0, rfl⟩, ?_⟩
  refine kp7 rfl hR0 rfl (kpA rfl (kpnm rfl hR0 rfl (kp102 rfl hR0 rfl (kpW9 rfl hR0 rfl (kp6 rfl hR0 rfl (kp4 rfl (kp5 rfl hR0 rfl (kp0 rfl (kp1 rfl (kp2 rfl (kp3 rfl (sp_X12_luck hB12 hR0 (fun x44 y49 I45 J46 hB47 p48 kq53 kq52 kq51 kq50 k55 k54 k56 w61 w60 w59 w58 w57 => ?_)))))))))))))
  intro o62
  have i63 := i32 x44
  have e64 : ((I45 3 1) : Int32).toInt = (I 3 1).toInt := Eq.trans (congrArg Int32.toInt (Eq.trans kq50 kq15)) rfl
  have kz65 : ((I45 3 1) : Int32).toInt = (I 3 1).toInt := e64
  have e66 : ((I45 97 8) : Int32).toInt = (I 97 8).toInt := Eq.trans (congrArg Int32.toInt (Eq.trans kq51 kq16)) rfl
  have kz67 : ((I45 97 8) : Int32).toInt = (I 97 8).toInt := e66
  have e68 : ((I45 1 13) : Int32).toInt = (I 1 13).toInt := Eq.trans (congrArg Int32.toInt (Eq.trans kq52 kq17)) rfl
  have kz69 : ((I45 1 13) : Int32).toInt = (I 1 13).toInt := e68
  have e70 : ((I45 97 23) : Int32).toInt = (I 97 23).toInt := Eq.trans (congrArg Int32.toInt (Eq.trans kq53 kq18)) rfl
  have kz71 : ((I45 97 23) : Int32).toInt = (I 97 23).toInt := e70
  exact hN _ _ R hB47 hR0 hF0 ⟨(Eq.trans (e64) (Eq.trans hL0 (Eq.symm (e66)))), (Eq.trans (e68) (Eq.trans hL1 (Eq.symm (e70)))), (RT.kp (RT.kp hL2 k19 k20) k54 k55), trivial⟩ (R3.kp (R3.kp hR3 w21 (by have ya : ((I10 3 1) : Int32).toInt = (I 3 1).toInt := e29; have yb : ((I 3 1) : Int32).toInt = (I 3 1).toInt := rfl; first | exact Int.le_of_eq (ya.trans yb) | exact ya.trans yb | omega)) w57 (by have ya : ((I45 3 1) : Int32).toInt = (I 3 1).toInt := e64; have yb : ((I10 3 1) : Int32).toInt = (I 3 1).toInt := e29; first | exact Int.le_of_eq (ya.trans yb) | exact ya.trans yb | omega)) (RM.kp hR0 (RM.kp hR0 hRM ⟨w22, w23, (fun j _ => congrFun w24.1 j)⟩) ⟨w58, w59, (fun j _ => congrFun w60.1 j)⟩) trivial (W9.kp hR0 (W9.kp hR0 hW9 w25 w24.1 w22.2) w61 w60.1 w58.2)
set_option maxRecDepth 100000 in
set_option maxHeartbeats 2000000 in
theorem lc_43 {Q : Nat → Qt} {P : Kt} {L : Nat} {xs : Nat → Int32} (hc : Cl (AM 640) false true L xs 2 112 kL_law Q P) (hL : L ≤ 3584) {v3 : Int32} {I : Im} {J : Jm} {R : Rm} (hB0 : Bd I) (hR0 : RI R) (hF0 : Fl R) (hL0 : (I 3 1).toInt = (I 97 8).toInt) (hL1 : (I 1 13).toInt = (I 97 23).toInt) (hL2 : RT I) (hL3 : True) (hR3 : R3 I J) (hRM : RM I J R) (hFQ : True) (hW9 : W9 I R) (h0 : 0 ≤ v3.toInt) (h7 : v3.toInt + 7 ≤ (L : Int)) (hN : ∀ (I : Im) (J : Jm) (R : Rm), Bd I → RI R → Fl R → RLz I → R3 I J → RM I J R → True → W9 I R → P 1889 112 [(0, .ref 0), (1, .ref 1), (2, .ref 97), (3, .int v3)] [] I J R) : P 1751 112 [(0, .ref 0), (1, .ref 1), (2, .ref 97), (3, .int v3)] [] I J R := by
  have i_v3 := i32 v3
  have e97 : I 97 8 = nI (fl I) := (Int32.toInt_inj.mp hL0).symm.trans (fl_bd hB0).1
  have b31 := Bd.o hB0 io9_112_3_6 bd9_6_1
  refine ls_1751 hc v3 _ _ _ ?_
  have e1 : ((v3 + 1) : Int32).toInt = (v3.toInt) + (1) := ti_add rfl rfl (by omega)
  refine ⟨vp_of (a := (v3.toInt + 1)) e1 (by omega) (by omega), ?_⟩
  have z2 := i32 (xs (Int32.toNatClampNeg (v3 + 1)))
  have e3 : ((v3 + 2) : Int32).toInt = (v3.toInt) + (2) := ti_add rfl rfl (by omega)
  refine ⟨vp_of (a := (v3.toInt + 2)) e3 (by omega) (by omega), ?_⟩
  have z4 := i32 (xs (Int32.toNatClampNeg (v3 + 2)))
  refine ⟨⟨hF0, rfl⟩, ?_⟩
  refine kp7 rfl hR0 rfl (kpA rfl (kpnm rfl hR0 rfl (kp102 rfl hR0 rfl (kpW9 rfl hR0 rfl (kp6 rfl hR0 rfl (kp4 rfl (kp5 rfl hR0 rfl (kp0 rfl (kp1 rfl (kp2 rfl (kp3 rfl (sp_X11_burnt hB0 hR0 (fun x5 y10 I6 J7 hB8 p9 kq14 kq13 kq12 kq11 k16 k15 k17 w22 w21 w20 w19 w18 => ?_)))))))))))))
  intro o23
  have i24 := i32 x5
  have b25 := Bd.o hB0 io9_112_3_6 bd9_6_1
  have e26 : ((I6 3 1) : Int32).toInt = (I 3 1).toInt := Eq.trans (congrArg Int32.toInt kq11) rfl
  have kz27 : ((I6 3 1) : Int32).toInt = (I 3 1).toInt := e26
  have b28 := Bd.o hB0 io9_112_97_12 bd9_12_8
  have e29 : ((I6 97 8) : Int32).toInt = (I 97 8).toInt := Eq.trans (congrArg Int32.toInt kq12) rfl
  have kz30 : ((I6 97 8) : Int32).toInt = (I 97 8).toInt := e29
  have b31 := Bd.o hB0 io9_112_1_11 bd9_11_13
  have e32 : ((I6 1 13) : Int32).toInt = (I 1 13).toInt := Eq.trans (congrArg Int32.toInt kq13) rfl
  have kz33 : ((I6 1 13) : Int32).toInt = (I 1 13).toInt := e32
  have b34 := Bd.o hB0 io9_112_97_12 bd9_12_23
  have e35 : ((I6 97 23) : Int32).toInt = (I 97 23).toInt := Eq.trans (congrArg Int32.toInt kq14) rfl
  have kz36 : ((I6 97 23) : Int32).toInt = (I 97 23).toInt := e35
  refine ⟨vp_of (a := (v3.toInt + 1)) e1 (by omega) (by omega), ?_⟩
  have z37 := i32 (xs (Int32.toNatClampNeg (v3 + 1)))
  refine ⟨vp_of (a := (v3.toInt + 2)) e3 (by omega) (by omega), ?_⟩
  have z38 := i32 (xs (Int32.toNatClampNeg (v3 + 2)))
  refine ⟨⟨hF0, rfl⟩, ?_⟩
  refine kp7 rfl hR0 rfl (kpA rfl (kpnm rfl hR0 rfl (kti rfl (kpW9 rfl hR0 rfl (kp6 rfl hR0 rfl (kp4 rfl (kp5 rfl hR0 rfl (kp0 rfl (kp1 rfl (kp2 rfl (kp3 rfl (sp_X12_burnt hB8 hR0 (fun x39 y44 I40 J41 hB42 p43 kq48 kq47 kq46 kq45 k50 k49 k51 w56 w55 w54 w53 w52 => ?_)))))))))))))
  intro o57
  have i58 := i32 x39
  have e59 : ((I40 3 1) : Int32).toInt = (I 3 1).toInt := Eq.trans (congrArg Int32.toInt (Eq.trans kq45 kq11)) rfl
  have kz60 : ((I40 3 1) : Int32).toInt = (I 3 1).toInt := e59
  have e61 : ((I40 97 8) : Int32).toInt = (I 97 8).toInt := Eq.trans (congrArg Int32.toInt (Eq.trans kq46 kq12)) rfl
  have kz62 : ((I40 97 8) : Int32).toInt = (I 97 8).toInt := e61
  have e63 : ((I40 1 13) : Int32).toInt = (I 1 13).toInt := Eq.trans (congrArg Int32.toInt (Eq.trans kq47 kq13)) rfl
  have kz64 : ((I40 1 13) : Int32).toInt = (I 1 13).toInt := e63
  have e65 : ((I40 97 23) : Int32).toInt = (I 97 23).toInt := Eq.trans (congrArg Int32.toInt (Eq.trans kq48 kq14)) rfl
  have kz66 : ((I40 97 23) : Int32).toInt = (I 97 23).toInt := e65
  exact hN _ _ R hB42 hR0 hF0 ⟨(Eq.trans (e59) (Eq.trans hL0 (Eq.symm (e61)))), (Eq.trans (e63) (Eq.trans hL1 (Eq.symm (e65)))), (RT.kp (RT.kp hL2 k15 k16) k49 k50), trivial⟩ (R3.kp (R3.kp hR3 w18 (by have ya : ((I6 3 1) : Int32).toInt = (I 3 1).toInt := e26; have yb : ((I 3 1) : Int32).toInt = (I 3 1).toInt := rfl; first | exact Int.le_of_eq (ya.trans yb) | exact ya.trans yb | omega)) w52 (by have ya : ((I40 3 1) : Int32).toInt = (I 3 1).toInt := e59; have yb : ((I6 3 1) : Int32).toInt = (I 3 1).toInt := e26; first | exact Int.le_of_eq (ya.trans yb) | exact ya.trans yb | omega)) (RM.kp hR0 (RM.kp hR0 hRM ⟨w19, w20, (fun j _ => congrFun w21.1 j)⟩) ⟨w53, w54, (fun j _ => congrFun w55 j)⟩) trivial (W9.kp hR0 (W9.kp hR0 hW9 w22 w21.1 w19.2) w56 w55 w53.2)
set_option maxRecDepth 100000 in
set_option maxHeartbeats 2000000 in
theorem lc_44 {Q : Nat → Qt} {P : Kt} {L : Nat} {xs : Nat → Int32} (hc : Cl (AM 640) false true L xs 2 112 kL_law Q P) (hL : L ≤ 3584) {v3 : Int32} {I : Im} {J : Jm} {R : Rm} (hB0 : Bd I) (hR0 : RI R) (hF0 : Fl R) (hL0 : (I 3 1).toInt = (I 97 8).toInt) (hL1 : (I 1 13).toInt = (I 97 23).toInt) (hL2 : RT I) (hL3 : True) (hR3 : R3 I J) (hRM : RM I J R) (hFQ : True) (hW9 : W9 I R) (h0 : 0 ≤ v3.toInt) (h7 : v3.toInt + 7 ≤ (L : Int)) (hN : ∀ (I : Im) (J : Jm) (R : Rm), Bd I → RI R → Fl R → RLz I → R3 I J → RM I J R → True → W9 I R → P 1889 112 [(0, .ref 0), (1, .ref 1), (2, .ref 97), (3, .int v3)] [] I J R) : P 1784 112 [(0, .ref 0), (1, .ref 1), (2, .ref 97), (3, .int v3)] [] I J R := by
  have i_v3 := i32 v3
  have e97 : I 97 8 = nI (fl I) := (Int32.toInt_inj.mp hL0).symm.trans (fl_bd hB0).1
  have b31 := Bd.o hB0 io9_112_3_6 bd9_6_1
  refine ls_1784 hc v3 _ _ _ ?_
  have e1 : ((v3 + 1) : Int32).toInt = (v3.toInt) + (1) := ti_add rfl rfl (by omega)
  refine ⟨vp_of (a := (v3.toInt + 1)) e1 (by omega) (by omega), ?_⟩
  have z2 := i32 (xs (Int32.toNatClampNeg (v3 + 1)))
  refine ⟨⟨hF0, rfl⟩, ?_⟩
  refine kp7 rfl hR0 rfl (kpA rfl (kpnm rfl hR0 rfl (kp102 rfl hR0 rfl (kx (cx_live9 hB0 hR0 hRM.1.1 hW9) (kp6 rfl hR0 rfl (kp4 rfl (kp5 rfl hR0 rfl (kp0 rfl (kp1 rfl (kp2 rfl (kp3 rfl (sp_X11_live hB0 hR0 (fun x3 y8 I4 J5 hB6 p7 kq12 kq11 kq10 kq9 k14 k13 k15 w20 w19 w18 w17 w16 => ?_)))))))))))))
  have i21 := i32 x3
  have b22 := Bd.o hB0 io9_112_3_6 bd9_6_1
  have e23 : ((I4 3 1) : Int32).toInt = (I 3 1).toInt := Eq.trans (congrArg Int32.toInt kq9) rfl
  have kz24 : ((I4 3 1) : Int32).toInt = (I 3 1).toInt := e23
  have b25 := Bd.o hB0 io9_112_97_12 bd9_12_8
  have e26 : ((I4 97 8) : Int32).toInt = (I 97 8).toInt := Eq.trans (congrArg Int32.toInt kq10) rfl
  have kz27 : ((I4 97 8) : Int32).toInt = (I 97 8).toInt := e26
  have b28 := Bd.o hB0 io9_112_1_11 bd9_11_13
  have e29 : ((I4 1 13) : Int32).toInt = (I 1 13).toInt := Eq.trans (congrArg Int32.toInt kq11) rfl
  have kz30 : ((I4 1 13) : Int32).toInt = (I 1 13).toInt := e29
  have b31 := Bd.o hB0 io9_112_97_12 bd9_12_23
  have e32 : ((I4 97 23) : Int32).toInt = (I 97 23).toInt := Eq.trans (congrArg Int32.toInt kq12) rfl
  have kz33 : ((I4 97 23) : Int32).toInt = (I 97 23).toInt := e32
  refine ⟨vp_of (a := (v3.toInt + 1)) e1 (by omega) (by omega), ?_⟩
  have z34 := i32 (xs (Int32.toNatClampNeg (v3 + 1)))
  refine ⟨⟨hF0, rfl⟩, ?_⟩
  refine kp7 rfl hR0 rfl (kpA rfl (kpnm rfl hR0 rfl (kx (mx_live9 hR0 hB0 hW9 w20) (kp6 rfl hR0 rfl (kp4 rfl (kp5 rfl hR0 rfl (kp0 rfl (kp1 rfl (kp2 rfl (kp3 rfl (sp_X12_live hB6 hR0 (fun x35 y40 I36 J37 hB38 p39 kq44 kq43 kq42 kq41 k46 k45 k47 w51 w50 w49 w48 => ?_))))))))))))
  have f52 : Fr pK I4 I36 := p39
  have i53 := i32 x35
  have e54 : ((I36 3 1) : Int32).toInt = (I 3 1).toInt := Eq.trans (congrArg Int32.toInt (Eq.trans kq41 kq9)) rfl
  have kz55 : ((I36 3 1) : Int32).toInt = (I 3 1).toInt := e54
  have e56 : ((I36 97 8) : Int32).toInt = (I 97 8).toInt := Eq.trans (congrArg Int32.toInt (Eq.trans kq42 kq10)) rfl
  have kz57 : ((I36 97 8) : Int32).toInt = (I 97 8).toInt := e56
  have e58 : ((I36 1 13) : Int32).toInt = (I 1 13).toInt := Eq.trans (congrArg Int32.toInt (Eq.trans kq43 kq11)) rfl
  have kz59 : ((I36 1 13) : Int32).toInt = (I 1 13).toInt := e58
  have e60 : ((I36 97 23) : Int32).toInt = (I 97 23).toInt := Eq.trans (congrArg Int32.toInt (Eq.trans kq44 kq12)) rfl
  have kz61 : ((I36 97 23) : Int32).toInt = (I 97 23).toInt := e60
  have hg62 : (x35 : Int32).toInt = (x3 : Int32).toInt := congrArg Int32.toInt (w51.1)
  exact hN _ _ R hB38 hR0 hF0 ⟨(Eq.trans (e54) (Eq.trans hL0 (Eq.symm (e56)))), (Eq.trans (e58) (Eq.trans hL1 (Eq.symm (e60)))), (RT.kp (RT.kp hL2 k13 k14) k45 k46), trivial⟩ (R3.kp (R3.kp hR3 w16 (by have ya : ((I4 3 1) : Int32).toInt = (I 3 1).toInt := e23; have yb : ((I 3 1) : Int32).toInt = (I 3 1).toInt := rfl; first | exact Int.le_of_eq (ya.trans yb) | exact ya.trans yb | omega)) w48 (by have ya : ((I36 3 1) : Int32).toInt = (I 3 1).toInt := e54; have yb : ((I4 3 1) : Int32).toInt = (I 3 1).toInt := e23; first | exact Int.le_of_eq (ya.trans yb) | exact ya.trans yb | omega)) (RM.kp hR0 (RM.kp hR0 hRM ⟨w17, w18, (fun j _ => congrFun w19.1 j)⟩) ⟨w49, w50, (fun j hj => f52.1 j hj)⟩) trivial (w51.2.1)
set_option maxRecDepth 100000 in
set_option maxHeartbeats 2000000 in
theorem lc_45 {Q : Nat → Qt} {P : Kt} {L : Nat} {xs : Nat → Int32} (hc : Cl (AM 640) false true L xs 2 112 kL_law Q P) (hL : L ≤ 3584) {v3 : Int32} {I : Im} {J : Jm} {R : Rm} (hB0 : Bd I) (hR0 : RI R) (hF0 : Fl R) (hL0 : (I 3 1).toInt = (I 97 8).toInt) (hL1 : (I 1 13).toInt = (I 97 23).toInt) (hL2 : RT I) (hL3 : True) (hR3 : R3 I J) (hRM : RM I J R) (hFQ : True) (hW9 : W9 I R) (h0 : 0 ≤ v3.toInt) (h7 : v3.toInt + 7 ≤ (L : Int)) (hN : ∀ (I : Im) (J : Jm) (R : Rm), Bd I → RI R → Fl R → RLz I → R3 I J → RM I J R → True → W9 I R → P 1889 112 [(0, .ref 0), (1, .ref 1), (2, .ref 97), (3, .int v3)] [] I J R) : P 1807 112 [(0, .ref 0), (1, .ref 1), (2, .ref 97), (3, .int v3)] [] I J R := by
  have i_v3 := i32 v3
  have e97 : I 97 8 = nI (fl I) := (Int32.toInt_inj.mp hL0).symm.trans (fl_bd hB0).1
  have b31 := Bd.o hB0 io9_112_3_6 bd9_6_1
  refine ls_1807 hc v3 _ _ _ ?_
  have e1 : ((v3 + 1) : Int32).toInt = (v3.toInt) + (1) := ti_add rfl rfl (by omega)
  refine ⟨vp_of (a := (v3.toInt + 1)) e1 (by omega) (by omega), ?_⟩
  have z2 := i32 (xs (Int32.toNatClampNeg (v3 + 1)))
  refine ⟨⟨hF0, rfl⟩, ?_⟩
  refine kp7 rfl hR0 rfl (kpA rfl (kpnm rfl hR0 rfl (kp102 rfl hR0 rfl (kpW9 rfl hR0 rfl (kp6 rfl hR0 rfl (kp4 rfl (kp5 rfl hR0 rfl (kp0 rfl (kp1 rfl (kp2 rfl (kp3 rfl (sp_X11_lived hB0 hR0 (fun x3 y8 I4 J5 hB6 p7 kq12 kq11 kq10 kq9 k14 k13 k15 w20 w19 w18 w17 w16 => ?_)))))))))))))
  have i21 := i32 x3
  have b22 := Bd.o hB0 io9_112_3_6 bd9_6_1
  have e23 : ((I4 3 1) : Int32).toInt = (I 3 1).toInt := Eq.trans (congrArg Int32.toInt kq9) rfl
  have kz24 : ((I4 3 1) : Int32).toInt = (I 3 1).toInt := e23
  have b25 := Bd.o hB0 io9_112_97_12 bd9_12_8
  have e26 : ((I4 97 8) : Int32).toInt = (I 97 8).toInt := Eq.trans (congrArg Int32.toInt kq10) rfl
  have kz27 : ((I4 97 8) : Int32).toInt = (I 97 8).toInt := e26
  have b28 := Bd.o hB0 io9_112_1_11 bd9_11_13
  have e29 : ((I4 1 13) : Int32).toInt = (I 1 13).toInt := Eq.trans (congrArg Int32.toInt kq11) rfl
  have kz30 : ((I4 1 13) : Int32).toInt = (I 1 13).toInt := e29
  have b31 := Bd.o hB0 io9_112_97_12 bd9_12_23
  have e32 : ((I4 97 23) : Int32).toInt = (I 97 23).toInt := Eq.trans (congrArg Int32.toInt kq12) rfl
  have kz33 : ((I4 97 23) : Int32).toInt = (I 97 23).toInt := e32
  refine ⟨vp_of (a := (v3.toInt + 1)) e1 (by omega) (by omega), ?_⟩
  have z34 := i32 (xs (Int32.toNatClampNeg (v3 + 1)))
  refine ⟨⟨hF0, rfl⟩, ?_⟩
  refine kp7 rfl hR0 rfl (kpA rfl (kpnm rfl hR0 rfl (kp102 rfl hR0 rfl (kpW9 rfl hR0 rfl (kp6 rfl hR0 rfl (kp4 rfl (kp5 rfl hR0 rfl (kp0 rfl (kp1 rfl (kp2 rfl (kp3 rfl (sp_X12_lived hB6 hR0 (fun x35 y40 I36 J37 hB38 p39 kq44 kq43 kq42 kq41 k46 k45 k47 w52 w51 w50 w49 w48 => ?_)))))))))))))
  have i53 := i32 x35
  have e54 : ((I36 3 1) : Int32).toInt = (I 3 1).toInt := Eq.trans (congrArg Int32.toInt (Eq.trans kq41 kq9)) rfl
  have kz55 : ((I36 3 1) : Int32).toInt = (I 3 1).toInt := e54
  have e56 : ((I36 97 8) : Int32).toInt = (I 97 8).toInt := Eq.trans (congrArg Int32.toInt (Eq.trans kq42 kq10)) rfl
  have kz57 : ((I36 97 8) : Int32).toInt = (I 97 8).toInt := e56
  have e58 : ((I36 1 13) : Int32).toInt = (I 1 13).toInt := Eq.trans (congrArg Int32.toInt (Eq.trans kq43 kq11)) rfl
  have kz59 : ((I36 1 13) : Int32).toInt = (I 1 13).toInt := e58
  have e60 : ((I36 97 23) : Int32).toInt = (I 97 23).toInt := Eq.trans (congrArg Int32.toInt (Eq.trans kq44 kq12)) rfl
  have kz61 : ((I36 97 23) : Int32).toInt = (I 97 23).toInt := e60
  exact hN _ _ R hB38 hR0 hF0 ⟨(Eq.trans (e54) (Eq.trans hL0 (Eq.symm (e56)))), (Eq.trans (e58) (Eq.trans hL1 (Eq.symm (e60)))), (RT.kp (RT.kp hL2 k13 k14) k45 k46), trivial⟩ (R3.kp (R3.kp hR3 w16 (by have ya : ((I4 3 1) : Int32).toInt = (I 3 1).toInt := e23; have yb : ((I 3 1) : Int32).toInt = (I 3 1).toInt := rfl; first | exact Int.le_of_eq (ya.trans yb) | exact ya.trans yb | omega)) w48 (by have ya : ((I36 3 1) : Int32).toInt = (I 3 1).toInt := e54; have yb : ((I4 3 1) : Int32).toInt = (I 3 1).toInt := e23; first | exact Int.le_of_eq (ya.trans yb) | exact ya.trans yb | omega)) (RM.kp hR0 (RM.kp hR0 hRM ⟨w17, w18, (fun j _ => congrFun w19.1 j)⟩) ⟨w49, w50, (fun j _ => congrFun w51.1 j)⟩) trivial (W9.kp hR0 (W9.kp hR0 hW9 w20 w19.1 w17.2) w52 w51.1 w49.2)
set_option maxRecDepth 100000 in
set_option maxHeartbeats 2000000 in
theorem lc_46 {Q : Nat → Qt} {P : Kt} {L : Nat} {xs : Nat → Int32} (hc : Cl (AM 640) false true L xs 2 112 kL_law Q P) (hL : L ≤ 3584) {v3 : Int32} {I : Im} {J : Jm} {R : Rm} (hB0 : Bd I) (hR0 : RI R) (hF0 : Fl R) (hL0 : (I 3 1).toInt = (I 97 8).toInt) (hL1 : (I 1 13).toInt = (I 97 23).toInt) (hL2 : RT I) (hL3 : True) (hR3 : R3 I J) (hRM : RM I J R) (hFQ : True) (hW9 : W9 I R) (h0 : 0 ≤ v3.toInt) (h7 : v3.toInt + 7 ≤ (L : Int)) (hN : ∀ (I : Im) (J : Jm) (R : Rm), Bd I → RI R → Fl R → RLz I → R3 I J → RM I J R → True → W9 I R → P 1889 112 [(0, .ref 0), (1, .ref 1), (2, .ref 97), (3, .int v3)] [] I J R) : P 1830 112 [(0, .ref 0), (1, .ref 1), (2, .ref 97), (3, .int v3)] [] I J R := by
  have i_v3 := i32 v3
  have e97 : I 97 8 = nI (fl I) := (Int32.toInt_inj.mp hL0).symm.trans (fl_bd hB0).1
  have b31 := Bd.o hB0 io9_112_3_6 bd9_6_1
  refine ls_1830 hc v3 _ _ _ ?_
  have e1 : ((v3 + 1) : Int32).toInt = (v3.toInt) + (1) := ti_add rfl rfl (by omega)
  refine ⟨vp_of (a := (v3.toInt + 1)) e1 (by omega) (by omega), ?_⟩
  have z2 := i32 (xs (Int32.toNatClampNeg (v3 + 1)))
  have e3 : ((v3 + 2) : Int32).toInt = (v3.toInt) + (2) := ti_add rfl rfl (by omega)
  refine ⟨vp_of (a := (v3.toInt + 2)) e3 (by omega) (by omega), ?_⟩
  have z4 := i32 (xs (Int32.toNatClampNeg (v3 + 2)))
  refine ⟨⟨hF0, rfl⟩, ?_⟩
  refine kp7 rfl hR0 rfl (kx (cx_mean hB0 hR0) (kx (cx_mean9 hB0 hR0 hRM.1.1 hW9) (kp6 rfl hR0 rfl (kp4 rfl (kp5 rfl hR0 rfl (kp0 rfl (kp1 rfl (kp2 rfl (kp3 rfl (sp_X11_mean hB0 hR0 (fun x5 y10 I6 J7 hB8 p9 kq14 kq13 kq12 kq11 k16 k15 k17 w20 w19 w18 => ?_)))))))))))
  intro o21
  have i22 := i32 x5
  have b23 := Bd.o hB0 io9_112_3_6 bd9_6_1
  have e24 : ((I6 3 1) : Int32).toInt = (I 3 1).toInt := Eq.trans (congrArg Int32.toInt kq11) rfl
  have kz25 : ((I6 3 1) : Int32).toInt = (I 3 1).toInt := e24
  have b26 := Bd.o hB0 io9_112_97_12 bd9_12_8
  have e27 : ((I6 97 8) : Int32).toInt = (I 97 8).toInt := Eq.trans (congrArg Int32.toInt kq12) rfl
  have kz28 : ((I6 97 8) : Int32).toInt = (I 97 8).toInt := e27
  have b29 := Bd.o hB0 io9_112_1_11 bd9_11_13
  have e30 : ((I6 1 13) : Int32).toInt = (I 1 13).toInt := Eq.trans (congrArg Int32.toInt kq13) rfl
  have kz31 : ((I6 1 13) : Int32).toInt = (I 1 13).toInt := e30
  have b32 := Bd.o hB0 io9_112_97_12 bd9_12_23
  have e33 : ((I6 97 23) : Int32).toInt = (I 97 23).toInt := Eq.trans (congrArg Int32.toInt kq14) rfl
  have kz34 : ((I6 97 23) : Int32).toInt = (I 97 23).toInt := e33
  refine ⟨vp_of (a := (v3.toInt + 1)) e1 (by omega) (by omega), ?_⟩
  have z35 := i32 (xs (Int32.toNatClampNeg (v3 + 1)))
  refine ⟨vp_of (a := (v3.toInt + 2)) e3 (by omega) (by omega), ?_⟩
  have z36 := i32 (xs (Int32.toNatClampNeg (v3 + 2)))
  refine ⟨⟨hF0, rfl⟩, ?_⟩
  refine kp7 rfl hR0 rfl (kpA rfl (kpnm rfl hR0 rfl (kpW9 rfl hR0 rfl (kx (mx_mean9 hB0 hR0 hW9 w20) (kp6 rfl hR0 rfl (kp4 rfl (kp5 rfl hR0 rfl (kp0 rfl (kp1 rfl (kp2 rfl (kp3 rfl (sp_X12_mean hB8 hR0 (fun x37 y42 I38 J39 hB40 p41 kq46 kq45 kq44 kq43 k48 k47 k49 w54 w53 w52 w51 w50 => ?_)))))))))))))
  intro o55
  have i56 := i32 x37
  have e57 : ((I38 3 1) : Int32).toInt = (I 3 1).toInt := Eq.trans (congrArg Int32.toInt (Eq.trans kq43 kq11)) rfl
  have kz58 : ((I38 3 1) : Int32).toInt = (I 3 1).toInt := e57
  have e59 : ((I38 97 8) : Int32).toInt = (I 97 8).toInt := Eq.trans (congrArg Int32.toInt (Eq.trans kq44 kq12)) rfl
  have kz60 : ((I38 97 8) : Int32).toInt = (I 97 8).toInt := e59
  have e61 : ((I38 1 13) : Int32).toInt = (I 1 13).toInt := Eq.trans (congrArg Int32.toInt (Eq.trans kq45 kq13)) rfl
  have kz62 : ((I38 1 13) : Int32).toInt = (I 1 13).toInt := e61
  have e63 : ((I38 97 23) : Int32).toInt = (I 97 23).toInt := Eq.trans (congrArg Int32.toInt (Eq.trans kq46 kq14)) rfl
  have kz64 : ((I38 97 23) : Int32).toInt = (I 97 23).toInt := e63
  have hg65 : (x37 : Int32).toInt = (x5 : Int32).toInt := congrArg Int32.toInt (w54.1)
  exact hN _ _ R hB40 hR0 hF0 ⟨(Eq.trans (e57) (Eq.trans hL0 (Eq.symm (e59)))), (Eq.trans (e61) (Eq.trans hL1 (Eq.symm (e63)))), (RT.kp (RT.kp hL2 k15 k16) k47 k48), trivial⟩ (R3.kp (R3.kp hR3 w18 (by have ya : ((I6 3 1) : Int32).toInt = (I 3 1).toInt := e24; have yb : ((I 3 1) : Int32).toInt = (I 3 1).toInt := rfl; first | exact Int.le_of_eq (ya.trans yb) | exact ya.trans yb | omega)) w50 (by have ya : ((I38 3 1) : Int32).toInt = (I 3 1).toInt := e57; have yb : ((I6 3 1) : Int32).toInt = (I 3 1).toInt := e24; first | exact Int.le_of_eq (ya.trans yb) | exact ya.trans yb | omega)) (RM.mean hR0 hRM w19 ⟨w51, w52, (FK.kc p41)⟩) trivial (W9.kp hR0 (W9.kS hR0 hW9 w20.2.1 w20.2.2.1 w20.2.2.2.1) w53 (w54.2.trans w20.2.2.1.symm) w51.2)
set_option maxRecDepth 100000 in
set_option maxHeartbeats 2000000 in
theorem lc_47 {Q : Nat → Qt} {P : Kt} {L : Nat} {xs : Nat → Int32} (hc : Cl (AM 640) false true L xs 2 112 kL_law Q P) (hL : L ≤ 3584) {v3 : Int32} {I : Im} {J : Jm} {R : Rm} (hB0 : Bd I) (hR0 : RI R) (hF0 : Fl R) (hL0 : (I 3 1).toInt = (I 97 8).toInt) (hL1 : (I 1 13).toInt = (I 97 23).toInt) (hL2 : RT I) (hL3 : True) (hR3 : R3 I J) (hRM : RM I J R) (hFQ : True) (hW9 : W9 I R) (h0 : 0 ≤ v3.toInt) (h7 : v3.toInt + 7 ≤ (L : Int)) (hN : ∀ (I : Im) (J : Jm) (R : Rm), Bd I → RI R → Fl R → RLz I → R3 I J → RM I J R → True → W9 I R → P 1889 112 [(0, .ref 0), (1, .ref 1), (2, .ref 97), (3, .int v3)] [] I J R) : P 1863 112 [(0, .ref 0), (1, .ref 1), (2, .ref 97), (3, .int v3)] [] I J R := by
  have i_v3 := i32 v3
  have e97 : I 97 8 = nI (fl I) := (Int32.toInt_inj.mp hL0).symm.trans (fl_bd hB0).1
  have b31 := Bd.o hB0 io9_112_3_6 bd9_6_1
  refine ls_1863 hc v3 _ _ _ ?_
  refine ⟨⟨hF0, rfl⟩, ?_⟩
  refine kp7 rfl hR0 rfl (kx (cx_mark hB0 hR0) (kx (cx_mark9 hB0 hR0) (kp6 rfl hR0 rfl (kp4 rfl (kp5 rfl hR0 rfl (kp0 rfl (kp1 rfl (kp3 rfl (sp_X11_mark hB0 hR0 (fun x1 y6 I2 J3 hB4 p5 kq9 kq8 kq7 k11 k10 k12 w15 w14 w13 => ?_))))))))))
  have b16 := Bd.o hB0 io9_112_1_11 bd9_11_13
  have b17 := Bd.o hB4 io9_112_1_11 bd9_11_13
  have i18 := i32 x1
  have b19 := Bd.o hB0 io9_112_3_6 bd9_6_1
  have e20 : ((I2 3 1) : Int32).toInt = (I 3 1).toInt := Eq.trans (congrArg Int32.toInt kq7) rfl
  have kz21 : ((I2 3 1) : Int32).toInt = (I 3 1).toInt := e20
  have b22 := Bd.o hB0 io9_112_97_12 bd9_12_8
  have e23 : ((I2 97 8) : Int32).toInt = (I 97 8).toInt := Eq.trans (congrArg Int32.toInt kq8) rfl
  have kz24 : ((I2 97 8) : Int32).toInt = (I 97 8).toInt := e23
  have b25 := Bd.o hB0 io9_112_97_12 bd9_12_23
  have e26 : ((I2 97 23) : Int32).toInt = (I 97 23).toInt := Eq.trans (congrArg Int32.toInt kq9) rfl
  have kz27 : ((I2 97 23) : Int32).toInt = (I 97 23).toInt := e26
  refine ⟨⟨hF0, rfl⟩, ?_⟩
  refine kp7 rfl hR0 rfl (kx (mx_mark hB4) (kx (mx_mark9 hB4) (kp6 rfl hR0 rfl (kp4 rfl (kp5 rfl hR0 rfl (kp0 rfl (kp1 rfl (kp2 rfl (sp_X12_mark hB4 hR0 (fun x28 y33 I29 J30 hB31 p32 kq36 kq35 kq34 k38 k37 k39 w42 w41 w40 => ?_))))))))))
  have b43 := Bd.o hB31 io9_112_97_12 bd9_12_23
  have i44 := i32 x28
  have e45 : ((I29 3 1) : Int32).toInt = (I 3 1).toInt := Eq.trans (congrArg Int32.toInt (Eq.trans kq34 kq7)) rfl
  have kz46 : ((I29 3 1) : Int32).toInt = (I 3 1).toInt := e45
  have e47 : ((I29 97 8) : Int32).toInt = (I 97 8).toInt := Eq.trans (congrArg Int32.toInt (Eq.trans kq35 kq8)) rfl
  have kz48 : ((I29 97 8) : Int32).toInt = (I 97 8).toInt := e47
  have e49 : ((I29 1 13) : Int32).toInt = (I2 1 13).toInt := Eq.trans (congrArg Int32.toInt kq36) rfl
  have kz50 : ((I29 1 13) : Int32).toInt = (I2 1 13).toInt := e49
  have hr51 := RM.mark hB0 hR0 hL1 hRM w14 w41
  exact hN _ _ R hB31 hR0 hF0 ⟨(Eq.trans (e45) (Eq.trans hL0 (Eq.symm (e47)))), (by have ya : ((I29 1 13) : Int32).toInt = (I2 1 13).toInt := e49; have yb : ((I29 97 23) : Int32).toInt = (I29 97 23).toInt := rfl; first | exact Int.le_of_eq (ya.trans yb) | exact ya.trans yb | omega), (RT.kp (RT.kp hL2 k10 k11) k37 k38), trivial⟩ (R3.kp (R3.kp hR3 w13 (by have ya : ((I2 3 1) : Int32).toInt = (I 3 1).toInt := e20; have yb : ((I 3 1) : Int32).toInt = (I 3 1).toInt := rfl; first | exact Int.le_of_eq (ya.trans yb) | exact ya.trans yb | omega)) w40 (by have ya : ((I29 3 1) : Int32).toInt = (I 3 1).toInt := e45; have yb : ((I2 3 1) : Int32).toInt = (I 3 1).toInt := e20; first | exact Int.le_of_eq (ya.trans yb) | exact ya.trans yb | omega)) hr51 trivial (W9.mark hB0 hR0 hL1 hW9 w15 w42)
set_option maxRecDepth 100000 in
set_option maxHeartbeats 2000000 in
theorem lc_48 {Q : Nat → Qt} {P : Kt} {L : Nat} {xs : Nat → Int32} (hc : Cl (AM 640) false true L xs 2 112 kL_law Q P) (hL : L ≤ 3584) {v3 : Int32} {I : Im} {J : Jm} {R : Rm} (hB0 : Bd I) (hR0 : RI R) (hF0 : Fl R) (hL0 : (I 3 1).toInt = (I 97 8).toInt) (hL1 : (I 1 13).toInt = (I 97 23).toInt) (hL2 : RT I) (hL3 : True) (hR3 : R3 I J) (hRM : RM I J R) (hFQ : True) (hW9 : W9 I R) (h0 : 0 ≤ v3.toInt) (h7 : v3.toInt + 7 ≤ (L : Int)) (hN : ∀ (I : Im) (J : Jm) (R : Rm), Bd I → RI R → Fl R → RLz I → R3 I J → RM I J R → True → W9 I R → P 1889 112 [(0, .ref 0), (1, .ref 1), (2, .ref 97), (3, .int v3)] [] I J R) : P 1876 112 [(0, .ref 0), (1, .ref 1), (2, .ref 97), (3, .int v3)] [] I J R := by
  have i_v3 := i32 v3
  have e97 : I 97 8 = nI (fl I) := (Int32.toInt_inj.mp hL0).symm.trans (fl_bd hB0).1
  have b31 := Bd.o hB0 io9_112_3_6 bd9_6_1
  refine ls_1876 hc v3 _ _ _ ?_
  refine ⟨⟨hF0, rfl⟩, ?_⟩
  refine kp7 rfl hR0 rfl (kx (cx_back hB0 hR0) (kx (cx_back9 hB0 hR0) (kp6 rfl hR0 rfl (kp4 rfl (kp5 rfl hR0 rfl (kp0 rfl (kp1 rfl (kp3 rfl (sp_X11_back hB0 hR0 (fun x1 y6 I2 J3 hB4 p5 kq9 kq8 kq7 k11 k10 k12 w15 w14 w13 => ?_))))))))))
  have b16 := Bd.o hB0 io9_112_1_11 bd9_11_13
  have b17 := Bd.o hB4 io9_112_1_11 bd9_11_13
  have i18 := i32 x1
  have b19 := Bd.o hB0 io9_112_3_6 bd9_6_1
  have e20 : ((I2 3 1) : Int32).toInt = (I 3 1).toInt := Eq.trans (congrArg Int32.toInt kq7) rfl
  have kz21 : ((I2 3 1) : Int32).toInt = (I 3 1).toInt := e20
  have b22 := Bd.o hB0 io9_112_97_12 bd9_12_8
  have e23 : ((I2 97 8) : Int32).toInt = (I 97 8).toInt := Eq.trans (congrArg Int32.toInt kq8) rfl
  have kz24 : ((I2 97 8) : Int32).toInt = (I 97 8).toInt := e23
  have b25 := Bd.o hB0 io9_112_97_12 bd9_12_23
  have e26 : ((I2 97 23) : Int32).toInt = (I 97 23).toInt := Eq.trans (congrArg Int32.toInt kq9) rfl
  have kz27 : ((I2 97 23) : Int32).toInt = (I 97 23).toInt := e26
  refine ⟨⟨hF0, rfl⟩, ?_⟩
  refine kp7 rfl hR0 rfl (kx (mx_back hB4) (kx (mx_back9 hB4) (kp6 rfl hR0 rfl (kp4 rfl (kp5 rfl hR0 rfl (kp0 rfl (kp1 rfl (kp2 rfl (sp_X12_back hB4 hR0 (fun x28 y33 I29 J30 hB31 p32 kq36 kq35 kq34 k38 k37 k39 w42 w41 w40 => ?_))))))))))
  have b43 := Bd.o hB31 io9_112_97_12 bd9_12_23
  have i44 := i32 x28
  have e45 : ((I29 3 1) : Int32).toInt = (I 3 1).toInt := Eq.trans (congrArg Int32.toInt (Eq.trans kq34 kq7)) rfl
  have kz46 : ((I29 3 1) : Int32).toInt = (I 3 1).toInt := e45
  have e47 : ((I29 97 8) : Int32).toInt = (I 97 8).toInt := Eq.trans (congrArg Int32.toInt (Eq.trans kq35 kq8)) rfl
  have kz48 : ((I29 97 8) : Int32).toInt = (I 97 8).toInt := e47
  have e49 : ((I29 1 13) : Int32).toInt = (I2 1 13).toInt := Eq.trans (congrArg Int32.toInt kq36) rfl
  have kz50 : ((I29 1 13) : Int32).toInt = (I2 1 13).toInt := e49
  have hr51 := RM.back hB0 hR0 hL1 hRM w14 w41
  exact hN _ _ R hB31 hR0 hF0 ⟨(Eq.trans (e45) (Eq.trans hL0 (Eq.symm (e47)))), (by have ya : ((I29 1 13) : Int32).toInt = (I2 1 13).toInt := e49; have yb : ((I29 97 23) : Int32).toInt = (I29 97 23).toInt := rfl; first | exact Int.le_of_eq (ya.trans yb) | exact ya.trans yb | omega), (RT.kp (RT.kp hL2 k10 k11) k37 k38), trivial⟩ (R3.kp (R3.kp hR3 w13 (by have ya : ((I2 3 1) : Int32).toInt = (I 3 1).toInt := e20; have yb : ((I 3 1) : Int32).toInt = (I 3 1).toInt := rfl; first | exact Int.le_of_eq (ya.trans yb) | exact ya.trans yb | omega)) w40 (by have ya : ((I29 3 1) : Int32).toInt = (I 3 1).toInt := e45; have yb : ((I2 3 1) : Int32).toInt = (I 3 1).toInt := e20; first | exact Int.le_of_eq (ya.trans yb) | exact ya.trans yb | omega)) hr51 trivial (W9.back hB0 hR0 hL1 hW9 w15 w42)
