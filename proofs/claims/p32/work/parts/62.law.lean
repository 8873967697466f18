/-- what both sides have alike, without the sums of a plate -/
noncomputable def RLz (I : Im) : Prop := (I 3 1).toInt = (I 97 8).toInt ∧ (I 1 13).toInt = (I 97 23).toInt ∧ RT I ∧ True
set_option maxRecDepth 100000 in
set_option maxHeartbeats 2000000 in
theorem lc_0 {Q : Nat → Qt} {P : Kt} {L : Nat} {xs : Nat → Int32} (hc : Cl (AM 640) false true L xs 2 112 kL_law Q P) (hL : L ≤ 3584) {v3 : Int32} {I : Im} {J : Jm} {R : Rm} (hB0 : Bd I) (hR0 : RI R) (hF0 : Fl R) (hL0 : (I 3 1).toInt = (I 97 8).toInt) (hL1 : (I 1 13).toInt = (I 97 23).toInt) (hL2 : RT I) (hL3 : True) (hR3 : R3 I J) (hRM : RM I J R) (hFQ : True) (h0 : 0 ≤ v3.toInt) (h7 : v3.toInt + 7 ≤ (L : Int)) (hN : ∀ (I : Im) (J : Jm) (R : Rm), Bd I → RI R → Fl R → RLz I → R3 I J → RM I J R → True → P 1889 112 [(0, .ref 0), (1, .ref 1), (2, .ref 97), (3, .int v3)] [] I J R) : P 244 112 [(0, .ref 0), (1, .ref 1), (2, .ref 97), (3, .int v3)] [] I J R := by
  have i_v3 := i32 v3
  have e97 : I 97 8 = nI (fl I) := (Int32.toInt_inj.mp hL0).symm.trans (fl_bd hB0).1
  have b31 := Bd.o hB0 io9_112_3_6 bd9_6_1
  refine ls_244 hc v3 _ _ _ ?_
  refine ⟨⟨hF0, rfl⟩, ?_⟩
  refine kp7 rfl hR0 rfl (kpA rfl (kpnm rfl hR0 rfl (kp102 rfl hR0 rfl (kp6 rfl hR0 rfl (kp4 rfl (kp5 rfl hR0 rfl (kp0 rfl (kp1 rfl (kp2 rfl (kp3 rfl (sp_X11_status hB0 hR0 (fun x1 y6 I2 J3 hB4 p5 kq10 kq9 kq8 kq7 k12 k11 k13 w17 w16 w15 w14 => ?_))))))))))))
  have i18 := i32 x1
  have b19 := Bd.o hB0 io9_112_3_6 bd9_6_1
  have e20 : ((I2 3 1) : Int32).toInt = (I 3 1).toInt := Eq.trans (congrArg Int32.toInt kq7) rfl
  have kz21 : ((I2 3 1) : Int32).toInt = (I 3 1).toInt := e20
  have b22 := Bd.o hB0 io9_112_97_12 bd9_12_8
  have e23 : ((I2 97 8) : Int32).toInt = (I 97 8).toInt := Eq.trans (congrArg Int32.toInt kq8) rfl
  have kz24 : ((I2 97 8) : Int32).toInt = (I 97 8).toInt := e23
  have b25 := Bd.o hB0 io9_112_1_11 bd9_11_13
  have e26 : ((I2 1 13) : Int32).toInt = (I 1 13).toInt := Eq.trans (congrArg Int32.toInt kq9) rfl
  have kz27 : ((I2 1 13) : Int32).toInt = (I 1 13).toInt := e26
  have b28 := Bd.o hB0 io9_112_97_12 bd9_12_23
  have e29 : ((I2 97 23) : Int32).toInt = (I 97 23).toInt := Eq.trans (congrArg Int32.toInt kq10) rfl
  have kz30 : ((I2 97 23) : Int32).toInt = (I 97 23).toInt := e29
  refine ⟨⟨hF0, rfl⟩, ?_⟩
  refine kp7 rfl hR0 rfl (kpA rfl (kpnm rfl hR0 rfl (kp102 rfl hR0 rfl (kp6 rfl hR0 rfl (kp4 rfl (kp5 rfl hR0 rfl (kp0 rfl (kp1 rfl (kp2 rfl (kp3 rfl (sp_X12_status hB4 hR0 (fun x31 y36 I32 J33 hB34 p35 kq40 kq39 kq38 kq37 k42 k41 k43 w47 w46 w45 w44 => ?_))))))))))))
  have i48 := i32 x31
  have e49 : ((I32 3 1) : Int32).toInt = (I 3 1).toInt := Eq.trans (congrArg Int32.toInt (Eq.trans kq37 kq7)) rfl
  have kz50 : ((I32 3 1) : Int32).toInt = (I 3 1).toInt := e49
  have e51 : ((I32 97 8) : Int32).toInt = (I 97 8).toInt := Eq.trans (congrArg Int32.toInt (Eq.trans kq38 kq8)) rfl
  have kz52 : ((I32 97 8) : Int32).toInt = (I 97 8).toInt := e51
  have e53 : ((I32 1 13) : Int32).toInt = (I 1 13).toInt := Eq.trans (congrArg Int32.toInt (Eq.trans kq39 kq9)) rfl
  have kz54 : ((I32 1 13) : Int32).toInt = (I 1 13).toInt := e53
  have e55 : ((I32 97 23) : Int32).toInt = (I 97 23).toInt := Eq.trans (congrArg Int32.toInt (Eq.trans kq40 kq10)) rfl
  have kz56 : ((I32 97 23) : Int32).toInt = (I 97 23).toInt := e55
  exact hN _ _ R hB34 hR0 hF0 ⟨(Eq.trans (e49) (Eq.trans hL0 (Eq.symm (e51)))), (Eq.trans (e53) (Eq.trans hL1 (Eq.symm (e55)))), (RT.kp (RT.kp hL2 k11 k12) k41 k42), trivial⟩ (R3.kp (R3.kp hR3 w14 (by have ya : ((I2 3 1) : Int32).toInt = (I 3 1).toInt := e20; have yb : ((I 3 1) : Int32).toInt = (I 3 1).toInt := rfl; first | exact Int.le_of_eq (ya.trans yb) | exact ya.trans yb | omega)) w44 (by have ya : ((I32 3 1) : Int32).toInt = (I 3 1).toInt := e49; have yb : ((I2 3 1) : Int32).toInt = (I 3 1).toInt := e20; first | exact Int.le_of_eq (ya.trans yb) | exact ya.trans yb | omega)) (RM.kp hR0 (RM.kp hR0 hRM ⟨w15, w16, (fun j _ => congrFun w17.1 j)⟩) ⟨w45, w46, (fun j _ => congrFun w47.1 j)⟩) trivial
set_option maxRecDepth 100000 in
set_option maxHeartbeats 2000000 in
theorem lc_1 {Q : Nat → Qt} {P : Kt} {L : Nat} {xs : Nat → Int32} (hc : Cl (AM 640) false true L xs 2 112 kL_law Q P) (hL : L ≤ 3584) {v3 : Int32} {I : Im} {J : Jm} {R : Rm} (hB0 : Bd I) (hR0 : RI R) (hF0 : Fl R) (hL0 : (I 3 1).toInt = (I 97 8).toInt) (hL1 : (I 1 13).toInt = (I 97 23).toInt) (hL2 : RT I) (hL3 : True) (hR3 : R3 I J) (hRM : RM I J R) (hFQ : True) (h0 : 0 ≤ v3.toInt) (h7 : v3.toInt + 7 ≤ (L : Int)) (hN : ∀ (I : Im) (J : Jm) (R : Rm), Bd I → RI R → Fl R → RLz I → R3 I J → RM I J R → True → P 1889 112 [(0, .ref 0), (1, .ref 1), (2, .ref 97), (3, .int v3)] [] I J R) : P 257 112 [(0, .ref 0), (1, .ref 1), (2, .ref 97), (3, .int v3)] [] I J R := by
  have i_v3 := i32 v3
  have e97 : I 97 8 = nI (fl I) := (Int32.toInt_inj.mp hL0).symm.trans (fl_bd hB0).1
  have b31 := Bd.o hB0 io9_112_3_6 bd9_6_1
  refine ls_257 hc v3 _ _ _ ?_
  refine ⟨⟨hF0, rfl⟩, ?_⟩
  refine kp7 rfl hR0 rfl (kpA rfl (kpnm rfl hR0 rfl (kp102 rfl hR0 rfl (kp6 rfl hR0 rfl (kp4 rfl (kp5 rfl hR0 rfl (kp0 rfl (kp1 rfl (kp2 rfl (kp3 rfl (sp_X11_top hB0 hR0 (fun x1 y6 I2 J3 hB4 p5 kq10 kq9 kq8 kq7 k12 k11 k13 w17 w16 w15 w14 => ?_))))))))))))
  have b18 := Bd.o hB0 io9_112_3_6 bd9_6_1
  have e19 : ((I2 3 1) : Int32).toInt = (I 3 1).toInt := Eq.trans (congrArg Int32.toInt kq7) rfl
  have kz20 : ((I2 3 1) : Int32).toInt = (I 3 1).toInt := e19
  have b21 := Bd.o hB0 io9_112_97_12 bd9_12_8
  have e22 : ((I2 97 8) : Int32).toInt = (I 97 8).toInt := Eq.trans (congrArg Int32.toInt kq8) rfl
  have kz23 : ((I2 97 8) : Int32).toInt = (I 97 8).toInt := e22
  have b24 := Bd.o hB0 io9_112_1_11 bd9_11_13
  have e25 : ((I2 1 13) : Int32).toInt = (I 1 13).toInt := Eq.trans (congrArg Int32.toInt kq9) rfl
  have kz26 : ((I2 1 13) : Int32).toInt = (I 1 13).toInt := e25
  have b27 := Bd.o hB0 io9_112_97_12 bd9_12_23
  have e28 : ((I2 97 23) : Int32).toInt = (I 97 23).toInt := Eq.trans (congrArg Int32.toInt kq10) rfl
  have kz29 : ((I2 97 23) : Int32).toInt = (I 97 23).toInt := e28
  refine ⟨⟨hF0, rfl⟩, ?_⟩
  refine kp7 rfl hR0 rfl (kpA rfl (kpnm rfl hR0 rfl (kp102 rfl hR0 rfl (kp6 rfl hR0 rfl (kp4 rfl (kp5 rfl hR0 rfl (kp0 rfl (kp1 rfl (kp2 rfl (kp3 rfl (sp_X12_top hB4 hR0 (fun x30 y35 I31 J32 hB33 p34 kq39 kq38 kq37 kq36 k41 k40 k42 w46 w45 w44 w43 => ?_))))))))))))
  have e47 : ((I31 3 1) : Int32).toInt = (I 3 1).toInt := Eq.trans (congrArg Int32.toInt (Eq.trans kq36 kq7)) rfl
  have kz48 : ((I31 3 1) : Int32).toInt = (I 3 1).toInt := e47
  have e49 : ((I31 97 8) : Int32).toInt = (I 97 8).toInt := Eq.trans (congrArg Int32.toInt (Eq.trans kq37 kq8)) rfl
  have kz50 : ((I31 97 8) : Int32).toInt = (I 97 8).toInt := e49
  have e51 : ((I31 1 13) : Int32).toInt = (I 1 13).toInt := Eq.trans (congrArg Int32.toInt (Eq.trans kq38 kq9)) rfl
  have kz52 : ((I31 1 13) : Int32).toInt = (I 1 13).toInt := e51
  have e53 : ((I31 97 23) : Int32).toInt = (I 97 23).toInt := Eq.trans (congrArg Int32.toInt (Eq.trans kq39 kq10)) rfl
  have kz54 : ((I31 97 23) : Int32).toInt = (I 97 23).toInt := e53
  exact hN _ _ R hB33 hR0 hF0 ⟨(Eq.trans (e47) (Eq.trans hL0 (Eq.symm (e49)))), (Eq.trans (e51) (Eq.trans hL1 (Eq.symm (e53)))), (RT.kp (RT.kp hL2 k11 k12) k40 k41), trivial⟩ (R3.kp (R3.kp hR3 w14 (by have ya : ((I2 3 1) : Int32).toInt = (I 3 1).toInt := e19; have yb : ((I 3 1) : Int32).toInt = (I 3 1).toInt := rfl; first | exact Int.le_of_eq (ya.trans yb) | exact ya.trans yb | omega)) w43 (by have ya : ((I31 3 1) : Int32).toInt = (I 3 1).toInt := e47; have yb : ((I2 3 1) : Int32).toInt = (I 3 1).toInt := e19; first | exact Int.le_of_eq (ya.trans yb) | exact ya.trans yb | omega)) (RM.kp hR0 (RM.kp hR0 hRM ⟨w15, w16, (fun j _ => congrFun w17.1 j)⟩) ⟨w44, w45, (fun j _ => congrFun w46.1 j)⟩) trivial
set_option maxRecDepth 100000 in
set_option maxHeartbeats 2000000 in
theorem lc_2 {Q : Nat → Qt} {P : Kt} {L : Nat} {xs : Nat → Int32} (hc : Cl (AM 640) false true L xs 2 112 kL_law Q P) (hL : L ≤ 3584) {v3 : Int32} {I : Im} {J : Jm} {R : Rm} (hB0 : Bd I) (hR0 : RI R) (hF0 : Fl R) (hL0 : (I 3 1).toInt = (I 97 8).toInt) (hL1 : (I 1 13).toInt = (I 97 23).toInt) (hL2 : RT I) (hL3 : True) (hR3 : R3 I J) (hRM : RM I J R) (hFQ : True) (h0 : 0 ≤ v3.toInt) (h7 : v3.toInt + 7 ≤ (L : Int)) (hN : ∀ (I : Im) (J : Jm) (R : Rm), Bd I → RI R → Fl R → RLz I → R3 I J → RM I J R → True → P 1889 112 [(0, .ref 0), (1, .ref 1), (2, .ref 97), (3, .int v3)] [] I J R) : P 270 112 [(0, .ref 0), (1, .ref 1), (2, .ref 97), (3, .int v3)] [] I J R := by
  have i_v3 := i32 v3
  have e97 : I 97 8 = nI (fl I) := (Int32.toInt_inj.mp hL0).symm.trans (fl_bd hB0).1
  have b31 := Bd.o hB0 io9_112_3_6 bd9_6_1
  refine ls_270 hc v3 _ _ _ ?_
  refine ⟨⟨hF0, rfl⟩, ?_⟩
  refine kp7 rfl hR0 rfl (kpA rfl (kpnm rfl hR0 rfl (kp102 rfl hR0 rfl (kp6 rfl hR0 rfl (kp4 rfl (kp5 rfl hR0 rfl (kp0 rfl (kp1 rfl (kp2 rfl (kp3 rfl (sp_X11_bottom hB0 hR0 (fun x1 y6 I2 J3 hB4 p5 kq10 kq9 kq8 kq7 k12 k11 k13 w17 w16 w15 w14 => ?_))))))))))))
  have b18 := Bd.o hB0 io9_112_3_6 bd9_6_1
  have e19 : ((I2 3 1) : Int32).toInt = (I 3 1).toInt := Eq.trans (congrArg Int32.toInt kq7) rfl
  have kz20 : ((I2 3 1) : Int32).toInt = (I 3 1).toInt := e19
  have b21 := Bd.o hB0 io9_112_97_12 bd9_12_8
  have e22 : ((I2 97 8) : Int32).toInt = (I 97 8).toInt := Eq.trans (congrArg Int32.toInt kq8) rfl
  have kz23 : ((I2 97 8) : Int32).toInt = (I 97 8).toInt := e22
  have b24 := Bd.o hB0 io9_112_1_11 bd9_11_13
  have e25 : ((I2 1 13) : Int32).toInt = (I 1 13).toInt := Eq.trans (congrArg Int32.toInt kq9) rfl
  have kz26 : ((I2 1 13) : Int32).toInt = (I 1 13).toInt := e25
  have b27 := Bd.o hB0 io9_112_97_12 bd9_12_23
  have e28 : ((I2 97 23) : Int32).toInt = (I 97 23).toInt := Eq.trans (congrArg Int32.toInt kq10) rfl
  have kz29 : ((I2 97 23) : Int32).toInt = (I 97 23).toInt := e28
  refine ⟨⟨hF0, rfl⟩, ?_⟩
  refine kp7 rfl hR0 rfl (kpA rfl (kpnm rfl hR0 rfl (kp102 rfl hR0 rfl (kp6 rfl hR0 rfl (kp4 rfl (kp5 rfl hR0 rfl (kp0 rfl (kp1 rfl (kp2 rfl (kp3 rfl (sp_X12_bottom hB4 hR0 (fun x30 y35 I31 J32 hB33 p34 kq39 kq38 kq37 kq36 k41 k40 k42 w46 w45 w44 w43 => ?_))))))))))))
  have e47 : ((I31 3 1) : Int32).toInt = (I 3 1).toInt := Eq.trans (congrArg Int32.toInt (Eq.trans kq36 kq7)) rfl
  have kz48 : ((I31 3 1) : Int32).toInt = (I 3 1).toInt := e47
  have e49 : ((I31 97 8) : Int32).toInt = (I 97 8).toInt := Eq.trans (congrArg Int32.toInt (Eq.trans kq37 kq8)) rfl
  have kz50 : ((I31 97 8) : Int32).toInt = (I 97 8).toInt := e49
  have e51 : ((I31 1 13) : Int32).toInt = (I 1 13).toInt := Eq.trans (congrArg Int32.toInt (Eq.trans kq38 kq9)) rfl
  have kz52 : ((I31 1 13) : Int32).toInt = (I 1 13).toInt := e51
  have e53 : ((I31 97 23) : Int32).toInt = (I 97 23).toInt := Eq.trans (congrArg Int32.toInt (Eq.trans kq39 kq10)) rfl
  have kz54 : ((I31 97 23) : Int32).toInt = (I 97 23).toInt := e53
  exact hN _ _ R hB33 hR0 hF0 ⟨(Eq.trans (e47) (Eq.trans hL0 (Eq.symm (e49)))), (Eq.trans (e51) (Eq.trans hL1 (Eq.symm (e53)))), (RT.kp (RT.kp hL2 k11 k12) k40 k41), trivial⟩ (R3.kp (R3.kp hR3 w14 (by have ya : ((I2 3 1) : Int32).toInt = (I 3 1).toInt := e19; have yb : ((I 3 1) : Int32).toInt = (I 3 1).toInt := rfl; first | exact Int.le_of_eq (ya.trans yb) | exact ya.trans yb | omega)) w43 (by have ya : ((I31 3 1) : Int32).toInt = (I 3 1).toInt := e47; have yb : ((I2 3 1) : Int32).toInt = (I 3 1).toInt := e19; first | exact Int.le_of_eq (ya.trans yb) | exact ya.trans yb | omega)) (RM.kp hR0 (RM.kp hR0 hRM ⟨w15, w16, (fun j _ => congrFun w17.1 j)⟩) ⟨w44, w45, (fun j _ => congrFun w46.1 j)⟩) trivial
set_option maxRecDepth 100000 in
set_option maxHeartbeats 2000000 in
theorem lc_3 {Q : Nat → Qt} {P : Kt} {L : Nat} {xs : Nat → Int32} (hc : Cl (AM 640) false true L xs 2 112 kL_law Q P) (hL : L ≤ 3584) {v3 : Int32} {I : Im} {J : Jm} {R : Rm} (hB0 : Bd I) (hR0 : RI R) (hF0 : Fl R) (hL0 : (I 3 1).toInt = (I 97 8).toInt) (hL1 : (I 1 13).toInt = (I 97 23).toInt) (hL2 : RT I) (hL3 : True) (hR3 : R3 I J) (hRM : RM I J R) (hFQ : True) (h0 : 0 ≤ v3.toInt) (h7 : v3.toInt + 7 ≤ (L : Int)) (hN : ∀ (I : Im) (J : Jm) (R : Rm), Bd I → RI R → Fl R → RLz I → R3 I J → RM I J R → True → P 1889 112 [(0, .ref 0), (1, .ref 1), (2, .ref 97), (3, .int v3)] [] I J R) : P 283 112 [(0, .ref 0), (1, .ref 1), (2, .ref 97), (3, .int v3)] [] I J R := by
  have i_v3 := i32 v3
  have e97 : I 97 8 = nI (fl I) := (Int32.toInt_inj.mp hL0).symm.trans (fl_bd hB0).1
  have b31 := Bd.o hB0 io9_112_3_6 bd9_6_1
  refine ls_283 hc v3 _ _ _ ?_
  have e1 : ((v3 + 1) : Int32).toInt = (v3.toInt) + (1) := ti_add rfl rfl (by omega)
  refine ⟨vp_of (a := (v3.toInt + 1)) e1 (by omega) (by omega), ?_⟩
  have z2 := i32 (xs (Int32.toNatClampNeg (v3 + 1)))
  have e3 : ((v3 + 2) : Int32).toInt = (v3.toInt) + (2) := ti_add rfl rfl (by omega)
  refine ⟨vp_of (a := (v3.toInt + 2)) e3 (by omega) (by omega), ?_⟩
  have z4 := i32 (xs (Int32.toNatClampNeg (v3 + 2)))
  have e5 : ((v3 + 3) : Int32).toInt = (v3.toInt) + (3) := ti_add rfl rfl (by omega)
  refine ⟨vp_of (a := (v3.toInt + 3)) e5 (by omega) (by omega), ?_⟩
  have z6 := i32 (xs (Int32.toNatClampNeg (v3 + 3)))
  refine ⟨⟨hF0, rfl⟩, ?_⟩
  refine kp7 rfl hR0 rfl (kpA rfl (kpnm rfl hR0 rfl (kp102 rfl hR0 rfl (kp6 rfl hR0 rfl (kp5 rfl hR0 rfl (kp0 rfl (kp1 rfl (kp2 rfl (kp3 rfl (sp_X11_tray hB0 hR0 (fun x7 y12 I8 J9 hB10 p11 kq16 kq15 kq14 kq13 k17 k18 w22 w21 w20 w19 => ?_)))))))))))
  intro o23
  have i24 := i32 x7
  have b25 := Bd.o hB0 io9_112_3_6 bd9_6_1
  have e26 : ((I8 3 1) : Int32).toInt = (I 3 1).toInt := Eq.trans (congrArg Int32.toInt kq13) rfl
  have kz27 : ((I8 3 1) : Int32).toInt = (I 3 1).toInt := e26
  have b28 := Bd.o hB0 io9_112_97_12 bd9_12_8
  have e29 : ((I8 97 8) : Int32).toInt = (I 97 8).toInt := Eq.trans (congrArg Int32.toInt kq14) rfl
  have kz30 : ((I8 97 8) : Int32).toInt = (I 97 8).toInt := e29
  have b31 := Bd.o hB0 io9_112_1_11 bd9_11_13
  have e32 : ((I8 1 13) : Int32).toInt = (I 1 13).toInt := Eq.trans (congrArg Int32.toInt kq15) rfl
  have kz33 : ((I8 1 13) : Int32).toInt = (I 1 13).toInt := e32
  have b34 := Bd.o hB0 io9_112_97_12 bd9_12_23
  have e35 : ((I8 97 23) : Int32).toInt = (I 97 23).toInt := Eq.trans (congrArg Int32.toInt kq16) rfl
  have kz36 : ((I8 97 23) : Int32).toInt = (I 97 23).toInt := e35
  refine ⟨vp_of (a := (v3.toInt + 1)) e1 (by omega) (by omega), ?_⟩
  have z37 := i32 (xs (Int32.toNatClampNeg (v3 + 1)))
  refine ⟨vp_of (a := (v3.toInt + 2)) e3 (by omega) (by omega), ?_⟩
  have z38 := i32 (xs (Int32.toNatClampNeg (v3 + 2)))
  refine ⟨vp_of (a := (v3.toInt + 3)) e5 (by omega) (by omega), ?_⟩
  have z39 := i32 (xs (Int32.toNatClampNeg (v3 + 3)))
  refine ⟨⟨hF0, rfl⟩, ?_⟩
  refine kp7 rfl hR0 rfl (kpA rfl (kpnm rfl hR0 rfl (kp102 rfl hR0 rfl (kp6 rfl hR0 rfl (kp4 rfl (kp0 rfl (kp1 rfl (kp2 rfl (kp3 rfl (sp_X12_tray hB10 hR0 (fun x40 y45 I41 J42 hB43 p44 kq49 kq48 kq47 kq46 k50 k51 w55 w54 w53 w52 => ?_)))))))))))
  intro o56
  have i57 := i32 x40
  have e58 : ((I41 3 1) : Int32).toInt = (I 3 1).toInt := Eq.trans (congrArg Int32.toInt (Eq.trans kq46 kq13)) rfl
  have kz59 : ((I41 3 1) : Int32).toInt = (I 3 1).toInt := e58
  have e60 : ((I41 97 8) : Int32).toInt = (I 97 8).toInt := Eq.trans (congrArg Int32.toInt (Eq.trans kq47 kq14)) rfl
  have kz61 : ((I41 97 8) : Int32).toInt = (I 97 8).toInt := e60
  have e62 : ((I41 1 13) : Int32).toInt = (I 1 13).toInt := Eq.trans (congrArg Int32.toInt (Eq.trans kq48 kq15)) rfl
  have kz63 : ((I41 1 13) : Int32).toInt = (I 1 13).toInt := e62
  have e64 : ((I41 97 23) : Int32).toInt = (I 97 23).toInt := Eq.trans (congrArg Int32.toInt (Eq.trans kq49 kq16)) rfl
  have kz65 : ((I41 97 23) : Int32).toInt = (I 97 23).toInt := e64
  exact hN _ _ R hB43 hR0 hF0 ⟨(Eq.trans (e58) (Eq.trans hL0 (Eq.symm (e60)))), (Eq.trans (e62) (Eq.trans hL1 (Eq.symm (e64)))), (RT.tray hL2 hR0 p11.2 p44.2 (by have a := p11.1; have b := p44.1; omega) (fun z => by have a := p11.1; omega) k17 k50), trivial⟩ (R3.kp (R3.kp hR3 w19 (by have ya : ((I8 3 1) : Int32).toInt = (I 3 1).toInt := e26; have yb : ((I 3 1) : Int32).toInt = (I 3 1).toInt := rfl; first | exact Int.le_of_eq (ya.trans yb) | exact ya.trans yb | omega)) w52 (by have ya : ((I41 3 1) : Int32).toInt = (I 3 1).toInt := e58; have yb : ((I8 3 1) : Int32).toInt = (I 3 1).toInt := e26; first | exact Int.le_of_eq (ya.trans yb) | exact ya.trans yb | omega)) (RM.kp hR0 (RM.kp hR0 hRM ⟨w20, w21, (fun j _ => congrFun w22.1 j)⟩) ⟨w53, w54, (fun j _ => congrFun w55.1 j)⟩) trivial
set_option maxRecDepth 100000 in
set_option maxHeartbeats 2000000 in
theorem lc_4 {Q : Nat → Qt} {P : Kt} {L : Nat} {xs : Nat → Int32} (hc : Cl (AM 640) false true L xs 2 112 kL_law Q P) (hL : L ≤ 3584) {v3 : Int32} {I : Im} {J : Jm} {R : Rm} (hB0 : Bd I) (hR0 : RI R) (hF0 : Fl R) (hL0 : (I 3 1).toInt = (I 97 8).toInt) (hL1 : (I 1 13).toInt = (I 97 23).toInt) (hL2 : RT I) (hL3 : True) (hR3 : R3 I J) (hRM : RM I J R) (hFQ : True) (h0 : 0 ≤ v3.toInt) (h7 : v3.toInt + 7 ≤ (L : Int)) (hN : ∀ (I : Im) (J : Jm) (R : Rm), Bd I → RI R → Fl R → RLz I → R3 I J → RM I J R → True → P 1889 112 [(0, .ref 0), (1, .ref 1), (2, .ref 97), (3, .int v3)] [] I J R) : P 326 112 [(0, .ref 0), (1, .ref 1), (2, .ref 97), (3, .int v3)] [] I J R := by
  have i_v3 := i32 v3
  have e97 : I 97 8 = nI (fl I) := (Int32.toInt_inj.mp hL0).symm.trans (fl_bd hB0).1
  have b31 := Bd.o hB0 io9_112_3_6 bd9_6_1
  refine ls_326 hc v3 _ _ _ ?_
  have e1 : ((v3 + 1) : Int32).toInt = (v3.toInt) + (1) := ti_add rfl rfl (by omega)
  refine ⟨vp_of (a := (v3.toInt + 1)) e1 (by omega) (by omega), ?_⟩
  have z2 := i32 (xs (Int32.toNatClampNeg (v3 + 1)))
  have e3 : ((v3 + 2) : Int32).toInt = (v3.toInt) + (2) := ti_add rfl rfl (by omega)
  refine ⟨vp_of (a := (v3.toInt + 2)) e3 (by omega) (by omega), ?_⟩
  have z4 := i32 (xs (Int32.toNatClampNeg (v3 + 2)))
  have e5 : ((v3 + 3) : Int32).toInt = (v3.toInt) + (3) := ti_add rfl rfl (by omega)
  refine ⟨vp_of (a := (v3.toInt + 3)) e5 (by omega) (by omega), ?_⟩
  have z6 := i32 (xs (Int32.toNatClampNeg (v3 + 3)))
  have e7 : ((v3 + 4) : Int32).toInt = (v3.toInt) + (4) := ti_add rfl rfl (by omega)
  refine ⟨vp_of (a := (v3.toInt + 4)) e7 (by omega) (by omega), ?_⟩
  have z8 := i32 (xs (Int32.toNatClampNeg (v3 + 4)))
  refine ⟨⟨hF0, rfl⟩, ?_⟩
  refine kp7 rfl hR0 rfl (kpA rfl (kpnm rfl hR0 rfl (kp102 rfl hR0 rfl (kp6 rfl hR0 rfl (kp4 rfl (kp5 rfl hR0 rfl (kp0 rfl (kp1 rfl (kp2 rfl (kp3 rfl (sp_X11_write hB0 hR0 (fun x9 y14 I10 J11 hB12 p13 kq18 kq17 kq16 kq15 k20 k19 k21 w25 w24 w23 w22 => ?_))))))))))))
  intro o26
  have i27 := i32 x9
  have b28 := Bd.o hB0 io9_112_3_6 bd9_6_1
  have e29 : ((I10 3 1) : Int32).toInt = (I 3 1).toInt := Eq.trans (congrArg Int32.toInt kq15) rfl
  have kz30 : ((I10 3 1) : Int32).toInt = (I 3 1).toInt := e29
  have b31 := Bd.o hB0 io9_112_97_12 bd9_12_8
  have e32 : ((I10 97 8) : Int32).toInt = (I 97 8).toInt := Eq.trans (congrArg Int32.toInt kq16) rfl
  have kz33 : ((I10 97 8) : Int32).toInt = (I 97 8).toInt := e32
  have b34 := Bd.o hB0 io9_112_1_11 bd9_11_13
  have e35 : ((I10 1 13) : Int32).toInt = (I 1 13).toInt := Eq.trans (congrArg Int32.toInt kq17) rfl
  have kz36 : ((I10 1 13) : Int32).toInt = (I 1 13).toInt := e35
  have b37 := Bd.o hB0 io9_112_97_12 bd9_12_23
  have e38 : ((I10 97 23) : Int32).toInt = (I 97 23).toInt := Eq.trans (congrArg Int32.toInt kq18) rfl
  have kz39 : ((I10 97 23) : Int32).toInt = (I 97 23).toInt := e38
  have hw40 : 0 ≤ ((xs (Int32.toNatClampNeg (v3 + 1))) : Int32).toInt → ((xs (Int32.toNatClampNeg (v3 + 1))) : Int32).toInt ≤ 3 → (I (R 2 (Int32.toNatClampNeg (xs (Int32.toNatClampNeg (v3 + 1))))) 1).toInt = (I10 99 (Int32.toNatClampNeg (xs (Int32.toNatClampNeg (v3 + 1))))).toInt := fun a b => RT.a1 hL2 hR0 k20 a b
  refine ⟨vp_of (a := (v3.toInt + 1)) e1 (by omega) (by omega), ?_⟩
  have z41 := i32 (xs (Int32.toNatClampNeg (v3 + 1)))
  refine ⟨vp_of (a := (v3.toInt + 2)) e3 (by omega) (by omega), ?_⟩
  have z42 := i32 (xs (Int32.toNatClampNeg (v3 + 2)))
  refine ⟨vp_of (a := (v3.toInt + 3)) e5 (by omega) (by omega), ?_⟩
  have z43 := i32 (xs (Int32.toNatClampNeg (v3 + 3)))
  refine ⟨vp_of (a := (v3.toInt + 4)) e7 (by omega) (by omega), ?_⟩
  have z44 := i32 (xs (Int32.toNatClampNeg (v3 + 4)))
  refine ⟨⟨hF0, rfl⟩, ?_⟩
  refine kp7 rfl hR0 rfl (kpA rfl (kpnm rfl hR0 rfl (kp102 rfl hR0 rfl (kp6 rfl hR0 rfl (kp4 rfl (kp0 rfl (kp1 rfl (kp2 rfl (kp3 rfl (sp_X12_write hB12 hR0 (fun x45 y50 I46 J47 hB48 p49 kq54 kq53 kq52 kq51 k55 k56 w60 w59 w58 w57 => ?_)))))))))))
  intro o61
  have i62 := i32 x45
  have e63 : ((I46 3 1) : Int32).toInt = (I 3 1).toInt := Eq.trans (congrArg Int32.toInt (Eq.trans kq51 kq15)) rfl
  have kz64 : ((I46 3 1) : Int32).toInt = (I 3 1).toInt := e63
  have e65 : ((I46 97 8) : Int32).toInt = (I 97 8).toInt := Eq.trans (congrArg Int32.toInt (Eq.trans kq52 kq16)) rfl
  have kz66 : ((I46 97 8) : Int32).toInt = (I 97 8).toInt := e65
  have e67 : ((I46 1 13) : Int32).toInt = (I 1 13).toInt := Eq.trans (congrArg Int32.toInt (Eq.trans kq53 kq17)) rfl
  have kz68 : ((I46 1 13) : Int32).toInt = (I 1 13).toInt := e67
  have e69 : ((I46 97 23) : Int32).toInt = (I 97 23).toInt := Eq.trans (congrArg Int32.toInt (Eq.trans kq54 kq18)) rfl
  have kz70 : ((I46 97 23) : Int32).toInt = (I 97 23).toInt := e69
  exact hN _ _ R hB48 hR0 hF0 ⟨(Eq.trans (e63) (Eq.trans hL0 (Eq.symm (e65)))), (Eq.trans (e67) (Eq.trans hL1 (Eq.symm (e69)))), (RT.kp (RT.kp hL2 k19 k20) k55 (p49.2)), trivial⟩ (R3.kp (R3.kp hR3 w22 (by have ya : ((I10 3 1) : Int32).toInt = (I 3 1).toInt := e29; have yb : ((I 3 1) : Int32).toInt = (I 3 1).toInt := rfl; first | exact Int.le_of_eq (ya.trans yb) | exact ya.trans yb | omega)) w57 (by have ya : ((I46 3 1) : Int32).toInt = (I 3 1).toInt := e63; have yb : ((I10 3 1) : Int32).toInt = (I 3 1).toInt := e29; first | exact Int.le_of_eq (ya.trans yb) | exact ya.trans yb | omega)) (RM.kp hR0 (RM.kp hR0 hRM ⟨w23, w24, (fun j _ => congrFun w25.1 j)⟩) ⟨w58, w59, (fun j _ => congrFun w60.1 j)⟩) trivial
set_option maxRecDepth 100000 in
set_option maxHeartbeats 2000000 in
theorem lc_5 {Q : Nat → Qt} {P : Kt} {L : Nat} {xs : Nat → Int32} (hc : Cl (AM 640) false true L xs 2 112 kL_law Q P) (hL : L ≤ 3584) {v3 : Int32} {I : Im} {J : Jm} {R : Rm} (hB0 : Bd I) (hR0 : RI R) (hF0 : Fl R) (hL0 : (I 3 1).toInt = (I 97 8).toInt) (hL1 : (I 1 13).toInt = (I 97 23).toInt) (hL2 : RT I) (hL3 : True) (hR3 : R3 I J) (hRM : RM I J R) (hFQ : True) (h0 : 0 ≤ v3.toInt) (h7 : v3.toInt + 7 ≤ (L : Int)) (hN : ∀ (I : Im) (J : Jm) (R : Rm), Bd I → RI R → Fl R → RLz I → R3 I J → RM I J R → True → P 1889 112 [(0, .ref 0), (1, .ref 1), (2, .ref 97), (3, .int v3)] [] I J R) : P 399 112 [(0, .ref 0), (1, .ref 1), (2, .ref 97), (3, .int v3)] [] I J R := by
  have i_v3 := i32 v3
  have e97 : I 97 8 = nI (fl I) := (Int32.toInt_inj.mp hL0).symm.trans (fl_bd hB0).1
  have b31 := Bd.o hB0 io9_112_3_6 bd9_6_1
  refine ls_399 hc v3 _ _ _ ?_
  have e1 : ((v3 + 1) : Int32).toInt = (v3.toInt) + (1) := ti_add rfl rfl (by omega)
  refine ⟨vp_of (a := (v3.toInt + 1)) e1 (by omega) (by omega), ?_⟩
  have z2 := i32 (xs (Int32.toNatClampNeg (v3 + 1)))
  have e3 : ((v3 + 2) : Int32).toInt = (v3.toInt) + (2) := ti_add rfl rfl (by omega)
  refine ⟨vp_of (a := (v3.toInt + 2)) e3 (by omega) (by omega), ?_⟩
  have z4 := i32 (xs (Int32.toNatClampNeg (v3 + 2)))
  refine ⟨⟨hF0, rfl⟩, ?_⟩
  refine kp7 rfl hR0 rfl (kpA rfl (kpnm rfl hR0 rfl (kp102 rfl hR0 rfl (kp6 rfl hR0 rfl (kp4 rfl (kp5 rfl hR0 rfl (kp0 rfl (kp1 rfl (kp2 rfl (kp3 rfl (sp_X11_read hB0 hR0 (fun x5 y10 I6 J7 hB8 p9 kq14 kq13 kq12 kq11 k16 k15 k17 w21 w20 w19 w18 => ?_))))))))))))
  have b22 := Bd.o hB0 io9_112_3_6 bd9_6_1
  have e23 : ((I6 3 1) : Int32).toInt = (I 3 1).toInt := Eq.trans (congrArg Int32.toInt kq11) rfl
  have kz24 : ((I6 3 1) : Int32).toInt = (I 3 1).toInt := e23
  have b25 := Bd.o hB0 io9_112_97_12 bd9_12_8
  have e26 : ((I6 97 8) : Int32).toInt = (I 97 8).toInt := Eq.trans (congrArg Int32.toInt kq12) rfl
  have kz27 : ((I6 97 8) : Int32).toInt = (I 97 8).toInt := e26
  have b28 := Bd.o hB0 io9_112_1_11 bd9_11_13
  have e29 : ((I6 1 13) : Int32).toInt = (I 1 13).toInt := Eq.trans (congrArg Int32.toInt kq13) rfl
  have kz30 : ((I6 1 13) : Int32).toInt = (I 1 13).toInt := e29
  have b31 := Bd.o hB0 io9_112_97_12 bd9_12_23
  have e32 : ((I6 97 23) : Int32).toInt = (I 97 23).toInt := Eq.trans (congrArg Int32.toInt kq14) rfl
  have kz33 : ((I6 97 23) : Int32).toInt = (I 97 23).toInt := e32
  refine ⟨vp_of (a := (v3.toInt + 1)) e1 (by omega) (by omega), ?_⟩
  have z34 := i32 (xs (Int32.toNatClampNeg (v3 + 1)))
  refine ⟨vp_of (a := (v3.toInt + 2)) e3 (by omega) (by omega), ?_⟩
  have z35 := i32 (xs (Int32.toNatClampNeg (v3 + 2)))
  refine ⟨⟨hF0, rfl⟩, ?_⟩
  refine kp7 rfl hR0 rfl (kpA rfl (kpnm rfl hR0 rfl (kp102 rfl hR0 rfl (kp6 rfl hR0 rfl (kp4 rfl (kp5 rfl hR0 rfl (kp0 rfl (kp1 rfl (kp2 rfl (kp3 rfl (sp_X12_read hB8 hR0 (fun x36 y41 I37 J38 hB39 p40 kq45 kq44 kq43 kq42 k47 k46 k48 w52 w51 w50 w49 => ?_))))))))))))
  have e53 : ((I37 3 1) : Int32).toInt = (I 3 1).toInt := Eq.trans (congrArg Int32.toInt (Eq.trans kq42 kq11)) rfl
  have kz54 : ((I37 3 1) : Int32).toInt = (I 3 1).toInt := e53
  have e55 : ((I37 97 8) : Int32).toInt = (I 97 8).toInt := Eq.trans (congrArg Int32.toInt (Eq.trans kq43 kq12)) rfl
  have kz56 : ((I37 97 8) : Int32).toInt = (I 97 8).toInt := e55
  have e57 : ((I37 1 13) : Int32).toInt = (I 1 13).toInt := Eq.trans (congrArg Int32.toInt (Eq.trans kq44 kq13)) rfl
  have kz58 : ((I37 1 13) : Int32).toInt = (I 1 13).toInt := e57
  have e59 : ((I37 97 23) : Int32).toInt = (I 97 23).toInt := Eq.trans (congrArg Int32.toInt (Eq.trans kq45 kq14)) rfl
  have kz60 : ((I37 97 23) : Int32).toInt = (I 97 23).toInt := e59
  exact hN _ _ R hB39 hR0 hF0 ⟨(Eq.trans (e53) (Eq.trans hL0 (Eq.symm (e55)))), (Eq.trans (e57) (Eq.trans hL1 (Eq.symm (e59)))), (RT.kp (RT.kp hL2 k15 k16) k46 k47), trivial⟩ (R3.kp (R3.kp hR3 w18 (by have ya : ((I6 3 1) : Int32).toInt = (I 3 1).toInt := e23; have yb : ((I 3 1) : Int32).toInt = (I 3 1).toInt := rfl; first | exact Int.le_of_eq (ya.trans yb) | exact ya.trans yb | omega)) w49 (by have ya : ((I37 3 1) : Int32).toInt = (I 3 1).toInt := e53; have yb : ((I6 3 1) : Int32).toInt = (I 3 1).toInt := e23; first | exact Int.le_of_eq (ya.trans yb) | exact ya.trans yb | omega)) (RM.kp hR0 (RM.kp hR0 hRM ⟨w19, w20, (fun j _ => congrFun w21.1 j)⟩) ⟨w50, w51, (fun j _ => congrFun w52.1 j)⟩) trivial
set_option maxRecDepth 100000 in
set_option maxHeartbeats 2000000 in
theorem lc_6 {Q : Nat → Qt} {P : Kt} {L : Nat} {xs : Nat → Int32} (hc : Cl (AM 640) false true L xs 2 112 kL_law Q P) (hL : L ≤ 3584) {v3 : Int32} {I : Im} {J : Jm} {R : Rm} (hB0 : Bd I) (hR0 : RI R) (hF0 : Fl R) (hL0 : (I 3 1).toInt = (I 97 8).toInt) (hL1 : (I 1 13).toInt = (I 97 23).toInt) (hL2 : RT I) (hL3 : True) (hR3 : R3 I J) (hRM : RM I J R) (hFQ : True) (h0 : 0 ≤ v3.toInt) (h7 : v3.toInt + 7 ≤ (L : Int)) (hN : ∀ (I : Im) (J : Jm) (R : Rm), Bd I → RI R → Fl R → RLz I → R3 I J → RM I J R → True → P 1889 112 [(0, .ref 0), (1, .ref 1), (2, .ref 97), (3, .int v3)] [] I J R) : P 432 112 [(0, .ref 0), (1, .ref 1), (2, .ref 97), (3, .int v3)] [] I J R := by
  have i_v3 := i32 v3
  have e97 : I 97 8 = nI (fl I) := (Int32.toInt_inj.mp hL0).symm.trans (fl_bd hB0).1
  have b31 := Bd.o hB0 io9_112_3_6 bd9_6_1
  refine ls_432 hc v3 _ _ _ ?_
  have e1 : ((v3 + 1) : Int32).toInt = (v3.toInt) + (1) := ti_add rfl rfl (by omega)
  refine ⟨vp_of (a := (v3.toInt + 1)) e1 (by omega) (by omega), ?_⟩
  have z2 := i32 (xs (Int32.toNatClampNeg (v3 + 1)))
  have e3 : ((v3 + 2) : Int32).toInt = (v3.toInt) + (2) := ti_add rfl rfl (by omega)
  refine ⟨vp_of (a := (v3.toInt + 2)) e3 (by omega) (by omega), ?_⟩
  have z4 := i32 (xs (Int32.toNatClampNeg (v3 + 2)))
  have e5 : ((v3 + 3) : Int32).toInt = (v3.toInt) + (3) := ti_add rfl rfl (by omega)
  refine ⟨vp_of (a := (v3.toInt + 3)) e5 (by omega) (by omega), ?_⟩
  have z6 := i32 (xs (Int32.toNatClampNeg (v3 + 3)))
  have e7 : ((v3 + 4) : Int32).toInt = (v3.toInt) + (4) := ti_add rfl rfl (by omega)
  refine ⟨vp_of (a := (v3.toInt + 4)) e7 (by omega) (by omega), ?_⟩
  have z8 := i32 (xs (Int32.toNatClampNeg (v3 + 4)))
  have e9 : ((v3 + 5) : Int32).toInt = (v3.toInt) + (5) := ti_add rfl rfl (by omega)
  refine ⟨vp_of (a := (v3.toInt + 5)) e9 (by omega) (by omega), ?_⟩
  have z10 := i32 (xs (Int32.toNatClampNeg (v3 + 5)))
  refine ⟨⟨hF0, rfl⟩, ?_⟩
  refine kp7 rfl hR0 rfl (kpA rfl (kpnm rfl hR0 rfl (kp102 rfl hR0 rfl (kp6 rfl hR0 rfl (kp4 rfl (kp5 rfl hR0 rfl (kp0 rfl (kp1 rfl (kp2 rfl (kp3 rfl (sp_X11_pour hB0 hR0 (fun x11 y16 I12 J13 hB14 p15 kq20 kq19 kq18 kq17 k22 k21 k23 w27 w26 w25 w24 => ?_))))))))))))
  intro o28
  have i29 := i32 x11
  have b30 := Bd.o hB0 io9_112_3_6 bd9_6_1
  have e31 : ((I12 3 1) : Int32).toInt = (I 3 1).toInt := Eq.trans (congrArg Int32.toInt kq17) rfl
  have kz32 : ((I12 3 1) : Int32).toInt = (I 3 1).toInt := e31
  have b33 := Bd.o hB0 io9_112_97_12 bd9_12_8
  have e34 : ((I12 97 8) : Int32).toInt = (I 97 8).toInt := Eq.trans (congrArg Int32.toInt kq18) rfl
  have kz35 : ((I12 97 8) : Int32).toInt = (I 97 8).toInt := e34
  have b36 := Bd.o hB0 io9_112_1_11 bd9_11_13
  have e37 : ((I12 1 13) : Int32).toInt = (I 1 13).toInt := Eq.trans (congrArg Int32.toInt kq19) rfl
  have kz38 : ((I12 1 13) : Int32).toInt = (I 1 13).toInt := e37
  have b39 := Bd.o hB0 io9_112_97_12 bd9_12_23
  have e40 : ((I12 97 23) : Int32).toInt = (I 97 23).toInt := Eq.trans (congrArg Int32.toInt kq20) rfl
  have kz41 : ((I12 97 23) : Int32).toInt = (I 97 23).toInt := e40
  have hw42 : 0 ≤ ((xs (Int32.toNatClampNeg (v3 + 1))) : Int32).toInt → ((xs (Int32.toNatClampNeg (v3 + 1))) : Int32).toInt ≤ 3 → (I (R 2 (Int32.toNatClampNeg (xs (Int32.toNatClampNeg (v3 + 1))))) 1).toInt = (I12 99 (Int32.toNatClampNeg (xs (Int32.toNatClampNeg (v3 + 1))))).toInt := fun a b => RT.a1 hL2 hR0 k22 a b
  have hw43 : 0 ≤ ((xs (Int32.toNatClampNeg (v3 + 1))) : Int32).toInt → ((xs (Int32.toNatClampNeg (v3 + 1))) : Int32).toInt ≤ 3 → (I (R 2 (Int32.toNatClampNeg (xs (Int32.toNatClampNeg (v3 + 1))))) 0).toInt = (I12 98 (Int32.toNatClampNeg (xs (Int32.toNatClampNeg (v3 + 1))))).toInt := fun a b => RT.a0 hL2 hR0 k22 a b
  have hw44 : 0 ≤ ((xs (Int32.toNatClampNeg (v3 + 3))) : Int32).toInt → ((xs (Int32.toNatClampNeg (v3 + 3))) : Int32).toInt ≤ 3 → (I (R 2 (Int32.toNatClampNeg (xs (Int32.toNatClampNeg (v3 + 3))))) 1).toInt = (I12 99 (Int32.toNatClampNeg (xs (Int32.toNatClampNeg (v3 + 3))))).toInt := fun a b => RT.a1 hL2 hR0 k22 a b
  have hw45 : 0 ≤ ((xs (Int32.toNatClampNeg (v3 + 3))) : Int32).toInt → ((xs (Int32.toNatClampNeg (v3 + 3))) : Int32).toInt ≤ 3 → (I (R 2 (Int32.toNatClampNeg (xs (Int32.toNatClampNeg (v3 + 3))))) 0).toInt = (I12 98 (Int32.toNatClampNeg (xs (Int32.toNatClampNeg (v3 + 3))))).toInt := fun a b => RT.a0 hL2 hR0 k22 a b
  refine ⟨vp_of (a := (v3.toInt + 1)) e1 (by omega) (by omega), ?_⟩
  have z46 := i32 (xs (Int32.toNatClampNeg (v3 + 1)))
  refine ⟨vp_of (a := (v3.toInt + 2)) e3 (by omega) (by omega), ?_⟩
  have z47 := i32 (xs (Int32.toNatClampNeg (v3 + 2)))
  refine ⟨vp_of (a := (v3.toInt + 3)) e5 (by omega) (by omega), ?_⟩
  have z48 := i32 (xs (Int32.toNatClampNeg (v3 + 3)))
  refine ⟨vp_of (a := (v3.toInt + 4)) e7 (by omega) (by omega), ?_⟩
  have z49 := i32 (xs (Int32.toNatClampNeg (v3 + 4)))
  refine ⟨vp_of (a := (v3.toInt + 5)) e9 (by omega) (by omega), ?_⟩
  have z50 := i32 (xs (Int32.toNatClampNeg (v3 + 5)))
  refine ⟨⟨hF0, rfl⟩, ?_⟩
  refine kp7 rfl hR0 rfl (kpA rfl (kpnm rfl hR0 rfl (kp102 rfl hR0 rfl (kp6 rfl hR0 rfl (kp4 rfl (kp0 rfl (kp1 rfl (kp2 rfl (kp3 rfl (sp_X12_pour hB14 hR0 (fun x51 y56 I52 J53 hB54 p55 kq60 kq59 kq58 kq57 k61 k62 w66 w65 w64 w63 => ?_)))))))))))
  intro o67
  have i68 := i32 x51
  have e69 : ((I52 3 1) : Int32).toInt = (I 3 1).toInt := Eq.trans (congrArg Int32.toInt (Eq.trans kq57 kq17)) rfl
  have kz70 : ((I52 3 1) : Int32).toInt = (I 3 1).toInt := e69
  have e71 : ((I52 97 8) : Int32).toInt = (I 97 8).toInt := Eq.trans (congrArg Int32.toInt (Eq.trans kq58 kq18)) rfl
  have kz72 : ((I52 97 8) : Int32).toInt = (I 97 8).toInt := e71
  have e73 : ((I52 1 13) : Int32).toInt = (I 1 13).toInt := Eq.trans (congrArg Int32.toInt (Eq.trans kq59 kq19)) rfl
  have kz74 : ((I52 1 13) : Int32).toInt = (I 1 13).toInt := e73
  have e75 : ((I52 97 23) : Int32).toInt = (I 97 23).toInt := Eq.trans (congrArg Int32.toInt (Eq.trans kq60 kq20)) rfl
  have kz76 : ((I52 97 23) : Int32).toInt = (I 97 23).toInt := e75
  exact hN _ _ R hB54 hR0 hF0 ⟨(Eq.trans (e69) (Eq.trans hL0 (Eq.symm (e71)))), (Eq.trans (e73) (Eq.trans hL1 (Eq.symm (e75)))), (RT.kp (RT.kp hL2 k21 k22) k61 (p55.2)), trivial⟩ (R3.kp (R3.kp hR3 w24 (by have ya : ((I12 3 1) : Int32).toInt = (I 3 1).toInt := e31; have yb : ((I 3 1) : Int32).toInt = (I 3 1).toInt := rfl; first | exact Int.le_of_eq (ya.trans yb) | exact ya.trans yb | omega)) w63 (by have ya : ((I52 3 1) : Int32).toInt = (I 3 1).toInt := e69; have yb : ((I12 3 1) : Int32).toInt = (I 3 1).toInt := e31; first | exact Int.le_of_eq (ya.trans yb) | exact ya.trans yb | omega)) (RM.kp hR0 (RM.kp hR0 hRM ⟨w25, w26, (fun j _ => congrFun w27.1 j)⟩) ⟨w64, w65, (fun j _ => congrFun w66.1 j)⟩) trivial
set_option maxRecDepth 100000 in
set_option maxHeartbeats 2000000 in
theorem lc_7 {Q : Nat → Qt} {P : Kt} {L : Nat} {xs : Nat → Int32} (hc : Cl (AM 640) false true L xs 2 112 kL_law Q P) (hL : L ≤ 3584) {v3 : Int32} {I : Im} {J : Jm} {R : Rm} (hB0 : Bd I) (hR0 : RI R) (hF0 : Fl R) (hL0 : (I 3 1).toInt = (I 97 8).toInt) (hL1 : (I 1 13).toInt = (I 97 23).toInt) (hL2 : RT I) (hL3 : True) (hR3 : R3 I J) (hRM : RM I J R) (hFQ : True) (h0 : 0 ≤ v3.toInt) (h7 : v3.toInt + 7 ≤ (L : Int)) (hN : ∀ (I : Im) (J : Jm) (R : Rm), Bd I → RI R → Fl R → RLz I → R3 I J → RM I J R → True → P 1889 112 [(0, .ref 0), (1, .ref 1), (2, .ref 97), (3, .int v3)] [] I J R) : P 495 112 [(0, .ref 0), (1, .ref 1), (2, .ref 97), (3, .int v3)] [] I J R := by
  have i_v3 := i32 v3
  have e97 : I 97 8 = nI (fl I) := (Int32.toInt_inj.mp hL0).symm.trans (fl_bd hB0).1
  have b31 := Bd.o hB0 io9_112_3_6 bd9_6_1
  refine ls_495 hc v3 _ _ _ ?_
  have e1 : ((v3 + 1) : Int32).toInt = (v3.toInt) + (1) := ti_add rfl rfl (by omega)
  refine ⟨vp_of (a := (v3.toInt + 1)) e1 (by omega) (by omega), ?_⟩
  have z2 := i32 (xs (Int32.toNatClampNeg (v3 + 1)))
  have e3 : ((v3 + 2) : Int32).toInt = (v3.toInt) + (2) := ti_add rfl rfl (by omega)
  refine ⟨vp_of (a := (v3.toInt + 2)) e3 (by omega) (by omega), ?_⟩
  have z4 := i32 (xs (Int32.toNatClampNeg (v3 + 2)))
  have e5 : ((v3 + 3) : Int32).toInt = (v3.toInt) + (3) := ti_add rfl rfl (by omega)
  refine ⟨vp_of (a := (v3.toInt + 3)) e5 (by omega) (by omega), ?_⟩
  have z6 := i32 (xs (Int32.toNatClampNeg (v3 + 3)))
  have e7 : ((v3 + 4) : Int32).toInt = (v3.toInt) + (4) := ti_add rfl rfl (by omega)
  refine ⟨vp_of (a := (v3.toInt + 4)) e7 (by omega) (by omega), ?_⟩
  have z8 := i32 (xs (Int32.toNatClampNeg (v3 + 4)))
  have e9 : ((v3 + 5) : Int32).toInt = (v3.toInt) + (5) := ti_add rfl rfl (by omega)
  refine ⟨vp_of (a := (v3.toInt + 5)) e9 (by omega) (by omega), ?_⟩
  have z10 := i32 (xs (Int32.toNatClampNeg (v3 + 5)))
  refine ⟨⟨hF0, rfl⟩, ?_⟩
  refine kx (cx_feed hB0) (kpA rfl (kpnm rfl hR0 rfl (kp102 rfl hR0 rfl (kp6 rfl hR0 rfl (kp4 rfl (kp5 rfl hR0 rfl (kp1 rfl (kp2 rfl (kp3 rfl (sp_X11_feed hB0 hR0 (fun x11 y16 I12 J13 hB14 p15 kq19 kq18 kq17 k21 k20 k22 w26 w25 w24 w23 => ?_)))))))))))
  have b27 := Bd.o hB0 io9_112_3_6 bd9_6_1
  have b28 := Bd.o hB14 io9_112_3_6 bd9_6_1
  have i29 := i32 x11
  have b30 := Bd.o hB0 io9_112_97_12 bd9_12_8
  have e31 : ((I12 97 8) : Int32).toInt = (I 97 8).toInt := Eq.trans (congrArg Int32.toInt kq17) rfl
  have kz32 : ((I12 97 8) : Int32).toInt = (I 97 8).toInt := e31
  have b33 := Bd.o hB0 io9_112_1_11 bd9_11_13
  have e34 : ((I12 1 13) : Int32).toInt = (I 1 13).toInt := Eq.trans (congrArg Int32.toInt kq18) rfl
  have kz35 : ((I12 1 13) : Int32).toInt = (I 1 13).toInt := e34
  have b36 := Bd.o hB0 io9_112_97_12 bd9_12_23
  have e37 : ((I12 97 23) : Int32).toInt = (I 97 23).toInt := Eq.trans (congrArg Int32.toInt kq19) rfl
  have kz38 : ((I12 97 23) : Int32).toInt = (I 97 23).toInt := e37
  refine ⟨vp_of (a := (v3.toInt + 1)) e1 (by omega) (by omega), ?_⟩
  have z39 := i32 (xs (Int32.toNatClampNeg (v3 + 1)))
  refine ⟨vp_of (a := (v3.toInt + 2)) e3 (by omega) (by omega), ?_⟩
  have z40 := i32 (xs (Int32.toNatClampNeg (v3 + 2)))
  refine ⟨vp_of (a := (v3.toInt + 3)) e5 (by omega) (by omega), ?_⟩
  have z41 := i32 (xs (Int32.toNatClampNeg (v3 + 3)))
  refine ⟨vp_of (a := (v3.toInt + 4)) e7 (by omega) (by omega), ?_⟩
  have z42 := i32 (xs (Int32.toNatClampNeg (v3 + 4)))
  refine ⟨vp_of (a := (v3.toInt + 5)) e9 (by omega) (by omega), ?_⟩
  have z43 := i32 (xs (Int32.toNatClampNeg (v3 + 5)))
  refine ⟨⟨hF0, rfl⟩, ?_⟩
  refine kx (mx_feed (f := fl I) ((w23.2.2.2).trans e97) (fl_bd hB0).2) (kpA rfl (kpnm rfl hR0 rfl (kp102 rfl hR0 rfl (kp6 rfl hR0 rfl (kp4 rfl (kp5 rfl hR0 rfl (kp0 rfl (kp2 rfl (kp3 rfl (sp_X12_feed hB14 hR0 (fun x44 y49 I45 J46 hB47 p48 kq52 kq51 kq50 k54 k53 k55 w59 w58 w57 w56 => ?_)))))))))))
  have b60 := Bd.o hB47 io9_112_97_12 bd9_12_8
  have i61 := i32 x44
  have e62 : ((I45 3 1) : Int32).toInt = (I12 3 1).toInt := Eq.trans (congrArg Int32.toInt kq50) rfl
  have kz63 : ((I45 3 1) : Int32).toInt = (I12 3 1).toInt := e62
  have e64 : ((I45 1 13) : Int32).toInt = (I 1 13).toInt := Eq.trans (congrArg Int32.toInt (Eq.trans kq51 kq18)) rfl
  have kz65 : ((I45 1 13) : Int32).toInt = (I 1 13).toInt := e64
  have e66 : ((I45 97 23) : Int32).toInt = (I 97 23).toInt := Eq.trans (congrArg Int32.toInt (Eq.trans kq52 kq19)) rfl
  have kz67 : ((I45 97 23) : Int32).toInt = (I 97 23).toInt := e66
  have hr68 := R3.feed hR3 rfl w23 w56
  have hg69 : (x44 : Int32).toInt = (x11 : Int32).toInt := congrArg Int32.toInt hr68.2
  exact hN _ _ R hB47 hR0 hF0 ⟨(by have ya : ((I45 3 1) : Int32).toInt = (I12 3 1).toInt := e62; have yb : ((I45 97 8) : Int32).toInt = (I45 97 8).toInt := rfl; first | exact Int.le_of_eq (ya.trans yb) | exact ya.trans yb | omega), (Eq.trans (e64) (Eq.trans hL1 (Eq.symm (e66)))), (RT.kp (RT.kp hL2 k20 k21) k53 k54), trivial⟩ (hr68.1) (RM.kp hR0 (RM.kp hR0 hRM ⟨w24, w25, (fun j _ => congrFun w26.1 j)⟩) ⟨w57, w58, (fun j _ => congrFun w59.1 j)⟩) trivial
set_option maxRecDepth 100000 in
set_option maxHeartbeats 2000000 in
theorem lc_8 {Q : Nat → Qt} {P : Kt} {L : Nat} {xs : Nat → Int32} (hc : Cl (AM 640) false true L xs 2 112 kL_law Q P) (hL : L ≤ 3584) {v3 : Int32} {I : Im} {J : Jm} {R : Rm} (hB0 : Bd I) (hR0 : RI R) (hF0 : Fl R) (hL0 : (I 3 1).toInt = (I 97 8).toInt) (hL1 : (I 1 13).toInt = (I 97 23).toInt) (hL2 : RT I) (hL3 : True) (hR3 : R3 I J) (hRM : RM I J R) (hFQ : True) (h0 : 0 ≤ v3.toInt) (h7 : v3.toInt + 7 ≤ (L : Int)) (hN : ∀ (I : Im) (J : Jm) (R : Rm), Bd I → RI R → Fl R → RLz I → R3 I J → RM I J R → True → P 1889 112 [(0, .ref 0), (1, .ref 1), (2, .ref 97), (3, .int v3)] [] I J R) : P 558 112 [(0, .ref 0), (1, .ref 1), (2, .ref 97), (3, .int v3)] [] I J R := by
  have i_v3 := i32 v3
  have e97 : I 97 8 = nI (fl I) := (Int32.toInt_inj.mp hL0).symm.trans (fl_bd hB0).1
  have b31 := Bd.o hB0 io9_112_3_6 bd9_6_1
  refine ls_558 hc v3 _ _ _ ?_
  have e1 : ((v3 + 1) : Int32).toInt = (v3.toInt) + (1) := ti_add rfl rfl (by omega)
  refine ⟨vp_of (a := (v3.toInt + 1)) e1 (by omega) (by omega), ?_⟩
  have z2 := i32 (xs (Int32.toNatClampNeg (v3 + 1)))
  refine ⟨⟨hF0, rfl⟩, ?_⟩
  refine kx (cx_bakery hB0 hR0 hR3) (kx (cx_bakM hB0 hR0 hR3) (kp6 rfl hR0 rfl (kp4 rfl (kp5 rfl hR0 rfl (kp1 rfl (kp2 rfl (kp3 rfl (sp_X11_bakery hB0 hR0 (fun x3 y4 I5 J6 R7 hB8 hR9 hL10 p11 kq14 kq13 kq12 k16 k15 k17 w19 w18 => ?_)))))))))
  have b20 := Bd.o hB8 io9_112_3_6 bd9_6_1
  have b21 := Bd.o hB0 io9_112_97_12 bd9_12_8
  have e22 : ((I5 97 8) : Int32).toInt = (I 97 8).toInt := Eq.trans (congrArg Int32.toInt kq12) rfl
  have kz23 : ((I5 97 8) : Int32).toInt = (I 97 8).toInt := e22
  have b24 := Bd.o hB0 io9_112_1_11 bd9_11_13
  have e25 : ((I5 1 13) : Int32).toInt = (I 1 13).toInt := Eq.trans (congrArg Int32.toInt kq13) rfl
  have kz26 : ((I5 1 13) : Int32).toInt = (I 1 13).toInt := e25
  have b27 := Bd.o hB0 io9_112_97_12 bd9_12_23
  have e28 : ((I5 97 23) : Int32).toInt = (I 97 23).toInt := Eq.trans (congrArg Int32.toInt kq14) rfl
  have kz29 : ((I5 97 23) : Int32).toInt = (I 97 23).toInt := e28
  refine ⟨vp_of (a := (v3.toInt + 1)) e1 (by omega) (by omega), ?_⟩
  have z30 := i32 (xs (Int32.toNatClampNeg (v3 + 1)))
  refine ⟨⟨(hL10 hF0), rfl⟩, ?_⟩
  refine kx (mx_bakery (f := fl I) (T := I 4) ((kq12).trans e97) (fl_bd hB0).2 hR3.1 (fun i hi => (congrFun w18.2.2.1 i).trans (hR3.2.1 i hi).symm)) (kx (mx_bakM (f := fl I) (T := I 4) ((kq12).trans e97) (fl_bd hB0).2 hR3.1 (fun i hi => (congrFun w18.2.2.1 i).trans (hR3.2.1 i hi).symm)) (kp6 rfl hR9 rfl (kp4 rfl (kp5 rfl hR9 rfl (kp0 rfl (kp2 rfl (kp3 rfl (sp_X12_bakery hB8 hR9 (fun x31 y36 I32 J33 hB34 p35 kq39 kq38 kq37 k41 k40 k42 w44 w43 => ?_)))))))))
  have b45 := Bd.o hB34 io9_112_97_12 bd9_12_8
  have i46 := i32 x31
  have e47 : ((I32 3 1) : Int32).toInt = (I5 3 1).toInt := Eq.trans (congrArg Int32.toInt kq37) rfl
  have kz48 : ((I32 3 1) : Int32).toInt = (I5 3 1).toInt := e47
  have e49 : ((I32 1 13) : Int32).toInt = (I 1 13).toInt := Eq.trans (congrArg Int32.toInt (Eq.trans kq38 kq13)) rfl
  have kz50 : ((I32 1 13) : Int32).toInt = (I 1 13).toInt := e49
  have e51 : ((I32 97 23) : Int32).toInt = (I 97 23).toInt := Eq.trans (congrArg Int32.toInt (Eq.trans kq39 kq14)) rfl
  have kz52 : ((I32 97 23) : Int32).toInt = (I 97 23).toInt := e51
  have hr53 := HB.eq (fl_bd hB0).2 w18.1 w43.1
  have hg54 : (x31 : Int32).toInt = (x3 : Int32).toInt := congrArg Int32.toInt hr53
  have hr55 := RM.bak (fl_bd hB0).2 hR0 hRM w19 w44
  exact hN _ _ R7 hB34 hR9 (hL10 hF0) ⟨(by have ya : ((I32 3 1) : Int32).toInt = (I5 3 1).toInt := e47; have yb : ((I32 97 8) : Int32).toInt = (I32 97 8).toInt := rfl; first | exact Int.le_of_eq (ya.trans yb) | exact ya.trans yb | omega), (Eq.trans (e49) (Eq.trans hL1 (Eq.symm (e51)))), (RT.kp (RT.kp hL2 k15 k16) k40 k41), trivial⟩ (R3.kp (R3.kp hR3 w18.2 (HB.le (b31.1) w18.1)) w43.2.1 (Int.le_of_eq (congrArg Int32.toInt w43.2.2))) hr55 trivial
set_option maxRecDepth 100000 in
set_option maxHeartbeats 2000000 in
theorem lc_9 {Q : Nat → Qt} {P : Kt} {L : Nat} {xs : Nat → Int32} (hc : Cl (AM 640) false true L xs 2 112 kL_law Q P) (hL : L ≤ 3584) {v3 : Int32} {I : Im} {J : Jm} {R : Rm} (hB0 : Bd I) (hR0 : RI R) (hF0 : Fl R) (hL0 : (I 3 1).toInt = (I 97 8).toInt) (hL1 : (I 1 13).toInt = (I 97 23).toInt) (hL2 : RT I) (hL3 : True) (hR3 : R3 I J) (hRM : RM I J R) (hFQ : True) (h0 : 0 ≤ v3.toInt) (h7 : v3.toInt + 7 ≤ (L : Int)) (hN : ∀ (I : Im) (J : Jm) (R : Rm), Bd I → RI R → Fl R → RLz I → R3 I J → RM I J R → True → P 1889 112 [(0, .ref 0), (1, .ref 1), (2, .ref 97), (3, .int v3)] [] I J R) : P 581 112 [(0, .ref 0), (1, .ref 1), (2, .ref 97), (3, .int v3)] [] I J R := by
  have i_v3 := i32 v3
  have e97 : I 97 8 = nI (fl I) := (Int32.toInt_inj.mp hL0).symm.trans (fl_bd hB0).1
  have b31 := Bd.o hB0 io9_112_3_6 bd9_6_1
  refine ls_581 hc v3 _ _ _ ?_
  have e1 : ((v3 + 1) : Int32).toInt = (v3.toInt) + (1) := ti_add rfl rfl (by omega)
  refine ⟨vp_of (a := (v3.toInt + 1)) e1 (by omega) (by omega), ?_⟩
  have z2 := i32 (xs (Int32.toNatClampNeg (v3 + 1)))
  refine ⟨⟨hF0, rfl⟩, ?_⟩
  refine kt7 rfl (kpA rfl (kpnm rfl hR0 rfl (kp102 rfl hR0 rfl (kp6 rfl hR0 rfl (kp4 rfl (kp5 rfl hR0 rfl (kp1 rfl (kp2 rfl (kp3 rfl (sp_X11_days hB0 hR0 (fun x3 y4 I5 J6 R7 hB8 hR9 hL10 p11 rr22 kq14 kq13 kq12 k16 k15 k17 w21 w20 w19 w18 => ?_)))))))))))
  have b23 := Bd.o hB8 io9_112_3_6 bd9_6_1
  have b24 := Bd.o hB0 io9_112_97_12 bd9_12_8
  have e25 : ((I5 97 8) : Int32).toInt = (I 97 8).toInt := Eq.trans (congrArg Int32.toInt kq12) rfl
  have kz26 : ((I5 97 8) : Int32).toInt = (I 97 8).toInt := e25
  have b27 := Bd.o hB0 io9_112_1_11 bd9_11_13
  have e28 : ((I5 1 13) : Int32).toInt = (I 1 13).toInt := Eq.trans (congrArg Int32.toInt kq13) rfl
  have kz29 : ((I5 1 13) : Int32).toInt = (I 1 13).toInt := e28
  have b30 := Bd.o hB0 io9_112_97_12 bd9_12_23
  have e31 : ((I5 97 23) : Int32).toInt = (I 97 23).toInt := Eq.trans (congrArg Int32.toInt kq14) rfl
  have kz32 : ((I5 97 23) : Int32).toInt = (I 97 23).toInt := e31
  refine ⟨vp_of (a := (v3.toInt + 1)) e1 (by omega) (by omega), ?_⟩
  have z33 := i32 (xs (Int32.toNatClampNeg (v3 + 1)))
  refine ⟨⟨(hL10 hF0), rfl⟩, ?_⟩
  refine kt7 rfl (kpA rfl (kpnm rfl hR9 rfl (kp6 rfl hR9 rfl (kp4 rfl (kp5 rfl hR9 rfl (kp0 rfl (kp2 rfl (kp3 rfl (sp_X12_days hB8 hR9 (fun x34 y39 I35 J36 hB37 p38 kq42 kq41 kq40 k44 k43 k45 w48 w47 w46 => ?_))))))))))
  have f49 : Fr pK I5 I35 := p38.1
  have b50 := Bd.o hB37 io9_112_97_12 bd9_12_8
  have i51 := i32 x34
  have e52 : ((I35 3 1) : Int32).toInt = (I5 3 1).toInt := Eq.trans (congrArg Int32.toInt kq40) rfl
  have kz53 : ((I35 3 1) : Int32).toInt = (I5 3 1).toInt := e52
  have e54 : ((I35 1 13) : Int32).toInt = (I 1 13).toInt := Eq.trans (congrArg Int32.toInt (Eq.trans kq41 kq13)) rfl
  have kz55 : ((I35 1 13) : Int32).toInt = (I 1 13).toInt := e54
  have e56 : ((I35 97 23) : Int32).toInt = (I 97 23).toInt := Eq.trans (congrArg Int32.toInt (Eq.trans kq42 kq14)) rfl
  have kz57 : ((I35 97 23) : Int32).toInt = (I 97 23).toInt := e56
  exact hN _ _ R7 hB37 hR9 (hL10 hF0) ⟨(by have ya : ((I35 3 1) : Int32).toInt = (I5 3 1).toInt := e52; have yb : ((I35 97 8) : Int32).toInt = (I35 97 8).toInt := rfl; first | exact Int.le_of_eq (ya.trans yb) | exact ya.trans yb | omega), (Eq.trans (e54) (Eq.trans hL1 (Eq.symm (e56)))), (RT.kp (RT.kp hL2 k15 k16) k43 k44), trivial⟩ (R3.kp (R3.kp hR3 w18 (by have := p11; omega)) w46 (by have ya : ((I35 3 1) : Int32).toInt = (I5 3 1).toInt := e52; have yb : ((I5 3 1) : Int32).toInt = (I5 3 1).toInt := rfl; first | exact Int.le_of_eq (ya.trans yb) | exact ya.trans yb | omega)) (RM.kp hR9 (RM.r (RM.kp hR0 hRM ⟨w19, w20, (fun j _ => congrFun w21.1 j)⟩) rr22.1) ⟨w47, w48, (fun j hj => f49.1 j hj)⟩) trivial
set_option maxRecDepth 100000 in
set_option maxHeartbeats 2000000 in
theorem lc_10 {Q : Nat → Qt} {P : Kt} {L : Nat} {xs : Nat → Int32} (hc : Cl (AM 640) false true L xs 2 112 kL_law Q P) (hL : L ≤ 3584) {v3 : Int32} {I : Im} {J : Jm} {R : Rm} (hB0 : Bd I) (hR0 : RI R) (hF0 : Fl R) (hL0 : (I 3 1).toInt = (I 97 8).toInt) (hL1 : (I 1 13).toInt = (I 97 23).toInt) (hL2 : RT I) (hL3 : True) (hR3 : R3 I J) (hRM : RM I J R) (hFQ : True) (h0 : 0 ≤ v3.toInt) (h7 : v3.toInt + 7 ≤ (L : Int)) (hN : ∀ (I : Im) (J : Jm) (R : Rm), Bd I → RI R → Fl R → RLz I → R3 I J → RM I J R → True → P 1889 112 [(0, .ref 0), (1, .ref 1), (2, .ref 97), (3, .int v3)] [] I J R) : P 604 112 [(0, .ref 0), (1, .ref 1), (2, .ref 97), (3, .int v3)] [] I J R := by
  have i_v3 := i32 v3
  have e97 : I 97 8 = nI (fl I) := (Int32.toInt_inj.mp hL0).symm.trans (fl_bd hB0).1
  have b31 := Bd.o hB0 io9_112_3_6 bd9_6_1
  refine ls_604 hc v3 _ _ _ ?_
  have e1 : ((v3 + 1) : Int32).toInt = (v3.toInt) + (1) := ti_add rfl rfl (by omega)
  refine ⟨vp_of (a := (v3.toInt + 1)) e1 (by omega) (by omega), ?_⟩
  have z2 := i32 (xs (Int32.toNatClampNeg (v3 + 1)))
  refine ⟨⟨hF0, rfl⟩, ?_⟩
  refine kp7 rfl hR0 rfl (kpA rfl (kpnm rfl hR0 rfl (kp102 rfl hR0 rfl (kp6 rfl hR0 rfl (kp4 rfl (kp5 rfl hR0 rfl (kp0 rfl (kp1 rfl (kp2 rfl (kp3 rfl (sp_X11_fault hB0 hR0 (fun x3 y8 I4 J5 hB6 p7 kq12 kq11 kq10 kq9 k14 k13 k15 w19 w18 w17 w16 => ?_))))))))))))
  have i20 := i32 x3
  have b21 := Bd.o hB0 io9_112_3_6 bd9_6_1
  have e22 : ((I4 3 1) : Int32).toInt = (I 3 1).toInt := Eq.trans (congrArg Int32.toInt kq9) rfl
  have kz23 : ((I4 3 1) : Int32).toInt = (I 3 1).toInt := e22
  have b24 := Bd.o hB0 io9_112_97_12 bd9_12_8
  have e25 : ((I4 97 8) : Int32).toInt = (I 97 8).toInt := Eq.trans (congrArg Int32.toInt kq10) rfl
  have kz26 : ((I4 97 8) : Int32).toInt = (I 97 8).toInt := e25
  have b27 := Bd.o hB0 io9_112_1_11 bd9_11_13
  have e28 : ((I4 1 13) : Int32).toInt = (I 1 13).toInt := Eq.trans (congrArg Int32.toInt kq11) rfl
  have kz29 : ((I4 1 13) : Int32).toInt = (I 1 13).toInt := e28
  have b30 := Bd.o hB0 io9_112_97_12 bd9_12_23
  have e31 : ((I4 97 23) : Int32).toInt = (I 97 23).toInt := Eq.trans (congrArg Int32.toInt kq12) rfl
  have kz32 : ((I4 97 23) : Int32).toInt = (I 97 23).toInt := e31
  refine ⟨vp_of (a := (v3.toInt + 1)) e1 (by omega) (by omega), ?_⟩
  have z33 := i32 (xs (Int32.toNatClampNeg (v3 + 1)))
  refine ⟨⟨hF0, rfl⟩, ?_⟩
  refine kp7 rfl hR0 rfl (kpA rfl (kpnm rfl hR0 rfl (kp102 rfl hR0 rfl (kp6 rfl hR0 rfl (kp4 rfl (kp5 rfl hR0 rfl (kp0 rfl (kp1 rfl (kp2 rfl (kp3 rfl (sp_X12_fault hB6 hR0 (fun x34 y39 I35 J36 hB37 p38 kq43 kq42 kq41 kq40 k45 k44 k46 w50 w49 w48 w47 => ?_))))))))))))
  have i51 := i32 x34
  have e52 : ((I35 3 1) : Int32).toInt = (I 3 1).toInt := Eq.trans (congrArg Int32.toInt (Eq.trans kq40 kq9)) rfl
  have kz53 : ((I35 3 1) : Int32).toInt = (I 3 1).toInt := e52
  have e54 : ((I35 97 8) : Int32).toInt = (I 97 8).toInt := Eq.trans (congrArg Int32.toInt (Eq.trans kq41 kq10)) rfl
  have kz55 : ((I35 97 8) : Int32).toInt = (I 97 8).toInt := e54
  have e56 : ((I35 1 13) : Int32).toInt = (I 1 13).toInt := Eq.trans (congrArg Int32.toInt (Eq.trans kq42 kq11)) rfl
  have kz57 : ((I35 1 13) : Int32).toInt = (I 1 13).toInt := e56
  have e58 : ((I35 97 23) : Int32).toInt = (I 97 23).toInt := Eq.trans (congrArg Int32.toInt (Eq.trans kq43 kq12)) rfl
  have kz59 : ((I35 97 23) : Int32).toInt = (I 97 23).toInt := e58
  exact hN _ _ R hB37 hR0 hF0 ⟨(Eq.trans (e52) (Eq.trans hL0 (Eq.symm (e54)))), (Eq.trans (e56) (Eq.trans hL1 (Eq.symm (e58)))), (RT.kp (RT.kp hL2 k13 k14) k44 k45), trivial⟩ (R3.kp (R3.kp hR3 w16 (by have ya : ((I4 3 1) : Int32).toInt = (I 3 1).toInt := e22; have yb : ((I 3 1) : Int32).toInt = (I 3 1).toInt := rfl; first | exact Int.le_of_eq (ya.trans yb) | exact ya.trans yb | omega)) w47 (by have ya : ((I35 3 1) : Int32).toInt = (I 3 1).toInt := e52; have yb : ((I4 3 1) : Int32).toInt = (I 3 1).toInt := e22; first | exact Int.le_of_eq (ya.trans yb) | exact ya.trans yb | omega)) (RM.kp hR0 (RM.kp hR0 hRM ⟨w17, w18, (fun j _ => congrFun w19.1 j)⟩) ⟨w48, w49, (fun j _ => congrFun w50.1 j)⟩) trivial
set_option maxRecDepth 100000 in
set_option maxHeartbeats 2000000 in
theorem lc_11 {Q : Nat → Qt} {P : Kt} {L : Nat} {xs : Nat → Int32} (hc : Cl (AM 640) false true L xs 2 112 kL_law Q P) (hL : L ≤ 3584) {v3 : Int32} {I : Im} {J : Jm} {R : Rm} (hB0 : Bd I) (hR0 : RI R) (hF0 : Fl R) (hL0 : (I 3 1).toInt = (I 97 8).toInt) (hL1 : (I 1 13).toInt = (I 97 23).toInt) (hL2 : RT I) (hL3 : True) (hR3 : R3 I J) (hRM : RM I J R) (hFQ : True) (h0 : 0 ≤ v3.toInt) (h7 : v3.toInt + 7 ≤ (L : Int)) (hN : ∀ (I : Im) (J : Jm) (R : Rm), Bd I → RI R → Fl R → RLz I → R3 I J → RM I J R → True → P 1889 112 [(0, .ref 0), (1, .ref 1), (2, .ref 97), (3, .int v3)] [] I J R) : P 627 112 [(0, .ref 0), (1, .ref 1), (2, .ref 97), (3, .int v3)] [] I J R := by
  have i_v3 := i32 v3
  have e97 : I 97 8 = nI (fl I) := (Int32.toInt_inj.mp hL0).symm.trans (fl_bd hB0).1
  have b31 := Bd.o hB0 io9_112_3_6 bd9_6_1
  refine ls_627 hc v3 _ _ _ ?_
  have e1 : ((v3 + 1) : Int32).toInt = (v3.toInt) + (1) := ti_add rfl rfl (by omega)
  refine ⟨vp_of (a := (v3.toInt + 1)) e1 (by omega) (by omega), ?_⟩
  have z2 := i32 (xs (Int32.toNatClampNeg (v3 + 1)))
  refine ⟨⟨hF0, rfl⟩, ?_⟩
  refine kp7 rfl hR0 rfl (kpA rfl (kpnm rfl hR0 rfl (kp102 rfl hR0 rfl (kp6 rfl hR0 rfl (kp4 rfl (kp5 rfl hR0 rfl (kp0 rfl (kp1 rfl (kp2 rfl (kp3 rfl (sp_X11_many hB0 hR0 (fun x3 y8 I4 J5 hB6 p7 kq12 kq11 kq10 kq9 k14 k13 k15 w19 w18 w17 w16 => ?_))))))))))))
  have i20 := i32 x3
  have b21 := Bd.o hB0 io9_112_3_6 bd9_6_1
  have e22 : ((I4 3 1) : Int32).toInt = (I 3 1).toInt := Eq.trans (congrArg Int32.toInt kq9) rfl
  have kz23 : ((I4 3 1) : Int32).toInt = (I 3 1).toInt := e22
  have b24 := Bd.o hB0 io9_112_97_12 bd9_12_8
  have e25 : ((I4 97 8) : Int32).toInt = (I 97 8).toInt := Eq.trans (congrArg Int32.toInt kq10) rfl
  have kz26 : ((I4 97 8) : Int32).toInt = (I 97 8).toInt := e25
  have b27 := Bd.o hB0 io9_112_1_11 bd9_11_13
  have e28 : ((I4 1 13) : Int32).toInt = (I 1 13).toInt := Eq.trans (congrArg Int32.toInt kq11) rfl
  have kz29 : ((I4 1 13) : Int32).toInt = (I 1 13).toInt := e28
  have b30 := Bd.o hB0 io9_112_97_12 bd9_12_23
  have e31 : ((I4 97 23) : Int32).toInt = (I 97 23).toInt := Eq.trans (congrArg Int32.toInt kq12) rfl
  have kz32 : ((I4 97 23) : Int32).toInt = (I 97 23).toInt := e31
  refine ⟨vp_of (a := (v3.toInt + 1)) e1 (by omega) (by omega), ?_⟩
  have z33 := i32 (xs (Int32.toNatClampNeg (v3 + 1)))
  refine ⟨⟨hF0, rfl⟩, ?_⟩
  refine kp7 rfl hR0 rfl (kpA rfl (kpnm rfl hR0 rfl (kti rfl (kp6 rfl hR0 rfl (kp4 rfl (kp5 rfl hR0 rfl (kp0 rfl (kp1 rfl (kp2 rfl (kp3 rfl (sp_X12_many hB6 hR0 (fun x34 y39 I35 J36 hB37 p38 kq43 kq42 kq41 kq40 k45 k44 k46 w50 w49 w48 w47 => ?_))))))))))))
  have i51 := i32 x34
  have e52 : ((I35 3 1) : Int32).toInt = (I 3 1).toInt := Eq.trans (congrArg Int32.toInt (Eq.trans kq40 kq9)) rfl
  have kz53 : ((I35 3 1) : Int32).toInt = (I 3 1).toInt := e52
  have e54 : ((I35 97 8) : Int32).toInt = (I 97 8).toInt := Eq.trans (congrArg Int32.toInt (Eq.trans kq41 kq10)) rfl
  have kz55 : ((I35 97 8) : Int32).toInt = (I 97 8).toInt := e54
  have e56 : ((I35 1 13) : Int32).toInt = (I 1 13).toInt := Eq.trans (congrArg Int32.toInt (Eq.trans kq42 kq11)) rfl
  have kz57 : ((I35 1 13) : Int32).toInt = (I 1 13).toInt := e56
  have e58 : ((I35 97 23) : Int32).toInt = (I 97 23).toInt := Eq.trans (congrArg Int32.toInt (Eq.trans kq43 kq12)) rfl
  have kz59 : ((I35 97 23) : Int32).toInt = (I 97 23).toInt := e58
  exact hN _ _ R hB37 hR0 hF0 ⟨(Eq.trans (e52) (Eq.trans hL0 (Eq.symm (e54)))), (Eq.trans (e56) (Eq.trans hL1 (Eq.symm (e58)))), (RT.kp (RT.kp hL2 k13 k14) k44 k45), trivial⟩ (R3.kp (R3.kp hR3 w16 (by have ya : ((I4 3 1) : Int32).toInt = (I 3 1).toInt := e22; have yb : ((I 3 1) : Int32).toInt = (I 3 1).toInt := rfl; first | exact Int.le_of_eq (ya.trans yb) | exact ya.trans yb | omega)) w47 (by have ya : ((I35 3 1) : Int32).toInt = (I 3 1).toInt := e52; have yb : ((I4 3 1) : Int32).toInt = (I 3 1).toInt := e22; first | exact Int.le_of_eq (ya.trans yb) | exact ya.trans yb | omega)) (RM.kp hR0 (RM.kp hR0 hRM ⟨w17, w18, (fun j _ => congrFun w19.1 j)⟩) ⟨w48, w49, (fun j _ => congrFun w50 j)⟩) trivial
set_option maxRecDepth 100000 in
set_option maxHeartbeats 2000000 in
theorem lc_12 {Q : Nat → Qt} {P : Kt} {L : Nat} {xs : Nat → Int32} (hc : Cl (AM 640) false true L xs 2 112 kL_law Q P) (hL : L ≤ 3584) {v3 : Int32} {I : Im} {J : Jm} {R : Rm} (hB0 : Bd I) (hR0 : RI R) (hF0 : Fl R) (hL0 : (I 3 1).toInt = (I 97 8).toInt) (hL1 : (I 1 13).toInt = (I 97 23).toInt) (hL2 : RT I) (hL3 : True) (hR3 : R3 I J) (hRM : RM I J R) (hFQ : True) (h0 : 0 ≤ v3.toInt) (h7 : v3.toInt + 7 ≤ (L : Int)) (hN : ∀ (I : Im) (J : Jm) (R : Rm), Bd I → RI R → Fl R → RLz I → R3 I J → RM I J R → True → P 1889 112 [(0, .ref 0), (1, .ref 1), (2, .ref 97), (3, .int v3)] [] I J R) : P 650 112 [(0, .ref 0), (1, .ref 1), (2, .ref 97), (3, .int v3)] [] I J R := by
  have i_v3 := i32 v3
  have e97 : I 97 8 = nI (fl I) := (Int32.toInt_inj.mp hL0).symm.trans (fl_bd hB0).1
  have b31 := Bd.o hB0 io9_112_3_6 bd9_6_1
  refine ls_650 hc v3 _ _ _ ?_
  have e1 : ((v3 + 1) : Int32).toInt = (v3.toInt) + (1) := ti_add rfl rfl (by omega)
  refine ⟨vp_of (a := (v3.toInt + 1)) e1 (by omega) (by omega), ?_⟩
  have z2 := i32 (xs (Int32.toNatClampNeg (v3 + 1)))
  refine ⟨⟨hF0, rfl⟩, ?_⟩
  refine kp7 rfl hR0 rfl (kpA rfl (kpnm rfl hR0 rfl (kp102 rfl hR0 rfl (kp6 rfl hR0 rfl (kp4 rfl (kp5 rfl hR0 rfl (kp0 rfl (kp1 rfl (kp2 rfl (kp3 rfl (sp_X11_store hB0 hR0 (fun x3 y8 I4 J5 hB6 p7 kq12 kq11 kq10 kq9 k14 k13 k15 w19 w18 w17 w16 => ?_))))))))))))
  have i20 := i32 x3
  have b21 := Bd.o hB0 io9_112_3_6 bd9_6_1
  have e22 : ((I4 3 1) : Int32).toInt = (I 3 1).toInt := Eq.trans (congrArg Int32.toInt kq9) rfl
  have kz23 : ((I4 3 1) : Int32).toInt = (I 3 1).toInt := e22
  have b24 := Bd.o hB0 io9_112_97_12 bd9_12_8
  have e25 : ((I4 97 8) : Int32).toInt = (I 97 8).toInt := Eq.trans (congrArg Int32.toInt kq10) rfl
  have kz26 : ((I4 97 8) : Int32).toInt = (I 97 8).toInt := e25
  have b27 := Bd.o hB0 io9_112_1_11 bd9_11_13
  have e28 : ((I4 1 13) : Int32).toInt = (I 1 13).toInt := Eq.trans (congrArg Int32.toInt kq11) rfl
  have kz29 : ((I4 1 13) : Int32).toInt = (I 1 13).toInt := e28
  have b30 := Bd.o hB0 io9_112_97_12 bd9_12_23
  have e31 : ((I4 97 23) : Int32).toInt = (I 97 23).toInt := Eq.trans (congrArg Int32.toInt kq12) rfl
  have kz32 : ((I4 97 23) : Int32).toInt = (I 97 23).toInt := e31
  refine ⟨vp_of (a := (v3.toInt + 1)) e1 (by omega) (by omega), ?_⟩
  have z33 := i32 (xs (Int32.toNatClampNeg (v3 + 1)))
  refine ⟨⟨hF0, rfl⟩, ?_⟩
  refine kp7 rfl hR0 rfl (kpA rfl (kpnm rfl hR0 rfl (kti rfl (kp6 rfl hR0 rfl (kp4 rfl (kp5 rfl hR0 rfl (kp0 rfl (kp1 rfl (kp2 rfl (kp3 rfl (sp_X12_store hB6 hR0 (fun x34 y39 I35 J36 hB37 p38 kq43 kq42 kq41 kq40 k45 k44 k46 w50 w49 w48 w47 => ?_))))))))))))
  have i51 := i32 x34
  have e52 : ((I35 3 1) : Int32).toInt = (I 3 1).toInt := Eq.trans (congrArg Int32.toInt (Eq.trans kq40 kq9)) rfl
  have kz53 : ((I35 3 1) : Int32).toInt = (I 3 1).toInt := e52
  have e54 : ((I35 97 8) : Int32).toInt = (I 97 8).toInt := Eq.trans (congrArg Int32.toInt (Eq.trans kq41 kq10)) rfl
  have kz55 : ((I35 97 8) : Int32).toInt = (I 97 8).toInt := e54
  have e56 : ((I35 1 13) : Int32).toInt = (I 1 13).toInt := Eq.trans (congrArg Int32.toInt (Eq.trans kq42 kq11)) rfl
  have kz57 : ((I35 1 13) : Int32).toInt = (I 1 13).toInt := e56
  have e58 : ((I35 97 23) : Int32).toInt = (I 97 23).toInt := Eq.trans (congrArg Int32.toInt (Eq.trans kq43 kq12)) rfl
  have kz59 : ((I35 97 23) : Int32).toInt = (I 97 23).toInt := e58
  exact hN _ _ R hB37 hR0 hF0 ⟨(Eq.trans (e52) (Eq.trans hL0 (Eq.symm (e54)))), (Eq.trans (e56) (Eq.trans hL1 (Eq.symm (e58)))), (RT.kp (RT.kp hL2 k13 k14) k44 k45), trivial⟩ (R3.kp (R3.kp hR3 w16 (by have ya : ((I4 3 1) : Int32).toInt = (I 3 1).toInt := e22; have yb : ((I 3 1) : Int32).toInt = (I 3 1).toInt := rfl; first | exact Int.le_of_eq (ya.trans yb) | exact ya.trans yb | omega)) w47 (by have ya : ((I35 3 1) : Int32).toInt = (I 3 1).toInt := e52; have yb : ((I4 3 1) : Int32).toInt = (I 3 1).toInt := e22; first | exact Int.le_of_eq (ya.trans yb) | exact ya.trans yb | omega)) (RM.kp hR0 (RM.kp hR0 hRM ⟨w17, w18, (fun j _ => congrFun w19.1 j)⟩) ⟨w48, w49, (fun j _ => congrFun w50 j)⟩) trivial
set_option maxRecDepth 100000 in
set_option maxHeartbeats 2000000 in
theorem lc_13 {Q : Nat → Qt} {P : Kt} {L : Nat} {xs : Nat → Int32} (hc : Cl (AM 640) false true L xs 2 112 kL_law Q P) (hL : L ≤ 3584) {v3 : Int32} {I : Im} {J : Jm} {R : Rm} (hB0 : Bd I) (hR0 : RI R) (hF0 : Fl R) (hL0 : (I 3 1).toInt = (I 97 8).toInt) (hL1 : (I 1 13).toInt = (I 97 23).toInt) (hL2 : RT I) (hL3 : True) (hR3 : R3 I J) (hRM : RM I J R) (hFQ : True) (h0 : 0 ≤ v3.toInt) (h7 : v3.toInt + 7 ≤ (L : Int)) (hN : ∀ (I : Im) (J : Jm) (R : Rm), Bd I → RI R → Fl R → RLz I → R3 I J → RM I J R → True → P 1889 112 [(0, .ref 0), (1, .ref 1), (2, .ref 97), (3, .int v3)] [] I J R) : P 673 112 [(0, .ref 0), (1, .ref 1), (2, .ref 97), (3, .int v3)] [] I J R := by
  have i_v3 := i32 v3
  have e97 : I 97 8 = nI (fl I) := (Int32.toInt_inj.mp hL0).symm.trans (fl_bd hB0).1
  have b31 := Bd.o hB0 io9_112_3_6 bd9_6_1
  refine ls_673 hc v3 _ _ _ ?_
  have e1 : ((v3 + 1) : Int32).toInt = (v3.toInt) + (1) := ti_add rfl rfl (by omega)
  refine ⟨vp_of (a := (v3.toInt + 1)) e1 (by omega) (by omega), ?_⟩
  have z2 := i32 (xs (Int32.toNatClampNeg (v3 + 1)))
  have e3 : ((v3 + 2) : Int32).toInt = (v3.toInt) + (2) := ti_add rfl rfl (by omega)
  refine ⟨vp_of (a := (v3.toInt + 2)) e3 (by omega) (by omega), ?_⟩
  have z4 := i32 (xs (Int32.toNatClampNeg (v3 + 2)))
  refine ⟨⟨hF0, rfl⟩, ?_⟩
  refine kp7 rfl hR0 rfl (kpA rfl (kpnm rfl hR0 rfl (kp102 rfl hR0 rfl (kp6 rfl hR0 rfl (kp4 rfl (kp5 rfl hR0 rfl (kp0 rfl (kp1 rfl (kp2 rfl (kp3 rfl (sp_X11_man hB0 hR0 (fun x5 y10 I6 J7 hB8 p9 kq14 kq13 kq12 kq11 k16 k15 k17 w21 w20 w19 w18 => ?_))))))))))))
  have i22 := i32 x5
  have b23 := Bd.o hB0 io9_112_3_6 bd9_6_1
  have e24 : ((I6 3 1) : Int32).toInt = (I 3 1).toInt := Eq.trans (congrArg Int32.toInt kq11) rfl
  have kz25 : ((I6 3 1) : Int32).toInt = (I 3 1).toInt := e24
  have b26 := Bd.o hB0 io9_112_97_12 bd9_12_8
  have e27 : ((I6 97 8) : Int32).toInt = (I 97 8).toInt := Eq.trans (congrArg Int32.toInt kq12) rfl
  have kz28 : ((I6 97 8) : Int32).toInt = (I 97 8).toInt := e27
  have b29 := Bd.o hB0 io9_112_1_11 bd9_11_13
  have e30 : ((I6 1 13) : Int32).toInt = (I 1 13).toInt := Eq.trans (congrArg Int32.toInt kq13) rfl
  have kz31 : ((I6 1 13) : Int32).toInt = (I 1 13).toInt := e30
  have b32 := Bd.o hB0 io9_112_97_12 bd9_12_23
  have e33 : ((I6 97 23) : Int32).toInt = (I 97 23).toInt := Eq.trans (congrArg Int32.toInt kq14) rfl
  have kz34 : ((I6 97 23) : Int32).toInt = (I 97 23).toInt := e33
  refine ⟨vp_of (a := (v3.toInt + 1)) e1 (by omega) (by omega), ?_⟩
  have z35 := i32 (xs (Int32.toNatClampNeg (v3 + 1)))
  refine ⟨vp_of (a := (v3.toInt + 2)) e3 (by omega) (by omega), ?_⟩
  have z36 := i32 (xs (Int32.toNatClampNeg (v3 + 2)))
  refine ⟨⟨hF0, rfl⟩, ?_⟩
  refine kp7 rfl hR0 rfl (kpA rfl (kpnm rfl hR0 rfl (kti rfl (kp6 rfl hR0 rfl (kp4 rfl (kp5 rfl hR0 rfl (kp0 rfl (kp1 rfl (kp2 rfl (kp3 rfl (sp_X12_man hB8 hR0 (fun x37 y42 I38 J39 hB40 p41 kq46 kq45 kq44 kq43 k48 k47 k49 w53 w52 w51 w50 => ?_))))))))))))
  have i54 := i32 x37
  have e55 : ((I38 3 1) : Int32).toInt = (I 3 1).toInt := Eq.trans (congrArg Int32.toInt (Eq.trans kq43 kq11)) rfl
  have kz56 : ((I38 3 1) : Int32).toInt = (I 3 1).toInt := e55
  have e57 : ((I38 97 8) : Int32).toInt = (I 97 8).toInt := Eq.trans (congrArg Int32.toInt (Eq.trans kq44 kq12)) rfl
  have kz58 : ((I38 97 8) : Int32).toInt = (I 97 8).toInt := e57
  have e59 : ((I38 1 13) : Int32).toInt = (I 1 13).toInt := Eq.trans (congrArg Int32.toInt (Eq.trans kq45 kq13)) rfl
  have kz60 : ((I38 1 13) : Int32).toInt = (I 1 13).toInt := e59
  have e61 : ((I38 97 23) : Int32).toInt = (I 97 23).toInt := Eq.trans (congrArg Int32.toInt (Eq.trans kq46 kq14)) rfl
  have kz62 : ((I38 97 23) : Int32).toInt = (I 97 23).toInt := e61
  exact hN _ _ R hB40 hR0 hF0 ⟨(Eq.trans (e55) (Eq.trans hL0 (Eq.symm (e57)))), (Eq.trans (e59) (Eq.trans hL1 (Eq.symm (e61)))), (RT.kp (RT.kp hL2 k15 k16) k47 k48), trivial⟩ (R3.kp (R3.kp hR3 w18 (by have ya : ((I6 3 1) : Int32).toInt = (I 3 1).toInt := e24; have yb : ((I 3 1) : Int32).toInt = (I 3 1).toInt := rfl; first | exact Int.le_of_eq (ya.trans yb) | exact ya.trans yb | omega)) w50 (by have ya : ((I38 3 1) : Int32).toInt = (I 3 1).toInt := e55; have yb : ((I6 3 1) : Int32).toInt = (I 3 1).toInt := e24; first | exact Int.le_of_eq (ya.trans yb) | exact ya.trans yb | omega)) (RM.kp hR0 (RM.kp hR0 hRM ⟨w19, w20, (fun j _ => congrFun w21.1 j)⟩) ⟨w51, w52, (fun j _ => congrFun w53 j)⟩) trivial
set_option maxRecDepth 100000 in
set_option maxHeartbeats 2000000 in
theorem lc_14 {Q : Nat → Qt} {P : Kt} {L : Nat} {xs : Nat → Int32} (hc : Cl (AM 640) false true L xs 2 112 kL_law Q P) (hL : L ≤ 3584) {v3 : Int32} {I : Im} {J : Jm} {R : Rm} (hB0 : Bd I) (hR0 : RI R) (hF0 : Fl R) (hL0 : (I 3 1).toInt = (I 97 8).toInt) (hL1 : (I 1 13).toInt = (I 97 23).toInt) (hL2 : RT I) (hL3 : True) (hR3 : R3 I J) (hRM : RM I J R) (hFQ : True) (h0 : 0 ≤ v3.toInt) (h7 : v3.toInt + 7 ≤ (L : Int)) (hN : ∀ (I : Im) (J : Jm) (R : Rm), Bd I → RI R → Fl R → RLz I → R3 I J → RM I J R → True → P 1889 112 [(0, .ref 0), (1, .ref 1), (2, .ref 97), (3, .int v3)] [] I J R) : P 706 112 [(0, .ref 0), (1, .ref 1), (2, .ref 97), (3, .int v3)] [] I J R := by
  have i_v3 := i32 v3
  have e97 : I 97 8 = nI (fl I) := (Int32.toInt_inj.mp hL0).symm.trans (fl_bd hB0).1
  have b31 := Bd.o hB0 io9_112_3_6 bd9_6_1
  refine ls_706 hc v3 _ _ _ ?_
  have e1 : ((v3 + 1) : Int32).toInt = (v3.toInt) + (1) := ti_add rfl rfl (by omega)
  refine ⟨vp_of (a := (v3.toInt + 1)) e1 (by omega) (by omega), ?_⟩
  have z2 := i32 (xs (Int32.toNatClampNeg (v3 + 1)))
  refine ⟨⟨hF0, rfl⟩, ?_⟩
  refine kp7 rfl hR0 rfl (kpA rfl (kpnm rfl hR0 rfl (kp102 rfl hR0 rfl (kp6 rfl hR0 rfl (kp4 rfl (kp5 rfl hR0 rfl (kp0 rfl (kp1 rfl (kp2 rfl (kp3 rfl (sp_X11_has hB0 hR0 (fun x3 y8 I4 J5 hB6 p7 kq12 kq11 kq10 kq9 k14 k13 k15 w19 w18 w17 w16 => ?_))))))))))))
  intro o20
  have i21 := i32 x3
  have b22 := Bd.o hB0 io9_112_3_6 bd9_6_1
  have e23 : ((I4 3 1) : Int32).toInt = (I 3 1).toInt := Eq.trans (congrArg Int32.toInt kq9) rfl
  have kz24 : ((I4 3 1) : Int32).toInt = (I 3 1).toInt := e23
  have b25 := Bd.o hB0 io9_112_97_12 bd9_12_8
  have e26 : ((I4 97 8) : Int32).toInt = (I 97 8).toInt := Eq.trans (congrArg Int32.toInt kq10) rfl
  have kz27 : ((I4 97 8) : Int32).toInt = (I 97 8).toInt := e26
  have b28 := Bd.o hB0 io9_112_1_11 bd9_11_13
  have e29 : ((I4 1 13) : Int32).toInt = (I 1 13).toInt := Eq.trans (congrArg Int32.toInt kq11) rfl
  have kz30 : ((I4 1 13) : Int32).toInt = (I 1 13).toInt := e29
  have b31 := Bd.o hB0 io9_112_97_12 bd9_12_23
  have e32 : ((I4 97 23) : Int32).toInt = (I 97 23).toInt := Eq.trans (congrArg Int32.toInt kq12) rfl
  have kz33 : ((I4 97 23) : Int32).toInt = (I 97 23).toInt := e32
  refine ⟨vp_of (a := (v3.toInt + 1)) e1 (by omega) (by omega), ?_⟩
  have z34 := i32 (xs (Int32.toNatClampNeg (v3 + 1)))
  refine ⟨⟨hF0, rfl⟩, ?_⟩
  refine kp7 rfl hR0 rfl (kpA rfl (kpnm rfl hR0 rfl (kti rfl (kp6 rfl hR0 rfl (kp4 rfl (kp5 rfl hR0 rfl (kp0 rfl (kp1 rfl (kp2 rfl (kp3 rfl (sp_X12_has hB6 hR0 (fun x35 y40 I36 J37 hB38 p39 kq44 kq43 kq42 kq41 k46 k45 k47 w51 w50 w49 w48 => ?_))))))))))))
  intro o52
  have i53 := i32 x35
  have e54 : ((I36 3 1) : Int32).toInt = (I 3 1).toInt := Eq.trans (congrArg Int32.toInt (Eq.trans kq41 kq9)) rfl
  have kz55 : ((I36 3 1) : Int32).toInt = (I 3 1).toInt := e54
  have e56 : ((I36 97 8) : Int32).toInt = (I 97 8).toInt := Eq.trans (congrArg Int32.toInt (Eq.trans kq42 kq10)) rfl
  have kz57 : ((I36 97 8) : Int32).toInt = (I 97 8).toInt := e56
  have e58 : ((I36 1 13) : Int32).toInt = (I 1 13).toInt := Eq.trans (congrArg Int32.toInt (Eq.trans kq43 kq11)) rfl
  have kz59 : ((I36 1 13) : Int32).toInt = (I 1 13).toInt := e58
  have e60 : ((I36 97 23) : Int32).toInt = (I 97 23).toInt := Eq.trans (congrArg Int32.toInt (Eq.trans kq44 kq12)) rfl
  have kz61 : ((I36 97 23) : Int32).toInt = (I 97 23).toInt := e60
  exact hN _ _ R hB38 hR0 hF0 ⟨(Eq.trans (e54) (Eq.trans hL0 (Eq.symm (e56)))), (Eq.trans (e58) (Eq.trans hL1 (Eq.symm (e60)))), (RT.kp (RT.kp hL2 k13 k14) k45 k46), trivial⟩ (R3.kp (R3.kp hR3 w16 (by have ya : ((I4 3 1) : Int32).toInt = (I 3 1).toInt := e23; have yb : ((I 3 1) : Int32).toInt = (I 3 1).toInt := rfl; first | exact Int.le_of_eq (ya.trans yb) | exact ya.trans yb | omega)) w48 (by have ya : ((I36 3 1) : Int32).toInt = (I 3 1).toInt := e54; have yb : ((I4 3 1) : Int32).toInt = (I 3 1).toInt := e23; first | exact Int.le_of_eq (ya.trans yb) | exact ya.trans yb | omega)) (RM.kp hR0 (RM.kp hR0 hRM ⟨w17, w18, (fun j _ => congrFun w19.1 j)⟩) ⟨w49, w50, (fun j _ => congrFun w51 j)⟩) trivial
set_option maxRecDepth 100000 in
set_option maxHeartbeats 2000000 in
theorem lc_15 {Q : Nat → Qt} {P : Kt} {L : Nat} {xs : Nat → Int32} (hc : Cl (AM 640) false true L xs 2 112 kL_law Q P) (hL : L ≤ 3584) {v3 : Int32} {I : Im} {J : Jm} {R : Rm} (hB0 : Bd I) (hR0 : RI R) (hF0 : Fl R) (hL0 : (I 3 1).toInt = (I 97 8).toInt) (hL1 : (I 1 13).toInt = (I 97 23).toInt) (hL2 : RT I) (hL3 : True) (hR3 : R3 I J) (hRM : RM I J R) (hFQ : True) (h0 : 0 ≤ v3.toInt) (h7 : v3.toInt + 7 ≤ (L : Int)) (hN : ∀ (I : Im) (J : Jm) (R : Rm), Bd I → RI R → Fl R → RLz I → R3 I J → RM I J R → True → P 1889 112 [(0, .ref 0), (1, .ref 1), (2, .ref 97), (3, .int v3)] [] I J R) : P 729 112 [(0, .ref 0), (1, .ref 1), (2, .ref 97), (3, .int v3)] [] I J R := by
  have i_v3 := i32 v3
  have e97 : I 97 8 = nI (fl I) := (Int32.toInt_inj.mp hL0).symm.trans (fl_bd hB0).1
  have b31 := Bd.o hB0 io9_112_3_6 bd9_6_1
  refine ls_729 hc v3 _ _ _ ?_
  have e1 : ((v3 + 1) : Int32).toInt = (v3.toInt) + (1) := ti_add rfl rfl (by omega)
  refine ⟨vp_of (a := (v3.toInt + 1)) e1 (by omega) (by omega), ?_⟩
  have z2 := i32 (xs (Int32.toNatClampNeg (v3 + 1)))
  refine ⟨⟨hF0, rfl⟩, ?_⟩
  refine kp7 rfl hR0 rfl (kpA rfl (kpnm rfl hR0 rfl (kp102 rfl hR0 rfl (kp6 rfl hR0 rfl (kp4 rfl (kp5 rfl hR0 rfl (kp0 rfl (kp1 rfl (kp2 rfl (kp3 rfl (sp_X11_lacks hB0 hR0 (fun x3 y8 I4 J5 hB6 p7 kq12 kq11 kq10 kq9 k14 k13 k15 w19 w18 w17 w16 => ?_))))))))))))
  intro o20
  have i21 := i32 x3
  have b22 := Bd.o hB0 io9_112_3_6 bd9_6_1
  have e23 : ((I4 3 1) : Int32).toInt = (I 3 1).toInt := Eq.trans (congrArg Int32.toInt kq9) rfl
  have kz24 : ((I4 3 1) : Int32).toInt = (I 3 1).toInt := e23
  have b25 := Bd.o hB0 io9_112_97_12 bd9_12_8
  have e26 : ((I4 97 8) : Int32).toInt = (I 97 8).toInt := Eq.trans (congrArg Int32.toInt kq10) rfl
  have kz27 : ((I4 97 8) : Int32).toInt = (I 97 8).toInt := e26
  have b28 := Bd.o hB0 io9_112_1_11 bd9_11_13
  have e29 : ((I4 1 13) : Int32).toInt = (I 1 13).toInt := Eq.trans (congrArg Int32.toInt kq11) rfl
  have kz30 : ((I4 1 13) : Int32).toInt = (I 1 13).toInt := e29
  have b31 := Bd.o hB0 io9_112_97_12 bd9_12_23
  have e32 : ((I4 97 23) : Int32).toInt = (I 97 23).toInt := Eq.trans (congrArg Int32.toInt kq12) rfl
  have kz33 : ((I4 97 23) : Int32).toInt = (I 97 23).toInt := e32
  refine ⟨vp_of (a := (v3.toInt + 1)) e1 (by omega) (by omega), ?_⟩
  have z34 := i32 (xs (Int32.toNatClampNeg (v3 + 1)))
  refine ⟨⟨hF0, rfl⟩, ?_⟩
  refine kp7 rfl hR0 rfl (kpA rfl (kpnm rfl hR0 rfl (kp102 rfl hR0 rfl (kp6 rfl hR0 rfl (kp4 rfl (kp5 rfl hR0 rfl (kp0 rfl (kp1 rfl (kp2 rfl (kp3 rfl (sp_X12_lacks hB6 hR0 (fun x35 y40 I36 J37 hB38 p39 kq44 kq43 kq42 kq41 k46 k45 k47 w51 w50 w49 w48 => ?_))))))))))))
  intro o52
  have i53 := i32 x35
  have e54 : ((I36 3 1) : Int32).toInt = (I 3 1).toInt := Eq.trans (congrArg Int32.toInt (Eq.trans kq41 kq9)) rfl
  have kz55 : ((I36 3 1) : Int32).toInt = (I 3 1).toInt := e54
  have e56 : ((I36 97 8) : Int32).toInt = (I 97 8).toInt := Eq.trans (congrArg Int32.toInt (Eq.trans kq42 kq10)) rfl
  have kz57 : ((I36 97 8) : Int32).toInt = (I 97 8).toInt := e56
  have e58 : ((I36 1 13) : Int32).toInt = (I 1 13).toInt := Eq.trans (congrArg Int32.toInt (Eq.trans kq43 kq11)) rfl
  have kz59 : ((I36 1 13) : Int32).toInt = (I 1 13).toInt := e58
  have e60 : ((I36 97 23) : Int32).toInt = (I 97 23).toInt := Eq.trans (congrArg Int32.toInt (Eq.trans kq44 kq12)) rfl
  have kz61 : ((I36 97 23) : Int32).toInt = (I 97 23).toInt := e60
  exact hN _ _ R hB38 hR0 hF0 ⟨(Eq.trans (e54) (Eq.trans hL0 (Eq.symm (e56)))), (Eq.trans (e58) (Eq.trans hL1 (Eq.symm (e60)))), (RT.kp (RT.kp hL2 k13 k14) k45 k46), trivial⟩ (R3.kp (R3.kp hR3 w16 (by have ya : ((I4 3 1) : Int32).toInt = (I 3 1).toInt := e23; have yb : ((I 3 1) : Int32).toInt = (I 3 1).toInt := rfl; first | exact Int.le_of_eq (ya.trans yb) | exact ya.trans yb | omega)) w48 (by have ya : ((I36 3 1) : Int32).toInt = (I 3 1).toInt := e54; have yb : ((I4 3 1) : Int32).toInt = (I 3 1).toInt := e23; first | exact Int.le_of_eq (ya.trans yb) | exact ya.trans yb | omega)) (RM.kp hR0 (RM.kp hR0 hRM ⟨w17, w18, (fun j _ => congrFun w19.1 j)⟩) ⟨w49, w50, (fun j _ => congrFun w51.1 j)⟩) trivial
set_option maxRecDepth 100000 in
set_option maxHeartbeats 2000000 in
theorem lc_16 {Q : Nat → Qt} {P : Kt} {L : Nat} {xs : Nat → Int32} (hc : Cl (AM 640) false true L xs 2 112 kL_law Q P) (hL : L ≤ 3584) {v3 : Int32} {I : Im} {J : Jm} {R : Rm} (hB0 : Bd I) (hR0 : RI R) (hF0 : Fl R) (hL0 : (I 3 1).toInt = (I 97 8).toInt) (hL1 : (I 1 13).toInt = (I 97 23).toInt) (hL2 : RT I) (hL3 : True) (hR3 : R3 I J) (hRM : RM I J R) (hFQ : True) (h0 : 0 ≤ v3.toInt) (h7 : v3.toInt + 7 ≤ (L : Int)) (hN : ∀ (I : Im) (J : Jm) (R : Rm), Bd I → RI R → Fl R → RLz I → R3 I J → RM I J R → True → P 1889 112 [(0, .ref 0), (1, .ref 1), (2, .ref 97), (3, .int v3)] [] I J R) : P 752 112 [(0, .ref 0), (1, .ref 1), (2, .ref 97), (3, .int v3)] [] I J R := by
  have i_v3 := i32 v3
  have e97 : I 97 8 = nI (fl I) := (Int32.toInt_inj.mp hL0).symm.trans (fl_bd hB0).1
  have b31 := Bd.o hB0 io9_112_3_6 bd9_6_1
  refine ls_752 hc v3 _ _ _ ?_
  refine ⟨⟨hF0, rfl⟩, ?_⟩
  refine kp7 rfl hR0 rfl (kpA rfl (kpnm rfl hR0 rfl (kp102 rfl hR0 rfl (kp6 rfl hR0 rfl (kp4 rfl (kp5 rfl hR0 rfl (kp0 rfl (kp1 rfl (kp2 rfl (kp3 rfl (sp_X11_worth hB0 hR0 (fun x1 y6 I2 J3 hB4 p5 kq10 kq9 kq8 kq7 k12 k11 k13 w17 w16 w15 w14 => ?_))))))))))))
  intro o18
  have i19 := i32 x1
  have b20 := Bd.o hB0 io9_112_3_6 bd9_6_1
  have e21 : ((I2 3 1) : Int32).toInt = (I 3 1).toInt := Eq.trans (congrArg Int32.toInt kq7) rfl
  have kz22 : ((I2 3 1) : Int32).toInt = (I 3 1).toInt := e21
  have b23 := Bd.o hB0 io9_112_97_12 bd9_12_8
  have e24 : ((I2 97 8) : Int32).toInt = (I 97 8).toInt := Eq.trans (congrArg Int32.toInt kq8) rfl
  have kz25 : ((I2 97 8) : Int32).toInt = (I 97 8).toInt := e24
  have b26 := Bd.o hB0 io9_112_1_11 bd9_11_13
  have e27 : ((I2 1 13) : Int32).toInt = (I 1 13).toInt := Eq.trans (congrArg Int32.toInt kq9) rfl
  have kz28 : ((I2 1 13) : Int32).toInt = (I 1 13).toInt := e27
  have b29 := Bd.o hB0 io9_112_97_12 bd9_12_23
  have e30 : ((I2 97 23) : Int32).toInt = (I 97 23).toInt := Eq.trans (congrArg Int32.toInt kq10) rfl
  have kz31 : ((I2 97 23) : Int32).toInt = (I 97 23).toInt := e30
  refine ⟨⟨hF0, rfl⟩, ?_⟩
  refine kp7 rfl hR0 rfl (kpA rfl (kpnm rfl hR0 rfl (kti rfl (kp6 rfl hR0 rfl (kp4 rfl (kp5 rfl hR0 rfl (kp0 rfl (kp1 rfl (kp2 rfl (kp3 rfl (sp_X12_worth hB4 hR0 (fun x32 y37 I33 J34 hB35 p36 kq41 kq40 kq39 kq38 k43 k42 k44 w48 w47 w46 w45 => ?_))))))))))))
  intro o49
  have i50 := i32 x32
  have e51 : ((I33 3 1) : Int32).toInt = (I 3 1).toInt := Eq.trans (congrArg Int32.toInt (Eq.trans kq38 kq7)) rfl
  have kz52 : ((I33 3 1) : Int32).toInt = (I 3 1).toInt := e51
  have e53 : ((I33 97 8) : Int32).toInt = (I 97 8).toInt := Eq.trans (congrArg Int32.toInt (Eq.trans kq39 kq8)) rfl
  have kz54 : ((I33 97 8) : Int32).toInt = (I 97 8).toInt := e53
  have e55 : ((I33 1 13) : Int32).toInt = (I 1 13).toInt := Eq.trans (congrArg Int32.toInt (Eq.trans kq40 kq9)) rfl
  have kz56 : ((I33 1 13) : Int32).toInt = (I 1 13).toInt := e55
  have e57 : ((I33 97 23) : Int32).toInt = (I 97 23).toInt := Eq.trans (congrArg Int32.toInt (Eq.trans kq41 kq10)) rfl
  have kz58 : ((I33 97 23) : Int32).toInt = (I 97 23).toInt := e57
  exact hN _ _ R hB35 hR0 hF0 ⟨(Eq.trans (e51) (Eq.trans hL0 (Eq.symm (e53)))), (Eq.trans (e55) (Eq.trans hL1 (Eq.symm (e57)))), (RT.kp (RT.kp hL2 k11 k12) k42 k43), trivial⟩ (R3.kp (R3.kp hR3 w14 (by have ya : ((I2 3 1) : Int32).toInt = (I 3 1).toInt := e21; have yb : ((I 3 1) : Int32).toInt = (I 3 1).toInt := rfl; first | exact Int.le_of_eq (ya.trans yb) | exact ya.trans yb | omega)) w45 (by have ya : ((I33 3 1) : Int32).toInt = (I 3 1).toInt := e51; have yb : ((I2 3 1) : Int32).toInt = (I 3 1).toInt := e21; first | exact Int.le_of_eq (ya.trans yb) | exact ya.trans yb | omega)) (RM.kp hR0 (RM.kp hR0 hRM ⟨w15, w16, (fun j _ => congrFun w17.1 j)⟩) ⟨w46, w47, (fun j _ => congrFun w48 j)⟩) trivial
set_option maxRecDepth 100000 in
set_option maxHeartbeats 2000000 in
theorem lc_17 {Q : Nat → Qt} {P : Kt} {L : Nat} {xs : Nat → Int32} (hc : Cl (AM 640) false true L xs 2 112 kL_law Q P) (hL : L ≤ 3584) {v3 : Int32} {I : Im} {J : Jm} {R : Rm} (hB0 : Bd I) (hR0 : RI R) (hF0 : Fl R) (hL0 : (I 3 1).toInt = (I 97 8).toInt) (hL1 : (I 1 13).toInt = (I 97 23).toInt) (hL2 : RT I) (hL3 : True) (hR3 : R3 I J) (hRM : RM I J R) (hFQ : True) (h0 : 0 ≤ v3.toInt) (h7 : v3.toInt + 7 ≤ (L : Int)) (hN : ∀ (I : Im) (J : Jm) (R : Rm), Bd I → RI R → Fl R → RLz I → R3 I J → RM I J R → True → P 1889 112 [(0, .ref 0), (1, .ref 1), (2, .ref 97), (3, .int v3)] [] I J R) : P 765 112 [(0, .ref 0), (1, .ref 1), (2, .ref 97), (3, .int v3)] [] I J R := by
  have i_v3 := i32 v3
  have e97 : I 97 8 = nI (fl I) := (Int32.toInt_inj.mp hL0).symm.trans (fl_bd hB0).1
  have b31 := Bd.o hB0 io9_112_3_6 bd9_6_1
  refine ls_765 hc v3 _ _ _ ?_
  have e1 : ((v3 + 1) : Int32).toInt = (v3.toInt) + (1) := ti_add rfl rfl (by omega)
  refine ⟨vp_of (a := (v3.toInt + 1)) e1 (by omega) (by omega), ?_⟩
  have z2 := i32 (xs (Int32.toNatClampNeg (v3 + 1)))
  have e3 : ((v3 + 2) : Int32).toInt = (v3.toInt) + (2) := ti_add rfl rfl (by omega)
  refine ⟨vp_of (a := (v3.toInt + 2)) e3 (by omega) (by omega), ?_⟩
  have z4 := i32 (xs (Int32.toNatClampNeg (v3 + 2)))
  refine ⟨⟨hF0, rfl⟩, ?_⟩
  refine kp7 rfl hR0 rfl (kpA rfl (kpnm rfl hR0 rfl (kp102 rfl hR0 rfl (kp6 rfl hR0 rfl (kp4 rfl (kp5 rfl hR0 rfl (kp0 rfl (kp1 rfl (kp2 rfl (kp3 rfl (sp_X11_copyStore hB0 hR0 (fun x5 y10 I6 J7 hB8 p9 kq14 kq13 kq12 kq11 k16 k15 k17 w21 w20 w19 w18 => ?_))))))))))))
  have i22 := i32 x5
  have b23 := Bd.o hB0 io9_112_3_6 bd9_6_1
  have e24 : ((I6 3 1) : Int32).toInt = (I 3 1).toInt := Eq.trans (congrArg Int32.toInt kq11) rfl
  have kz25 : ((I6 3 1) : Int32).toInt = (I 3 1).toInt := e24
  have b26 := Bd.o hB0 io9_112_97_12 bd9_12_8
  have e27 : ((I6 97 8) : Int32).toInt = (I 97 8).toInt := Eq.trans (congrArg Int32.toInt kq12) rfl
  have kz28 : ((I6 97 8) : Int32).toInt = (I 97 8).toInt := e27
  have b29 := Bd.o hB0 io9_112_1_11 bd9_11_13
  have e30 : ((I6 1 13) : Int32).toInt = (I 1 13).toInt := Eq.trans (congrArg Int32.toInt kq13) rfl
  have kz31 : ((I6 1 13) : Int32).toInt = (I 1 13).toInt := e30
  have b32 := Bd.o hB0 io9_112_97_12 bd9_12_23
  have e33 : ((I6 97 23) : Int32).toInt = (I 97 23).toInt := Eq.trans (congrArg Int32.toInt kq14) rfl
  have kz34 : ((I6 97 23) : Int32).toInt = (I 97 23).toInt := e33
  have hw35 : 0 ≤ ((xs (Int32.toNatClampNeg (v3 + 1))) : Int32).toInt → ((xs (Int32.toNatClampNeg (v3 + 1))) : Int32).toInt ≤ 3 → (I (R 2 (Int32.toNatClampNeg (xs (Int32.toNatClampNeg (v3 + 1))))) 1).toInt = (I6 99 (Int32.toNatClampNeg (xs (Int32.toNatClampNeg (v3 + 1))))).toInt := fun a b => RT.a1 hL2 hR0 k16 a b
  refine ⟨vp_of (a := (v3.toInt + 1)) e1 (by omega) (by omega), ?_⟩
  have z36 := i32 (xs (Int32.toNatClampNeg (v3 + 1)))
  refine ⟨vp_of (a := (v3.toInt + 2)) e3 (by omega) (by omega), ?_⟩
  have z37 := i32 (xs (Int32.toNatClampNeg (v3 + 2)))
  refine ⟨⟨hF0, rfl⟩, ?_⟩
  refine kp7 rfl hR0 rfl (kpA rfl (kpnm rfl hR0 rfl (kti rfl (kp6 rfl hR0 rfl (kp4 rfl (kp0 rfl (kp1 rfl (kp2 rfl (kp3 rfl (sp_X12_copyStore hB8 hR0 (fun x38 y43 I39 J40 hB41 p42 kq47 kq46 kq45 kq44 k48 k49 w53 w52 w51 w50 => ?_)))))))))))
  have i54 := i32 x38
  have e55 : ((I39 3 1) : Int32).toInt = (I 3 1).toInt := Eq.trans (congrArg Int32.toInt (Eq.trans kq44 kq11)) rfl
  have kz56 : ((I39 3 1) : Int32).toInt = (I 3 1).toInt := e55
  have e57 : ((I39 97 8) : Int32).toInt = (I 97 8).toInt := Eq.trans (congrArg Int32.toInt (Eq.trans kq45 kq12)) rfl
  have kz58 : ((I39 97 8) : Int32).toInt = (I 97 8).toInt := e57
  have e59 : ((I39 1 13) : Int32).toInt = (I 1 13).toInt := Eq.trans (congrArg Int32.toInt (Eq.trans kq46 kq13)) rfl
  have kz60 : ((I39 1 13) : Int32).toInt = (I 1 13).toInt := e59
  have e61 : ((I39 97 23) : Int32).toInt = (I 97 23).toInt := Eq.trans (congrArg Int32.toInt (Eq.trans kq47 kq14)) rfl
  have kz62 : ((I39 97 23) : Int32).toInt = (I 97 23).toInt := e61
  exact hN _ _ R hB41 hR0 hF0 ⟨(Eq.trans (e55) (Eq.trans hL0 (Eq.symm (e57)))), (Eq.trans (e59) (Eq.trans hL1 (Eq.symm (e61)))), (RT.kp (RT.kp hL2 k15 k16) k48 (p42.2)), trivial⟩ (R3.kp (R3.kp hR3 w18 (by have ya : ((I6 3 1) : Int32).toInt = (I 3 1).toInt := e24; have yb : ((I 3 1) : Int32).toInt = (I 3 1).toInt := rfl; first | exact Int.le_of_eq (ya.trans yb) | exact ya.trans yb | omega)) w50 (by have ya : ((I39 3 1) : Int32).toInt = (I 3 1).toInt := e55; have yb : ((I6 3 1) : Int32).toInt = (I 3 1).toInt := e24; first | exact Int.le_of_eq (ya.trans yb) | exact ya.trans yb | omega)) (RM.kp hR0 (RM.kp hR0 hRM ⟨w19, w20, (fun j _ => congrFun w21.1 j)⟩) ⟨w51, w52, (fun j _ => congrFun w53 j)⟩) trivial
set_option maxRecDepth 100000 in
set_option maxHeartbeats 2000000 in
theorem lc_18 {Q : Nat → Qt} {P : Kt} {L : Nat} {xs : Nat → Int32} (hc : Cl (AM 640) false true L xs 2 112 kL_law Q P) (hL : L ≤ 3584) {v3 : Int32} {I : Im} {J : Jm} {R : Rm} (hB0 : Bd I) (hR0 : RI R) (hF0 : Fl R) (hL0 : (I 3 1).toInt = (I 97 8).toInt) (hL1 : (I 1 13).toInt = (I 97 23).toInt) (hL2 : RT I) (hL3 : True) (hR3 : R3 I J) (hRM : RM I J R) (hFQ : True) (h0 : 0 ≤ v3.toInt) (h7 : v3.toInt + 7 ≤ (L : Int)) (hN : ∀ (I : Im) (J : Jm) (R : Rm), Bd I → RI R → Fl R → RLz I → R3 I J → RM I J R → True → P 1889 112 [(0, .ref 0), (1, .ref 1), (2, .ref 97), (3, .int v3)] [] I J R) : P 798 112 [(0, .ref 0), (1, .ref 1), (2, .ref 97), (3, .int v3)] [] I J R := by
  have i_v3 := i32 v3
  have e97 : I 97 8 = nI (fl I) := (Int32.toInt_inj.mp hL0).symm.trans (fl_bd hB0).1
  have b31 := Bd.o hB0 io9_112_3_6 bd9_6_1
  refine ls_798 hc v3 _ _ _ ?_
  have e1 : ((v3 + 1) : Int32).toInt = (v3.toInt) + (1) := ti_add rfl rfl (by omega)
  refine ⟨vp_of (a := (v3.toInt + 1)) e1 (by omega) (by omega), ?_⟩
  have z2 := i32 (xs (Int32.toNatClampNeg (v3 + 1)))
  refine ⟨⟨hF0, rfl⟩, ?_⟩
  refine kp7 rfl hR0 rfl (kpA rfl (kpnm rfl hR0 rfl (kp102 rfl hR0 rfl (kp6 rfl hR0 rfl (kp4 rfl (kp5 rfl hR0 rfl (kp0 rfl (kp1 rfl (kp2 rfl (kp3 rfl (sp_X11_bake hB0 hR0 (fun x3 y8 I4 J5 hB6 p7 kq12 kq11 kq10 kq9 k14 k13 k15 w19 w18 w17 w16 => ?_))))))))))))
  have i20 := i32 x3
  have b21 := Bd.o hB0 io9_112_3_6 bd9_6_1
  have e22 : ((I4 3 1) : Int32).toInt = (I 3 1).toInt := Eq.trans (congrArg Int32.toInt kq9) rfl
  have kz23 : ((I4 3 1) : Int32).toInt = (I 3 1).toInt := e22
  have b24 := Bd.o hB0 io9_112_97_12 bd9_12_8
  have e25 : ((I4 97 8) : Int32).toInt = (I 97 8).toInt := Eq.trans (congrArg Int32.toInt kq10) rfl
  have kz26 : ((I4 97 8) : Int32).toInt = (I 97 8).toInt := e25
  have b27 := Bd.o hB0 io9_112_1_11 bd9_11_13
  have e28 : ((I4 1 13) : Int32).toInt = (I 1 13).toInt := Eq.trans (congrArg Int32.toInt kq11) rfl
  have kz29 : ((I4 1 13) : Int32).toInt = (I 1 13).toInt := e28
  have b30 := Bd.o hB0 io9_112_97_12 bd9_12_23
  have e31 : ((I4 97 23) : Int32).toInt = (I 97 23).toInt := Eq.trans (congrArg Int32.toInt kq12) rfl
  have kz32 : ((I4 97 23) : Int32).toInt = (I 97 23).toInt := e31
  refine ⟨vp_of (a := (v3.toInt + 1)) e1 (by omega) (by omega), ?_⟩
  have z33 := i32 (xs (Int32.toNatClampNeg (v3 + 1)))
  refine ⟨⟨hF0, rfl⟩, ?_⟩
  refine kp7 rfl hR0 rfl (kpA rfl (kpnm rfl hR0 rfl (kp6 rfl hR0 rfl (kp4 rfl (kp5 rfl hR0 rfl (kp0 rfl (kp1 rfl (kp2 rfl (kp3 rfl (sp_X12_bake hB6 hR0 (fun x34 y39 I35 J36 hB37 p38 kq43 kq42 kq41 kq40 k45 k44 k46 w49 w48 w47 => ?_)))))))))))
  have f50 : Fr pK I4 I35 := p38
  have i51 := i32 x34
  have e52 : ((I35 3 1) : Int32).toInt = (I 3 1).toInt := Eq.trans (congrArg Int32.toInt (Eq.trans kq40 kq9)) rfl
  have kz53 : ((I35 3 1) : Int32).toInt = (I 3 1).toInt := e52
  have e54 : ((I35 97 8) : Int32).toInt = (I 97 8).toInt := Eq.trans (congrArg Int32.toInt (Eq.trans kq41 kq10)) rfl
  have kz55 : ((I35 97 8) : Int32).toInt = (I 97 8).toInt := e54
  have e56 : ((I35 1 13) : Int32).toInt = (I 1 13).toInt := Eq.trans (congrArg Int32.toInt (Eq.trans kq42 kq11)) rfl
  have kz57 : ((I35 1 13) : Int32).toInt = (I 1 13).toInt := e56
  have e58 : ((I35 97 23) : Int32).toInt = (I 97 23).toInt := Eq.trans (congrArg Int32.toInt (Eq.trans kq43 kq12)) rfl
  have kz59 : ((I35 97 23) : Int32).toInt = (I 97 23).toInt := e58
  exact hN _ _ R hB37 hR0 hF0 ⟨(Eq.trans (e52) (Eq.trans hL0 (Eq.symm (e54)))), (Eq.trans (e56) (Eq.trans hL1 (Eq.symm (e58)))), (RT.kp (RT.kp hL2 k13 k14) k44 k45), trivial⟩ (R3.kp (R3.kp hR3 w16 (by have ya : ((I4 3 1) : Int32).toInt = (I 3 1).toInt := e22; have yb : ((I 3 1) : Int32).toInt = (I 3 1).toInt := rfl; first | exact Int.le_of_eq (ya.trans yb) | exact ya.trans yb | omega)) w47 (by have ya : ((I35 3 1) : Int32).toInt = (I 3 1).toInt := e52; have yb : ((I4 3 1) : Int32).toInt = (I 3 1).toInt := e22; first | exact Int.le_of_eq (ya.trans yb) | exact ya.trans yb | omega)) (RM.kp hR0 (RM.kp hR0 hRM ⟨w17, w18, (fun j _ => congrFun w19.1 j)⟩) ⟨w48, w49, (fun j hj => f50.1 j hj)⟩) trivial
set_option maxRecDepth 100000 in
set_option maxHeartbeats 2000000 in
theorem lc_19 {Q : Nat → Qt} {P : Kt} {L : Nat} {xs : Nat → Int32} (hc : Cl (AM 640) false true L xs 2 112 kL_law Q P) (hL : L ≤ 3584) {v3 : Int32} {I : Im} {J : Jm} {R : Rm} (hB0 : Bd I) (hR0 : RI R) (hF0 : Fl R) (hL0 : (I 3 1).toInt = (I 97 8).toInt) (hL1 : (I 1 13).toInt = (I 97 23).toInt) (hL2 : RT I) (hL3 : True) (hR3 : R3 I J) (hRM : RM I J R) (hFQ : True) (h0 : 0 ≤ v3.toInt) (h7 : v3.toInt + 7 ≤ (L : Int)) (hN : ∀ (I : Im) (J : Jm) (R : Rm), Bd I → RI R → Fl R → RLz I → R3 I J → RM I J R → True → P 1889 112 [(0, .ref 0), (1, .ref 1), (2, .ref 97), (3, .int v3)] [] I J R) : P 821 112 [(0, .ref 0), (1, .ref 1), (2, .ref 97), (3, .int v3)] [] I J R := by
  have i_v3 := i32 v3
  have e97 : I 97 8 = nI (fl I) := (Int32.toInt_inj.mp hL0).symm.trans (fl_bd hB0).1
  have b31 := Bd.o hB0 io9_112_3_6 bd9_6_1
  refine ls_821 hc v3 _ _ _ ?_
  have e1 : ((v3 + 1) : Int32).toInt = (v3.toInt) + (1) := ti_add rfl rfl (by omega)
  refine ⟨vp_of (a := (v3.toInt + 1)) e1 (by omega) (by omega), ?_⟩
  have z2 := i32 (xs (Int32.toNatClampNeg (v3 + 1)))
  have e3 : ((v3 + 2) : Int32).toInt = (v3.toInt) + (2) := ti_add rfl rfl (by omega)
  refine ⟨vp_of (a := (v3.toInt + 2)) e3 (by omega) (by omega), ?_⟩
  have z4 := i32 (xs (Int32.toNatClampNeg (v3 + 2)))
  have e5 : ((v3 + 3) : Int32).toInt = (v3.toInt) + (3) := ti_add rfl rfl (by omega)
  refine ⟨vp_of (a := (v3.toInt + 3)) e5 (by omega) (by omega), ?_⟩
  have z6 := i32 (xs (Int32.toNatClampNeg (v3 + 3)))
  refine ⟨⟨hF0, rfl⟩, ?_⟩
  refine kp7 rfl hR0 rfl (kpA rfl (kpnm rfl hR0 rfl (kp102 rfl hR0 rfl (kp6 rfl hR0 rfl (kp4 rfl (kp5 rfl hR0 rfl (kp0 rfl (kp1 rfl (kp2 rfl (kp3 rfl (sp_X11_cut hB0 hR0 (fun x7 y12 I8 J9 hB10 p11 kq16 kq15 kq14 kq13 k18 k17 k19 w23 w22 w21 w20 => ?_))))))))))))
  have i24 := i32 x7
  have b25 := Bd.o hB0 io9_112_3_6 bd9_6_1
  have e26 : ((I8 3 1) : Int32).toInt = (I 3 1).toInt := Eq.trans (congrArg Int32.toInt kq13) rfl
  have kz27 : ((I8 3 1) : Int32).toInt = (I 3 1).toInt := e26
  have b28 := Bd.o hB0 io9_112_97_12 bd9_12_8
  have e29 : ((I8 97 8) : Int32).toInt = (I 97 8).toInt := Eq.trans (congrArg Int32.toInt kq14) rfl
  have kz30 : ((I8 97 8) : Int32).toInt = (I 97 8).toInt := e29
  have b31 := Bd.o hB0 io9_112_1_11 bd9_11_13
  have e32 : ((I8 1 13) : Int32).toInt = (I 1 13).toInt := Eq.trans (congrArg Int32.toInt kq15) rfl
  have kz33 : ((I8 1 13) : Int32).toInt = (I 1 13).toInt := e32
  have b34 := Bd.o hB0 io9_112_97_12 bd9_12_23
  have e35 : ((I8 97 23) : Int32).toInt = (I 97 23).toInt := Eq.trans (congrArg Int32.toInt kq16) rfl
  have kz36 : ((I8 97 23) : Int32).toInt = (I 97 23).toInt := e35
  refine ⟨vp_of (a := (v3.toInt + 1)) e1 (by omega) (by omega), ?_⟩
  have z37 := i32 (xs (Int32.toNatClampNeg (v3 + 1)))
  refine ⟨vp_of (a := (v3.toInt + 2)) e3 (by omega) (by omega), ?_⟩
  have z38 := i32 (xs (Int32.toNatClampNeg (v3 + 2)))
  refine ⟨vp_of (a := (v3.toInt + 3)) e5 (by omega) (by omega), ?_⟩
  have z39 := i32 (xs (Int32.toNatClampNeg (v3 + 3)))
  refine ⟨⟨hF0, rfl⟩, ?_⟩
  refine kp7 rfl hR0 rfl (kpA rfl (kpnm rfl hR0 rfl (kp6 rfl hR0 rfl (kp4 rfl (kp5 rfl hR0 rfl (kp0 rfl (kp1 rfl (kp2 rfl (kp3 rfl (sp_X12_cut hB10 hR0 (fun x40 y45 I41 J42 hB43 p44 kq49 kq48 kq47 kq46 k51 k50 k52 w55 w54 w53 => ?_)))))))))))
  have f56 : Fr pK I8 I41 := p44
  have i57 := i32 x40
  have e58 : ((I41 3 1) : Int32).toInt = (I 3 1).toInt := Eq.trans (congrArg Int32.toInt (Eq.trans kq46 kq13)) rfl
  have kz59 : ((I41 3 1) : Int32).toInt = (I 3 1).toInt := e58
  have e60 : ((I41 97 8) : Int32).toInt = (I 97 8).toInt := Eq.trans (congrArg Int32.toInt (Eq.trans kq47 kq14)) rfl
  have kz61 : ((I41 97 8) : Int32).toInt = (I 97 8).toInt := e60
  have e62 : ((I41 1 13) : Int32).toInt = (I 1 13).toInt := Eq.trans (congrArg Int32.toInt (Eq.trans kq48 kq15)) rfl
  have kz63 : ((I41 1 13) : Int32).toInt = (I 1 13).toInt := e62
  have e64 : ((I41 97 23) : Int32).toInt = (I 97 23).toInt := Eq.trans (congrArg Int32.toInt (Eq.trans kq49 kq16)) rfl
  have kz65 : ((I41 97 23) : Int32).toInt = (I 97 23).toInt := e64
  exact hN _ _ R hB43 hR0 hF0 ⟨(Eq.trans (e58) (Eq.trans hL0 (Eq.symm (e60)))), (Eq.trans (e62) (Eq.trans hL1 (Eq.symm (e64)))), (RT.kp (RT.kp hL2 k17 k18) k50 k51), trivial⟩ (R3.kp (R3.kp hR3 w20 (by have ya : ((I8 3 1) : Int32).toInt = (I 3 1).toInt := e26; have yb : ((I 3 1) : Int32).toInt = (I 3 1).toInt := rfl; first | exact Int.le_of_eq (ya.trans yb) | exact ya.trans yb | omega)) w53 (by have ya : ((I41 3 1) : Int32).toInt = (I 3 1).toInt := e58; have yb : ((I8 3 1) : Int32).toInt = (I 3 1).toInt := e26; first | exact Int.le_of_eq (ya.trans yb) | exact ya.trans yb | omega)) (RM.kp hR0 (RM.kp hR0 hRM ⟨w21, w22, (fun j _ => congrFun w23.1 j)⟩) ⟨w54, w55, (fun j hj => f56.1 j hj)⟩) trivial
set_option maxRecDepth 100000 in
set_option maxHeartbeats 2000000 in
theorem lc_20 {Q : Nat → Qt} {P : Kt} {L : Nat} {xs : Nat → Int32} (hc : Cl (AM 640) false true L xs 2 112 kL_law Q P) (hL : L ≤ 3584) {v3 : Int32} {I : Im} {J : Jm} {R : Rm} (hB0 : Bd I) (hR0 : RI R) (hF0 : Fl R) (hL0 : (I 3 1).toInt = (I 97 8).toInt) (hL1 : (I 1 13).toInt = (I 97 23).toInt) (hL2 : RT I) (hL3 : True) (hR3 : R3 I J) (hRM : RM I J R) (hFQ : True) (h0 : 0 ≤ v3.toInt) (h7 : v3.toInt + 7 ≤ (L : Int)) (hN : ∀ (I : Im) (J : Jm) (R : Rm), Bd I → RI R → Fl R → RLz I → R3 I J → RM I J R → True → P 1889 112 [(0, .ref 0), (1, .ref 1), (2, .ref 97), (3, .int v3)] [] I J R) : P 864 112 [(0, .ref 0), (1, .ref 1), (2, .ref 97), (3, .int v3)] [] I J R := by
  have i_v3 := i32 v3
  have e97 : I 97 8 = nI (fl I) := (Int32.toInt_inj.mp hL0).symm.trans (fl_bd hB0).1
  have b31 := Bd.o hB0 io9_112_3_6 bd9_6_1
  refine ls_864 hc v3 _ _ _ ?_
  have e1 : ((v3 + 1) : Int32).toInt = (v3.toInt) + (1) := ti_add rfl rfl (by omega)
  refine ⟨vp_of (a := (v3.toInt + 1)) e1 (by omega) (by omega), ?_⟩
  have z2 := i32 (xs (Int32.toNatClampNeg (v3 + 1)))
  have e3 : ((v3 + 2) : Int32).toInt = (v3.toInt) + (2) := ti_add rfl rfl (by omega)
  refine ⟨vp_of (a := (v3.toInt + 2)) e3 (by omega) (by omega), ?_⟩
  have z4 := i32 (xs (Int32.toNatClampNeg (v3 + 2)))
  refine ⟨⟨hF0, rfl⟩, ?_⟩
  refine kp7 rfl hR0 rfl (kpA rfl (kpnm rfl hR0 rfl (kp102 rfl hR0 rfl (kp6 rfl hR0 rfl (kp4 rfl (kp5 rfl hR0 rfl (kp0 rfl (kp1 rfl (kp2 rfl (kp3 rfl (sp_X11_split hB0 hR0 (fun x5 y10 I6 J7 hB8 p9 kq14 kq13 kq12 kq11 k16 k15 k17 w21 w20 w19 w18 => ?_))))))))))))
  have i22 := i32 x5
  have b23 := Bd.o hB0 io9_112_3_6 bd9_6_1
  have e24 : ((I6 3 1) : Int32).toInt = (I 3 1).toInt := Eq.trans (congrArg Int32.toInt kq11) rfl
  have kz25 : ((I6 3 1) : Int32).toInt = (I 3 1).toInt := e24
  have b26 := Bd.o hB0 io9_112_97_12 bd9_12_8
  have e27 : ((I6 97 8) : Int32).toInt = (I 97 8).toInt := Eq.trans (congrArg Int32.toInt kq12) rfl
  have kz28 : ((I6 97 8) : Int32).toInt = (I 97 8).toInt := e27
  have b29 := Bd.o hB0 io9_112_1_11 bd9_11_13
  have e30 : ((I6 1 13) : Int32).toInt = (I 1 13).toInt := Eq.trans (congrArg Int32.toInt kq13) rfl
  have kz31 : ((I6 1 13) : Int32).toInt = (I 1 13).toInt := e30
  have b32 := Bd.o hB0 io9_112_97_12 bd9_12_23
  have e33 : ((I6 97 23) : Int32).toInt = (I 97 23).toInt := Eq.trans (congrArg Int32.toInt kq14) rfl
  have kz34 : ((I6 97 23) : Int32).toInt = (I 97 23).toInt := e33
  refine ⟨vp_of (a := (v3.toInt + 1)) e1 (by omega) (by omega), ?_⟩
  have z35 := i32 (xs (Int32.toNatClampNeg (v3 + 1)))
  refine ⟨vp_of (a := (v3.toInt + 2)) e3 (by omega) (by omega), ?_⟩
  have z36 := i32 (xs (Int32.toNatClampNeg (v3 + 2)))
  refine ⟨⟨hF0, rfl⟩, ?_⟩
  refine kp7 rfl hR0 rfl (kpA rfl (kpnm rfl hR0 rfl (kp6 rfl hR0 rfl (kp4 rfl (kp5 rfl hR0 rfl (kp0 rfl (kp1 rfl (kp2 rfl (kp3 rfl (sp_X12_split hB8 hR0 (fun x37 y42 I38 J39 hB40 p41 kq46 kq45 kq44 kq43 k48 k47 k49 w52 w51 w50 => ?_)))))))))))
  have f53 : Fr pK I6 I38 := p41
  have i54 := i32 x37
  have e55 : ((I38 3 1) : Int32).toInt = (I 3 1).toInt := Eq.trans (congrArg Int32.toInt (Eq.trans kq43 kq11)) rfl
  have kz56 : ((I38 3 1) : Int32).toInt = (I 3 1).toInt := e55
  have e57 : ((I38 97 8) : Int32).toInt = (I 97 8).toInt := Eq.trans (congrArg Int32.toInt (Eq.trans kq44 kq12)) rfl
  have kz58 : ((I38 97 8) : Int32).toInt = (I 97 8).toInt := e57
  have e59 : ((I38 1 13) : Int32).toInt = (I 1 13).toInt := Eq.trans (congrArg Int32.toInt (Eq.trans kq45 kq13)) rfl
  have kz60 : ((I38 1 13) : Int32).toInt = (I 1 13).toInt := e59
  have e61 : ((I38 97 23) : Int32).toInt = (I 97 23).toInt := Eq.trans (congrArg Int32.toInt (Eq.trans kq46 kq14)) rfl
  have kz62 : ((I38 97 23) : Int32).toInt = (I 97 23).toInt := e61
  exact hN _ _ R hB40 hR0 hF0 ⟨(Eq.trans (e55) (Eq.trans hL0 (Eq.symm (e57)))), (Eq.trans (e59) (Eq.trans hL1 (Eq.symm (e61)))), (RT.kp (RT.kp hL2 k15 k16) k47 k48), trivial⟩ (R3.kp (R3.kp hR3 w18 (by have ya : ((I6 3 1) : Int32).toInt = (I 3 1).toInt := e24; have yb : ((I 3 1) : Int32).toInt = (I 3 1).toInt := rfl; first | exact Int.le_of_eq (ya.trans yb) | exact ya.trans yb | omega)) w50 (by have ya : ((I38 3 1) : Int32).toInt = (I 3 1).toInt := e55; have yb : ((I6 3 1) : Int32).toInt = (I 3 1).toInt := e24; first | exact Int.le_of_eq (ya.trans yb) | exact ya.trans yb | omega)) (RM.kp hR0 (RM.kp hR0 hRM ⟨w19, w20, (fun j _ => congrFun w21.1 j)⟩) ⟨w51, w52, (fun j hj => f53.1 j hj)⟩) trivial
set_option maxRecDepth 100000 in
set_option maxHeartbeats 2000000 in
theorem lc_21 {Q : Nat → Qt} {P : Kt} {L : Nat} {xs : Nat → Int32} (hc : Cl (AM 640) false true L xs 2 112 kL_law Q P) (hL : L ≤ 3584) {v3 : Int32} {I : Im} {J : Jm} {R : Rm} (hB0 : Bd I) (hR0 : RI R) (hF0 : Fl R) (hL0 : (I 3 1).toInt = (I 97 8).toInt) (hL1 : (I 1 13).toInt = (I 97 23).toInt) (hL2 : RT I) (hL3 : True) (hR3 : R3 I J) (hRM : RM I J R) (hFQ : True) (h0 : 0 ≤ v3.toInt) (h7 : v3.toInt + 7 ≤ (L : Int)) (hN : ∀ (I : Im) (J : Jm) (R : Rm), Bd I → RI R → Fl R → RLz I → R3 I J → RM I J R → True → P 1889 112 [(0, .ref 0), (1, .ref 1), (2, .ref 97), (3, .int v3)] [] I J R) : P 897 112 [(0, .ref 0), (1, .ref 1), (2, .ref 97), (3, .int v3)] [] I J R := by
  have i_v3 := i32 v3
  have e97 : I 97 8 = nI (fl I) := (Int32.toInt_inj.mp hL0).symm.trans (fl_bd hB0).1
  have b31 := Bd.o hB0 io9_112_3_6 bd9_6_1
  refine ls_897 hc v3 _ _ _ ?_
  have e1 : ((v3 + 1) : Int32).toInt = (v3.toInt) + (1) := ti_add rfl rfl (by omega)
  refine ⟨vp_of (a := (v3.toInt + 1)) e1 (by omega) (by omega), ?_⟩
  have z2 := i32 (xs (Int32.toNatClampNeg (v3 + 1)))
  have e3 : ((v3 + 2) : Int32).toInt = (v3.toInt) + (2) := ti_add rfl rfl (by omega)
  refine ⟨vp_of (a := (v3.toInt + 2)) e3 (by omega) (by omega), ?_⟩
  have z4 := i32 (xs (Int32.toNatClampNeg (v3 + 2)))
  refine ⟨⟨hF0, rfl⟩, ?_⟩
  refine kp7 rfl hR0 rfl (kpA rfl (kpnm rfl hR0 rfl (kp102 rfl hR0 rfl (kp6 rfl hR0 rfl (kp4 rfl (kp5 rfl hR0 rfl (kp0 rfl (kp1 rfl (kp2 rfl (kp3 rfl (sp_X11_give hB0 hR0 (fun x5 y10 I6 J7 hB8 p9 kq14 kq13 kq12 kq11 k16 k15 k17 w21 w20 w19 w18 => ?_))))))))))))
  have i22 := i32 x5
  have b23 := Bd.o hB0 io9_112_3_6 bd9_6_1
  have e24 : ((I6 3 1) : Int32).toInt = (I 3 1).toInt := Eq.trans (congrArg Int32.toInt kq11) rfl
  have kz25 : ((I6 3 1) : Int32).toInt = (I 3 1).toInt := e24
  have b26 := Bd.o hB0 io9_112_97_12 bd9_12_8
  have e27 : ((I6 97 8) : Int32).toInt = (I 97 8).toInt := Eq.trans (congrArg Int32.toInt kq12) rfl
  have kz28 : ((I6 97 8) : Int32).toInt = (I 97 8).toInt := e27
  have b29 := Bd.o hB0 io9_112_1_11 bd9_11_13
  have e30 : ((I6 1 13) : Int32).toInt = (I 1 13).toInt := Eq.trans (congrArg Int32.toInt kq13) rfl
  have kz31 : ((I6 1 13) : Int32).toInt = (I 1 13).toInt := e30
  have b32 := Bd.o hB0 io9_112_97_12 bd9_12_23
  have e33 : ((I6 97 23) : Int32).toInt = (I 97 23).toInt := Eq.trans (congrArg Int32.toInt kq14) rfl
  have kz34 : ((I6 97 23) : Int32).toInt = (I 97 23).toInt := e33
  refine ⟨vp_of (a := (v3.toInt + 1)) e1 (by omega) (by omega), ?_⟩
  have z35 := i32 (xs (Int32.toNatClampNeg (v3 + 1)))
  refine ⟨vp_of (a := (v3.toInt + 2)) e3 (by omega) (by omega), ?_⟩
  have z36 := i32 (xs (Int32.toNatClampNeg (v3 + 2)))
  refine ⟨⟨hF0, rfl⟩, ?_⟩
  refine kp7 rfl hR0 rfl (kpA rfl (kpnm rfl hR0 rfl (kp6 rfl hR0 rfl (kp4 rfl (kp5 rfl hR0 rfl (kp0 rfl (kp1 rfl (kp2 rfl (kp3 rfl (sp_X12_give hB8 hR0 (fun x37 y42 I38 J39 hB40 p41 kq46 kq45 kq44 kq43 k48 k47 k49 w52 w51 w50 => ?_)))))))))))
  have f53 : Fr pK I6 I38 := p41
  have i54 := i32 x37
  have e55 : ((I38 3 1) : Int32).toInt = (I 3 1).toInt := Eq.trans (congrArg Int32.toInt (Eq.trans kq43 kq11)) rfl
  have kz56 : ((I38 3 1) : Int32).toInt = (I 3 1).toInt := e55
  have e57 : ((I38 97 8) : Int32).toInt = (I 97 8).toInt := Eq.trans (congrArg Int32.toInt (Eq.trans kq44 kq12)) rfl
  have kz58 : ((I38 97 8) : Int32).toInt = (I 97 8).toInt := e57
  have e59 : ((I38 1 13) : Int32).toInt = (I 1 13).toInt := Eq.trans (congrArg Int32.toInt (Eq.trans kq45 kq13)) rfl
  have kz60 : ((I38 1 13) : Int32).toInt = (I 1 13).toInt := e59
  have e61 : ((I38 97 23) : Int32).toInt = (I 97 23).toInt := Eq.trans (congrArg Int32.toInt (Eq.trans kq46 kq14)) rfl
  have kz62 : ((I38 97 23) : Int32).toInt = (I 97 23).toInt := e61
  exact hN _ _ R hB40 hR0 hF0 ⟨(Eq.trans (e55) (Eq.trans hL0 (Eq.symm (e57)))), (Eq.trans (e59) (Eq.trans hL1 (Eq.symm (e61)))), (RT.kp (RT.kp hL2 k15 k16) k47 k48), trivial⟩ (R3.kp (R3.kp hR3 w18 (by have ya : ((I6 3 1) : Int32).toInt = (I 3 1).toInt := e24; have yb : ((I 3 1) : Int32).toInt = (I 3 1).toInt := rfl; first | exact Int.le_of_eq (ya.trans yb) | exact ya.trans yb | omega)) w50 (by have ya : ((I38 3 1) : Int32).toInt = (I 3 1).toInt := e55; have yb : ((I6 3 1) : Int32).toInt = (I 3 1).toInt := e24; first | exact Int.le_of_eq (ya.trans yb) | exact ya.trans yb | omega)) (RM.kp hR0 (RM.kp hR0 hRM ⟨w19, w20, (fun j _ => congrFun w21.1 j)⟩) ⟨w51, w52, (fun j hj => f53.1 j hj)⟩) trivial
set_option maxRecDepth 100000 in
set_option maxHeartbeats 2000000 in
theorem lc_22 {Q : Nat → Qt} {P : Kt} {L : Nat} {xs : Nat → Int32} (hc : Cl (AM 640) false true L xs 2 112 kL_law Q P) (hL : L ≤ 3584) {v3 : Int32} {I : Im} {J : Jm} {R : Rm} (hB0 : Bd I) (hR0 : RI R) (hF0 : Fl R) (hL0 : (I 3 1).toInt = (I 97 8).toInt) (hL1 : (I 1 13).toInt = (I 97 23).toInt) (hL2 : RT I) (hL3 : True) (hR3 : R3 I J) (hRM : RM I J R) (hFQ : True) (h0 : 0 ≤ v3.toInt) (h7 : v3.toInt + 7 ≤ (L : Int)) (hN : ∀ (I : Im) (J : Jm) (R : Rm), Bd I → RI R → Fl R → RLz I → R3 I J → RM I J R → True → P 1889 112 [(0, .ref 0), (1, .ref 1), (2, .ref 97), (3, .int v3)] [] I J R) : P 930 112 [(0, .ref 0), (1, .ref 1), (2, .ref 97), (3, .int v3)] [] I J R := by
  have i_v3 := i32 v3
  have e97 : I 97 8 = nI (fl I) := (Int32.toInt_inj.mp hL0).symm.trans (fl_bd hB0).1
  have b31 := Bd.o hB0 io9_112_3_6 bd9_6_1
  refine ls_930 hc v3 _ _ _ ?_
  have e1 : ((v3 + 1) : Int32).toInt = (v3.toInt) + (1) := ti_add rfl rfl (by omega)
  refine ⟨vp_of (a := (v3.toInt + 1)) e1 (by omega) (by omega), ?_⟩
  have z2 := i32 (xs (Int32.toNatClampNeg (v3 + 1)))
  have e3 : ((v3 + 2) : Int32).toInt = (v3.toInt) + (2) := ti_add rfl rfl (by omega)
  refine ⟨vp_of (a := (v3.toInt + 2)) e3 (by omega) (by omega), ?_⟩
  have z4 := i32 (xs (Int32.toNatClampNeg (v3 + 2)))
  refine ⟨⟨hF0, rfl⟩, ?_⟩
  refine kp7 rfl hR0 rfl (kpA rfl (kpnm rfl hR0 rfl (kp102 rfl hR0 rfl (kp6 rfl hR0 rfl (kp4 rfl (kp5 rfl hR0 rfl (kp0 rfl (kp1 rfl (kp2 rfl (kp3 rfl (sp_X11_take hB0 hR0 (fun x5 y10 I6 J7 hB8 p9 kq14 kq13 kq12 kq11 k16 k15 k17 w21 w20 w19 w18 => ?_))))))))))))
  have i22 := i32 x5
  have b23 := Bd.o hB0 io9_112_3_6 bd9_6_1
  have e24 : ((I6 3 1) : Int32).toInt = (I 3 1).toInt := Eq.trans (congrArg Int32.toInt kq11) rfl
  have kz25 : ((I6 3 1) : Int32).toInt = (I 3 1).toInt := e24
  have b26 := Bd.o hB0 io9_112_97_12 bd9_12_8
  have e27 : ((I6 97 8) : Int32).toInt = (I 97 8).toInt := Eq.trans (congrArg Int32.toInt kq12) rfl
  have kz28 : ((I6 97 8) : Int32).toInt = (I 97 8).toInt := e27
  have b29 := Bd.o hB0 io9_112_1_11 bd9_11_13
  have e30 : ((I6 1 13) : Int32).toInt = (I 1 13).toInt := Eq.trans (congrArg Int32.toInt kq13) rfl
  have kz31 : ((I6 1 13) : Int32).toInt = (I 1 13).toInt := e30
  have b32 := Bd.o hB0 io9_112_97_12 bd9_12_23
  have e33 : ((I6 97 23) : Int32).toInt = (I 97 23).toInt := Eq.trans (congrArg Int32.toInt kq14) rfl
  have kz34 : ((I6 97 23) : Int32).toInt = (I 97 23).toInt := e33
  refine ⟨vp_of (a := (v3.toInt + 1)) e1 (by omega) (by omega), ?_⟩
  have z35 := i32 (xs (Int32.toNatClampNeg (v3 + 1)))
  refine ⟨vp_of (a := (v3.toInt + 2)) e3 (by omega) (by omega), ?_⟩
  have z36 := i32 (xs (Int32.toNatClampNeg (v3 + 2)))
  refine ⟨⟨hF0, rfl⟩, ?_⟩
  refine kp7 rfl hR0 rfl (kpA rfl (kpnm rfl hR0 rfl (kp6 rfl hR0 rfl (kp4 rfl (kp5 rfl hR0 rfl (kp0 rfl (kp1 rfl (kp2 rfl (kp3 rfl (sp_X12_take hB8 hR0 (fun x37 y42 I38 J39 hB40 p41 kq46 kq45 kq44 kq43 k48 k47 k49 w52 w51 w50 => ?_)))))))))))
  have f53 : Fr pK I6 I38 := p41
  have i54 := i32 x37
  have e55 : ((I38 3 1) : Int32).toInt = (I 3 1).toInt := Eq.trans (congrArg Int32.toInt (Eq.trans kq43 kq11)) rfl
  have kz56 : ((I38 3 1) : Int32).toInt = (I 3 1).toInt := e55
  have e57 : ((I38 97 8) : Int32).toInt = (I 97 8).toInt := Eq.trans (congrArg Int32.toInt (Eq.trans kq44 kq12)) rfl
  have kz58 : ((I38 97 8) : Int32).toInt = (I 97 8).toInt := e57
  have e59 : ((I38 1 13) : Int32).toInt = (I 1 13).toInt := Eq.trans (congrArg Int32.toInt (Eq.trans kq45 kq13)) rfl
  have kz60 : ((I38 1 13) : Int32).toInt = (I 1 13).toInt := e59
  have e61 : ((I38 97 23) : Int32).toInt = (I 97 23).toInt := Eq.trans (congrArg Int32.toInt (Eq.trans kq46 kq14)) rfl
  have kz62 : ((I38 97 23) : Int32).toInt = (I 97 23).toInt := e61
  exact hN _ _ R hB40 hR0 hF0 ⟨(Eq.trans (e55) (Eq.trans hL0 (Eq.symm (e57)))), (Eq.trans (e59) (Eq.trans hL1 (Eq.symm (e61)))), (RT.kp (RT.kp hL2 k15 k16) k47 k48), trivial⟩ (R3.kp (R3.kp hR3 w18 (by have ya : ((I6 3 1) : Int32).toInt = (I 3 1).toInt := e24; have yb : ((I 3 1) : Int32).toInt = (I 3 1).toInt := rfl; first | exact Int.le_of_eq (ya.trans yb) | exact ya.trans yb | omega)) w50 (by have ya : ((I38 3 1) : Int32).toInt = (I 3 1).toInt := e55; have yb : ((I6 3 1) : Int32).toInt = (I 3 1).toInt := e24; first | exact Int.le_of_eq (ya.trans yb) | exact ya.trans yb | omega)) (RM.kp hR0 (RM.kp hR0 hRM ⟨w19, w20, (fun j _ => congrFun w21.1 j)⟩) ⟨w51, w52, (fun j hj => f53.1 j hj)⟩) trivial
set_option maxRecDepth 100000 in
set_option maxHeartbeats 2000000 in
theorem lc_23 {Q : Nat → Qt} {P : Kt} {L : Nat} {xs : Nat → Int32} (hc : Cl (AM 640) false true L xs 2 112 kL_law Q P) (hL : L ≤ 3584) {v3 : Int32} {I : Im} {J : Jm} {R : Rm} (hB0 : Bd I) (hR0 : RI R) (hF0 : Fl R) (hL0 : (I 3 1).toInt = (I 97 8).toInt) (hL1 : (I 1 13).toInt = (I 97 23).toInt) (hL2 : RT I) (hL3 : True) (hR3 : R3 I J) (hRM : RM I J R) (hFQ : True) (h0 : 0 ≤ v3.toInt) (h7 : v3.toInt + 7 ≤ (L : Int)) (hN : ∀ (I : Im) (J : Jm) (R : Rm), Bd I → RI R → Fl R → RLz I → R3 I J → RM I J R → True → P 1889 112 [(0, .ref 0), (1, .ref 1), (2, .ref 97), (3, .int v3)] [] I J R) : P 963 112 [(0, .ref 0), (1, .ref 1), (2, .ref 97), (3, .int v3)] [] I J R := by
  have i_v3 := i32 v3
  have e97 : I 97 8 = nI (fl I) := (Int32.toInt_inj.mp hL0).symm.trans (fl_bd hB0).1
  have b31 := Bd.o hB0 io9_112_3_6 bd9_6_1
  refine ls_963 hc v3 _ _ _ ?_
  have e1 : ((v3 + 1) : Int32).toInt = (v3.toInt) + (1) := ti_add rfl rfl (by omega)
  refine ⟨vp_of (a := (v3.toInt + 1)) e1 (by omega) (by omega), ?_⟩
  have z2 := i32 (xs (Int32.toNatClampNeg (v3 + 1)))
  have e3 : ((v3 + 2) : Int32).toInt = (v3.toInt) + (2) := ti_add rfl rfl (by omega)
  refine ⟨vp_of (a := (v3.toInt + 2)) e3 (by omega) (by omega), ?_⟩
  have z4 := i32 (xs (Int32.toNatClampNeg (v3 + 2)))
  have e5 : ((v3 + 3) : Int32).toInt = (v3.toInt) + (3) := ti_add rfl rfl (by omega)
  refine ⟨vp_of (a := (v3.toInt + 3)) e5 (by omega) (by omega), ?_⟩
  have z6 := i32 (xs (Int32.toNatClampNeg (v3 + 3)))
  refine ⟨⟨hF0, rfl⟩, ?_⟩
  refine kp7 rfl hR0 rfl (kpA rfl (kpnm rfl hR0 rfl (kp102 rfl hR0 rfl (kp6 rfl hR0 rfl (kp4 rfl (kp5 rfl hR0 rfl (kp0 rfl (kp1 rfl (kp2 rfl (kp3 rfl (sp_X11_owe hB0 hR0 (fun x7 y12 I8 J9 hB10 p11 kq16 kq15 kq14 kq13 k18 k17 k19 w23 w22 w21 w20 => ?_))))))))))))
  intro o24
  have i25 := i32 x7
  have b26 := Bd.o hB0 io9_112_3_6 bd9_6_1
  have e27 : ((I8 3 1) : Int32).toInt = (I 3 1).toInt := Eq.trans (congrArg Int32.toInt kq13) rfl
  have kz28 : ((I8 3 1) : Int32).toInt = (I 3 1).toInt := e27
  have b29 := Bd.o hB0 io9_112_97_12 bd9_12_8
  have e30 : ((I8 97 8) : Int32).toInt = (I 97 8).toInt := Eq.trans (congrArg Int32.toInt kq14) rfl
  have kz31 : ((I8 97 8) : Int32).toInt = (I 97 8).toInt := e30
  have b32 := Bd.o hB0 io9_112_1_11 bd9_11_13
  have e33 : ((I8 1 13) : Int32).toInt = (I 1 13).toInt := Eq.trans (congrArg Int32.toInt kq15) rfl
  have kz34 : ((I8 1 13) : Int32).toInt = (I 1 13).toInt := e33
  have b35 := Bd.o hB0 io9_112_97_12 bd9_12_23
  have e36 : ((I8 97 23) : Int32).toInt = (I 97 23).toInt := Eq.trans (congrArg Int32.toInt kq16) rfl
  have kz37 : ((I8 97 23) : Int32).toInt = (I 97 23).toInt := e36
  refine ⟨vp_of (a := (v3.toInt + 1)) e1 (by omega) (by omega), ?_⟩
  have z38 := i32 (xs (Int32.toNatClampNeg (v3 + 1)))
  refine ⟨vp_of (a := (v3.toInt + 2)) e3 (by omega) (by omega), ?_⟩
  have z39 := i32 (xs (Int32.toNatClampNeg (v3 + 2)))
  refine ⟨vp_of (a := (v3.toInt + 3)) e5 (by omega) (by omega), ?_⟩
  have z40 := i32 (xs (Int32.toNatClampNeg (v3 + 3)))
  refine ⟨⟨hF0, rfl⟩, ?_⟩
  refine kp7 rfl hR0 rfl (kpA rfl (kpnm rfl hR0 rfl (kp6 rfl hR0 rfl (kp4 rfl (kp5 rfl hR0 rfl (kp0 rfl (kp1 rfl (kp2 rfl (kp3 rfl (sp_X12_owe hB10 hR0 (fun x41 y46 I42 J43 hB44 p45 kq50 kq49 kq48 kq47 k52 k51 k53 w56 w55 w54 => ?_)))))))))))
  intro o57
  have f58 : Fr pK I8 I42 := p45
  have i59 := i32 x41
  have e60 : ((I42 3 1) : Int32).toInt = (I 3 1).toInt := Eq.trans (congrArg Int32.toInt (Eq.trans kq47 kq13)) rfl
  have kz61 : ((I42 3 1) : Int32).toInt = (I 3 1).toInt := e60
  have e62 : ((I42 97 8) : Int32).toInt = (I 97 8).toInt := Eq.trans (congrArg Int32.toInt (Eq.trans kq48 kq14)) rfl
  have kz63 : ((I42 97 8) : Int32).toInt = (I 97 8).toInt := e62
  have e64 : ((I42 1 13) : Int32).toInt = (I 1 13).toInt := Eq.trans (congrArg Int32.toInt (Eq.trans kq49 kq15)) rfl
  have kz65 : ((I42 1 13) : Int32).toInt = (I 1 13).toInt := e64
  have e66 : ((I42 97 23) : Int32).toInt = (I 97 23).toInt := Eq.trans (congrArg Int32.toInt (Eq.trans kq50 kq16)) rfl
  have kz67 : ((I42 97 23) : Int32).toInt = (I 97 23).toInt := e66
  exact hN _ _ R hB44 hR0 hF0 ⟨(Eq.trans (e60) (Eq.trans hL0 (Eq.symm (e62)))), (Eq.trans (e64) (Eq.trans hL1 (Eq.symm (e66)))), (RT.kp (RT.kp hL2 k17 k18) k51 k52), trivial⟩ (R3.kp (R3.kp hR3 w20 (by have ya : ((I8 3 1) : Int32).toInt = (I 3 1).toInt := e27; have yb : ((I 3 1) : Int32).toInt = (I 3 1).toInt := rfl; first | exact Int.le_of_eq (ya.trans yb) | exact ya.trans yb | omega)) w54 (by have ya : ((I42 3 1) : Int32).toInt = (I 3 1).toInt := e60; have yb : ((I8 3 1) : Int32).toInt = (I 3 1).toInt := e27; first | exact Int.le_of_eq (ya.trans yb) | exact ya.trans yb | omega)) (RM.kp hR0 (RM.kp hR0 hRM ⟨w21, w22, (fun j _ => congrFun w23.1 j)⟩) ⟨w55, w56, (fun j hj => f58.1 j hj)⟩) trivial
set_option maxRecDepth 100000 in
set_option maxHeartbeats 2000000 in
theorem lc_24 {Q : Nat → Qt} {P : Kt} {L : Nat} {xs : Nat → Int32} (hc : Cl (AM 640) false true L xs 2 112 kL_law Q P) (hL : L ≤ 3584) {v3 : Int32} {I : Im} {J : Jm} {R : Rm} (hB0 : Bd I) (hR0 : RI R) (hF0 : Fl R) (hL0 : (I 3 1).toInt = (I 97 8).toInt) (hL1 : (I 1 13).toInt = (I 97 23).toInt) (hL2 : RT I) (hL3 : True) (hR3 : R3 I J) (hRM : RM I J R) (hFQ : True) (h0 : 0 ≤ v3.toInt) (h7 : v3.toInt + 7 ≤ (L : Int)) (hN : ∀ (I : Im) (J : Jm) (R : Rm), Bd I → RI R → Fl R → RLz I → R3 I J → RM I J R → True → P 1889 112 [(0, .ref 0), (1, .ref 1), (2, .ref 97), (3, .int v3)] [] I J R) : P 1006 112 [(0, .ref 0), (1, .ref 1), (2, .ref 97), (3, .int v3)] [] I J R := by
  have i_v3 := i32 v3
  have e97 : I 97 8 = nI (fl I) := (Int32.toInt_inj.mp hL0).symm.trans (fl_bd hB0).1
  have b31 := Bd.o hB0 io9_112_3_6 bd9_6_1
  refine ls_1006 hc v3 _ _ _ ?_
  have e1 : ((v3 + 1) : Int32).toInt = (v3.toInt) + (1) := ti_add rfl rfl (by omega)
  refine ⟨vp_of (a := (v3.toInt + 1)) e1 (by omega) (by omega), ?_⟩
  have z2 := i32 (xs (Int32.toNatClampNeg (v3 + 1)))
  have e3 : ((v3 + 2) : Int32).toInt = (v3.toInt) + (2) := ti_add rfl rfl (by omega)
  refine ⟨vp_of (a := (v3.toInt + 2)) e3 (by omega) (by omega), ?_⟩
  have z4 := i32 (xs (Int32.toNatClampNeg (v3 + 2)))
  refine ⟨⟨hF0, rfl⟩, ?_⟩
  refine kp7 rfl hR0 rfl (kx (cx_come hB0 hR0) (kp6 rfl hR0 rfl (kp4 rfl (kp5 rfl hR0 rfl (kp0 rfl (kp1 rfl (kp2 rfl (kp3 rfl (sp_X11_come hB0 hR0 (fun x5 y10 I6 J7 hB8 p9 kq14 kq13 kq12 kq11 k16 k15 k17 w19 w18 => ?_))))))))))
  have i20 := i32 x5
  have b21 := Bd.o hB0 io9_112_3_6 bd9_6_1
  have e22 : ((I6 3 1) : Int32).toInt = (I 3 1).toInt := Eq.trans (congrArg Int32.toInt kq11) rfl
  have kz23 : ((I6 3 1) : Int32).toInt = (I 3 1).toInt := e22
  have b24 := Bd.o hB0 io9_112_97_12 bd9_12_8
  have e25 : ((I6 97 8) : Int32).toInt = (I 97 8).toInt := Eq.trans (congrArg Int32.toInt kq12) rfl
  have kz26 : ((I6 97 8) : Int32).toInt = (I 97 8).toInt := e25
  have b27 := Bd.o hB0 io9_112_1_11 bd9_11_13
  have e28 : ((I6 1 13) : Int32).toInt = (I 1 13).toInt := Eq.trans (congrArg Int32.toInt kq13) rfl
  have kz29 : ((I6 1 13) : Int32).toInt = (I 1 13).toInt := e28
  have b30 := Bd.o hB0 io9_112_97_12 bd9_12_23
  have e31 : ((I6 97 23) : Int32).toInt = (I 97 23).toInt := Eq.trans (congrArg Int32.toInt kq14) rfl
  have kz32 : ((I6 97 23) : Int32).toInt = (I 97 23).toInt := e31
  refine ⟨vp_of (a := (v3.toInt + 1)) e1 (by omega) (by omega), ?_⟩
  have z33 := i32 (xs (Int32.toNatClampNeg (v3 + 1)))
  refine ⟨vp_of (a := (v3.toInt + 2)) e3 (by omega) (by omega), ?_⟩
  have z34 := i32 (xs (Int32.toNatClampNeg (v3 + 2)))
  refine ⟨⟨hF0, rfl⟩, ?_⟩
  refine kp7 rfl hR0 rfl (kx (mx_come hB8) (kp6 rfl hR0 rfl (kp4 rfl (kp5 rfl hR0 rfl (kp0 rfl (kp1 rfl (kp2 rfl (kp3 rfl (sp_X12_come hB8 hR0 (fun x35 y40 I36 J37 hB38 p39 kq44 kq43 kq42 kq41 k46 k45 k47 w49 w48 => ?_))))))))))
  have i50 := i32 x35
  have e51 : ((I36 3 1) : Int32).toInt = (I 3 1).toInt := Eq.trans (congrArg Int32.toInt (Eq.trans kq41 kq11)) rfl
  have kz52 : ((I36 3 1) : Int32).toInt = (I 3 1).toInt := e51
  have e53 : ((I36 97 8) : Int32).toInt = (I 97 8).toInt := Eq.trans (congrArg Int32.toInt (Eq.trans kq42 kq12)) rfl
  have kz54 : ((I36 97 8) : Int32).toInt = (I 97 8).toInt := e53
  have e55 : ((I36 1 13) : Int32).toInt = (I 1 13).toInt := Eq.trans (congrArg Int32.toInt (Eq.trans kq43 kq13)) rfl
  have kz56 : ((I36 1 13) : Int32).toInt = (I 1 13).toInt := e55
  have e57 : ((I36 97 23) : Int32).toInt = (I 97 23).toInt := Eq.trans (congrArg Int32.toInt (Eq.trans kq44 kq14)) rfl
  have kz58 : ((I36 97 23) : Int32).toInt = (I 97 23).toInt := e57
  have hr59 := RM.come hB0 hR0 hRM w19 w49
  have hg60 : (x35 : Int32).toInt = (x5 : Int32).toInt := congrArg Int32.toInt hr59.2
  exact hN _ _ R hB38 hR0 hF0 ⟨(Eq.trans (e51) (Eq.trans hL0 (Eq.symm (e53)))), (Eq.trans (e55) (Eq.trans hL1 (Eq.symm (e57)))), (RT.kp (RT.kp hL2 k15 k16) k45 k46), trivial⟩ (R3.kp (R3.kp hR3 w18 (by have ya : ((I6 3 1) : Int32).toInt = (I 3 1).toInt := e22; have yb : ((I 3 1) : Int32).toInt = (I 3 1).toInt := rfl; first | exact Int.le_of_eq (ya.trans yb) | exact ya.trans yb | omega)) w48 (by have ya : ((I36 3 1) : Int32).toInt = (I 3 1).toInt := e51; have yb : ((I6 3 1) : Int32).toInt = (I 3 1).toInt := e22; first | exact Int.le_of_eq (ya.trans yb) | exact ya.trans yb | omega)) (hr59.1) trivial
set_option maxRecDepth 100000 in
set_option maxHeartbeats 2000000 in
theorem lc_25 {Q : Nat → Qt} {P : Kt} {L : Nat} {xs : Nat → Int32} (hc : Cl (AM 640) false true L xs 2 112 kL_law Q P) (hL : L ≤ 3584) {v3 : Int32} {I : Im} {J : Jm} {R : Rm} (hB0 : Bd I) (hR0 : RI R) (hF0 : Fl R) (hL0 : (I 3 1).toInt = (I 97 8).toInt) (hL1 : (I 1 13).toInt = (I 97 23).toInt) (hL2 : RT I) (hL3 : True) (hR3 : R3 I J) (hRM : RM I J R) (hFQ : True) (h0 : 0 ≤ v3.toInt) (h7 : v3.toInt + 7 ≤ (L : Int)) (hN : ∀ (I : Im) (J : Jm) (R : Rm), Bd I → RI R → Fl R → RLz I → R3 I J → RM I J R → True → P 1889 112 [(0, .ref 0), (1, .ref 1), (2, .ref 97), (3, .int v3)] [] I J R) : P 1039 112 [(0, .ref 0), (1, .ref 1), (2, .ref 97), (3, .int v3)] [] I J R := by
  have i_v3 := i32 v3
  have e97 : I 97 8 = nI (fl I) := (Int32.toInt_inj.mp hL0).symm.trans (fl_bd hB0).1
  have b31 := Bd.o hB0 io9_112_3_6 bd9_6_1
  refine ls_1039 hc v3 _ _ _ ?_
  have e1 : ((v3 + 1) : Int32).toInt = (v3.toInt) + (1) := ti_add rfl rfl (by omega)
  refine ⟨vp_of (a := (v3.toInt + 1)) e1 (by omega) (by omega), ?_⟩
  have z2 := i32 (xs (Int32.toNatClampNeg (v3 + 1)))
  have e3 : ((v3 + 2) : Int32).toInt = (v3.toInt) + (2) := ti_add rfl rfl (by omega)
  refine ⟨vp_of (a := (v3.toInt + 2)) e3 (by omega) (by omega), ?_⟩
  have z4 := i32 (xs (Int32.toNatClampNeg (v3 + 2)))
  refine ⟨fun c5 => ?_, fun c5 => ?_⟩
  · skip
    have d6 : (((xs (Int32.toNatClampNeg (v3 + 2))).toInt) : Int) = (0) := ci_eq rfl rfl c5
    refine ⟨⟨hF0, rfl⟩, ?_⟩
    refine kp7 rfl hR0 rfl (kx (cx_learn (Or.inl rfl) hR0) (kp6 rfl hR0 rfl (kp4 rfl (kp5 rfl hR0 rfl (kp0 rfl (kp1 rfl (kp2 rfl (kp3 rfl (sp_X11_learn hB0 hR0 (fun x7 y12 I8 J9 hB10 p11 kq16 kq15 kq14 kq13 k18 k17 k19 w21 w20 => ?_))))))))))
    intro o22
    have i23 := i32 x7
    have b24 := Bd.o hB0 io9_112_3_6 bd9_6_1
    have e25 : ((I8 3 1) : Int32).toInt = (I 3 1).toInt := Eq.trans (congrArg Int32.toInt kq13) rfl
    have kz26 : ((I8 3 1) : Int32).toInt = (I 3 1).toInt := e25
    have b27 := Bd.o hB0 io9_112_97_12 bd9_12_8
    have e28 : ((I8 97 8) : Int32).toInt = (I 97 8).toInt := Eq.trans (congrArg Int32.toInt kq14) rfl
    have kz29 : ((I8 97 8) : Int32).toInt = (I 97 8).toInt := e28
    have b30 := Bd.o hB0 io9_112_1_11 bd9_11_13
    have e31 : ((I8 1 13) : Int32).toInt = (I 1 13).toInt := Eq.trans (congrArg Int32.toInt kq15) rfl
    have kz32 : ((I8 1 13) : Int32).toInt = (I 1 13).toInt := e31
    have b33 := Bd.o hB0 io9_112_97_12 bd9_12_23
    have e34 : ((I8 97 23) : Int32).toInt = (I 97 23).toInt := Eq.trans (congrArg Int32.toInt kq16) rfl
    have kz35 : ((I8 97 23) : Int32).toInt = (I 97 23).toInt := e34
    refine ⟨vp_of (a := (v3.toInt + 1)) e1 (by omega) (by omega), ?_⟩
    have z36 := i32 (xs (Int32.toNatClampNeg (v3 + 1)))
    refine ⟨vp_of (a := (v3.toInt + 2)) e3 (by omega) (by omega), ?_⟩
    have z37 := i32 (xs (Int32.toNatClampNeg (v3 + 2)))
    refine ⟨fun c38 => ?_, fun c38 => ?_⟩
    · skip
      have d39 : (((xs (Int32.toNatClampNeg (v3 + 2))).toInt) : Int) = (0) := ci_eq rfl rfl c38
      refine ⟨⟨hF0, rfl⟩, ?_⟩
      refine kp7 rfl hR0 rfl (kx (mx_learn hB10 (Or.inl rfl)) (kp6 rfl hR0 rfl (kp4 rfl (kp5 rfl hR0 rfl (kp0 rfl (kp1 rfl (kp2 rfl (kp3 rfl (sp_X12_learn hB10 hR0 (fun x40 y45 I41 J42 hB43 p44 kq49 kq48 kq47 kq46 k51 k50 k52 w54 w53 => ?_))))))))))
      intro o55
      have i56 := i32 x40
      have e57 : ((I41 3 1) : Int32).toInt = (I 3 1).toInt := Eq.trans (congrArg Int32.toInt (Eq.trans kq46 kq13)) rfl
      have kz58 : ((I41 3 1) : Int32).toInt = (I 3 1).toInt := e57
      have e59 : ((I41 97 8) : Int32).toInt = (I 97 8).toInt := Eq.trans (congrArg Int32.toInt (Eq.trans kq47 kq14)) rfl
      have kz60 : ((I41 97 8) : Int32).toInt = (I 97 8).toInt := e59
      have e61 : ((I41 1 13) : Int32).toInt = (I 1 13).toInt := Eq.trans (congrArg Int32.toInt (Eq.trans kq48 kq15)) rfl
      have kz62 : ((I41 1 13) : Int32).toInt = (I 1 13).toInt := e61
      have e63 : ((I41 97 23) : Int32).toInt = (I 97 23).toInt := Eq.trans (congrArg Int32.toInt (Eq.trans kq49 kq16)) rfl
      have kz64 : ((I41 97 23) : Int32).toInt = (I 97 23).toInt := e63
      have hr65 := RM.learn hR0 hRM w21 w54
      have hg66 : (x40 : Int32).toInt = (x7 : Int32).toInt := congrArg Int32.toInt hr65.2
      exact hN _ _ R hB43 hR0 hF0 ⟨(Eq.trans (e57) (Eq.trans hL0 (Eq.symm (e59)))), (Eq.trans (e61) (Eq.trans hL1 (Eq.symm (e63)))), (RT.kp (RT.kp hL2 k17 k18) k50 k51), trivial⟩ (R3.kp (R3.kp hR3 w20 (by have ya : ((I8 3 1) : Int32).toInt = (I 3 1).toInt := e25; have yb : ((I 3 1) : Int32).toInt = (I 3 1).toInt := rfl; first | exact Int.le_of_eq (ya.trans yb) | exact ya.trans yb | omega)) w53 (by have ya : ((I41 3 1) : Int32).toInt = (I 3 1).toInt := e57; have yb : ((I8 3 1) : Int32).toInt = (I 3 1).toInt := e25; first | exact Int.le_of_eq (ya.trans yb) | exact ya.trans yb | omega)) (hr65.1) trivial
    · skip
      have d67 : ¬ (((xs (Int32.toNatClampNeg (v3 + 2))).toInt) : Int) = (0) := ci_ne rfl rfl c38
      refine ⟨⟨hF0, rfl⟩, ?_⟩
      refine kp7 rfl hR0 rfl (kx (mx_learn hB10 (Or.inr rfl)) (kp6 rfl hR0 rfl (kp4 rfl (kp5 rfl hR0 rfl (kp0 rfl (kp1 rfl (kp2 rfl (kp3 rfl (sp_X12_learn hB10 hR0 (fun x68 y73 I69 J70 hB71 p72 kq77 kq76 kq75 kq74 k79 k78 k80 w82 w81 => ?_))))))))))
      intro o83
      have i84 := i32 x68
      have e85 : ((I69 3 1) : Int32).toInt = (I 3 1).toInt := Eq.trans (congrArg Int32.toInt (Eq.trans kq74 kq13)) rfl
      have kz86 : ((I69 3 1) : Int32).toInt = (I 3 1).toInt := e85
      have e87 : ((I69 97 8) : Int32).toInt = (I 97 8).toInt := Eq.trans (congrArg Int32.toInt (Eq.trans kq75 kq14)) rfl
      have kz88 : ((I69 97 8) : Int32).toInt = (I 97 8).toInt := e87
      have e89 : ((I69 1 13) : Int32).toInt = (I 1 13).toInt := Eq.trans (congrArg Int32.toInt (Eq.trans kq76 kq15)) rfl
      have kz90 : ((I69 1 13) : Int32).toInt = (I 1 13).toInt := e89
      have e91 : ((I69 97 23) : Int32).toInt = (I 97 23).toInt := Eq.trans (congrArg Int32.toInt (Eq.trans kq77 kq16)) rfl
      have kz92 : ((I69 97 23) : Int32).toInt = (I 97 23).toInt := e91
      have hr93 : RM I69 J70 R ∧ x68 = x7 := False.elim (by omega)
      have hg94 : (x68 : Int32).toInt = (x7 : Int32).toInt := congrArg Int32.toInt hr93.2
      exact hN _ _ R hB71 hR0 hF0 ⟨(Eq.trans (e85) (Eq.trans hL0 (Eq.symm (e87)))), (Eq.trans (e89) (Eq.trans hL1 (Eq.symm (e91)))), (RT.kp (RT.kp hL2 k17 k18) k78 k79), trivial⟩ (R3.kp (R3.kp hR3 w20 (by have ya : ((I8 3 1) : Int32).toInt = (I 3 1).toInt := e25; have yb : ((I 3 1) : Int32).toInt = (I 3 1).toInt := rfl; first | exact Int.le_of_eq (ya.trans yb) | exact ya.trans yb | omega)) w81 (by have ya : ((I69 3 1) : Int32).toInt = (I 3 1).toInt := e85; have yb : ((I8 3 1) : Int32).toInt = (I 3 1).toInt := e25; first | exact Int.le_of_eq (ya.trans yb) | exact ya.trans yb | omega)) (hr93.1) trivial
  · skip
    have d95 : ¬ (((xs (Int32.toNatClampNeg (v3 + 2))).toInt) : Int) = (0) := ci_ne rfl rfl c5
    refine ⟨⟨hF0, rfl⟩, ?_⟩
    refine kp7 rfl hR0 rfl (kx (cx_learn (Or.inr rfl) hR0) (kp6 rfl hR0 rfl (kp4 rfl (kp5 rfl hR0 rfl (kp0 rfl (kp1 rfl (kp2 rfl (kp3 rfl (sp_X11_learn hB0 hR0 (fun x96 y101 I97 J98 hB99 p100 kq105 kq104 kq103 kq102 k107 k106 k108 w110 w109 => ?_))))))))))
    intro o111
    have i112 := i32 x96
    have b113 := Bd.o hB0 io9_112_3_6 bd9_6_1
    have e114 : ((I97 3 1) : Int32).toInt = (I 3 1).toInt := Eq.trans (congrArg Int32.toInt kq102) rfl
    have kz115 : ((I97 3 1) : Int32).toInt = (I 3 1).toInt := e114
    have b116 := Bd.o hB0 io9_112_97_12 bd9_12_8
    have e117 : ((I97 97 8) : Int32).toInt = (I 97 8).toInt := Eq.trans (congrArg Int32.toInt kq103) rfl
    have kz118 : ((I97 97 8) : Int32).toInt = (I 97 8).toInt := e117
    have b119 := Bd.o hB0 io9_112_1_11 bd9_11_13
    have e120 : ((I97 1 13) : Int32).toInt = (I 1 13).toInt := Eq.trans (congrArg Int32.toInt kq104) rfl
    have kz121 : ((I97 1 13) : Int32).toInt = (I 1 13).toInt := e120
    have b122 := Bd.o hB0 io9_112_97_12 bd9_12_23
    have e123 : ((I97 97 23) : Int32).toInt = (I 97 23).toInt := Eq.trans (congrArg Int32.toInt kq105) rfl
    have kz124 : ((I97 97 23) : Int32).toInt = (I 97 23).toInt := e123
    refine ⟨vp_of (a := (v3.toInt + 1)) e1 (by omega) (by omega), ?_⟩
    have z125 := i32 (xs (Int32.toNatClampNeg (v3 + 1)))
    refine ⟨vp_of (a := (v3.toInt + 2)) e3 (by omega) (by omega), ?_⟩
    have z126 := i32 (xs (Int32.toNatClampNeg (v3 + 2)))
    refine ⟨fun c127 => ?_, fun c127 => ?_⟩
    · skip
      have d128 : (((xs (Int32.toNatClampNeg (v3 + 2))).toInt) : Int) = (0) := ci_eq rfl rfl c127
      refine ⟨⟨hF0, rfl⟩, ?_⟩
      refine kp7 rfl hR0 rfl (kx (mx_learn hB99 (Or.inl rfl)) (kp6 rfl hR0 rfl (kp4 rfl (kp5 rfl hR0 rfl (kp0 rfl (kp1 rfl (kp2 rfl (kp3 rfl (sp_X12_learn hB99 hR0 (fun x129 y134 I130 J131 hB132 p133 kq138 kq137 kq136 kq135 k140 k139 k141 w143 w142 => ?_))))))))))
      intro o144
      have i145 := i32 x129
      have e146 : ((I130 3 1) : Int32).toInt = (I 3 1).toInt := Eq.trans (congrArg Int32.toInt (Eq.trans kq135 kq102)) rfl
      have kz147 : ((I130 3 1) : Int32).toInt = (I 3 1).toInt := e146
      have e148 : ((I130 97 8) : Int32).toInt = (I 97 8).toInt := Eq.trans (congrArg Int32.toInt (Eq.trans kq136 kq103)) rfl
      have kz149 : ((I130 97 8) : Int32).toInt = (I 97 8).toInt := e148
      have e150 : ((I130 1 13) : Int32).toInt = (I 1 13).toInt := Eq.trans (congrArg Int32.toInt (Eq.trans kq137 kq104)) rfl
      have kz151 : ((I130 1 13) : Int32).toInt = (I 1 13).toInt := e150
      have e152 : ((I130 97 23) : Int32).toInt = (I 97 23).toInt := Eq.trans (congrArg Int32.toInt (Eq.trans kq138 kq105)) rfl
      have kz153 : ((I130 97 23) : Int32).toInt = (I 97 23).toInt := e152
      have hr154 : RM I130 J131 R ∧ x129 = x96 := False.elim (by omega)
      have hg155 : (x129 : Int32).toInt = (x96 : Int32).toInt := congrArg Int32.toInt hr154.2
      exact hN _ _ R hB132 hR0 hF0 ⟨(Eq.trans (e146) (Eq.trans hL0 (Eq.symm (e148)))), (Eq.trans (e150) (Eq.trans hL1 (Eq.symm (e152)))), (RT.kp (RT.kp hL2 k106 k107) k139 k140), trivial⟩ (R3.kp (R3.kp hR3 w109 (by have ya : ((I97 3 1) : Int32).toInt = (I 3 1).toInt := e114; have yb : ((I 3 1) : Int32).toInt = (I 3 1).toInt := rfl; first | exact Int.le_of_eq (ya.trans yb) | exact ya.trans yb | omega)) w142 (by have ya : ((I130 3 1) : Int32).toInt = (I 3 1).toInt := e146; have yb : ((I97 3 1) : Int32).toInt = (I 3 1).toInt := e114; first | exact Int.le_of_eq (ya.trans yb) | exact ya.trans yb | omega)) (hr154.1) trivial
    · skip
      have d156 : ¬ (((xs (Int32.toNatClampNeg (v3 + 2))).toInt) : Int) = (0) := ci_ne rfl rfl c127
      refine ⟨⟨hF0, rfl⟩, ?_⟩
      refine kp7 rfl hR0 rfl (kx (mx_learn hB99 (Or.inr rfl)) (kp6 rfl hR0 rfl (kp4 rfl (kp5 rfl hR0 rfl (kp0 rfl (kp1 rfl (kp2 rfl (kp3 rfl (sp_X12_learn hB99 hR0 (fun x157 y162 I158 J159 hB160 p161 kq166 kq165 kq164 kq163 k168 k167 k169 w171 w170 => ?_))))))))))
      intro o172
      have i173 := i32 x157
      have e174 : ((I158 3 1) : Int32).toInt = (I 3 1).toInt := Eq.trans (congrArg Int32.toInt (Eq.trans kq163 kq102)) rfl
      have kz175 : ((I158 3 1) : Int32).toInt = (I 3 1).toInt := e174
      have e176 : ((I158 97 8) : Int32).toInt = (I 97 8).toInt := Eq.trans (congrArg Int32.toInt (Eq.trans kq164 kq103)) rfl
      have kz177 : ((I158 97 8) : Int32).toInt = (I 97 8).toInt := e176
      have e178 : ((I158 1 13) : Int32).toInt = (I 1 13).toInt := Eq.trans (congrArg Int32.toInt (Eq.trans kq165 kq104)) rfl
      have kz179 : ((I158 1 13) : Int32).toInt = (I 1 13).toInt := e178
      have e180 : ((I158 97 23) : Int32).toInt = (I 97 23).toInt := Eq.trans (congrArg Int32.toInt (Eq.trans kq166 kq105)) rfl
      have kz181 : ((I158 97 23) : Int32).toInt = (I 97 23).toInt := e180
      have hr182 := RM.learn hR0 hRM w110 w171
      have hg183 : (x157 : Int32).toInt = (x96 : Int32).toInt := congrArg Int32.toInt hr182.2
      exact hN _ _ R hB160 hR0 hF0 ⟨(Eq.trans (e174) (Eq.trans hL0 (Eq.symm (e176)))), (Eq.trans (e178) (Eq.trans hL1 (Eq.symm (e180)))), (RT.kp (RT.kp hL2 k106 k107) k167 k168), trivial⟩ (R3.kp (R3.kp hR3 w109 (by have ya : ((I97 3 1) : Int32).toInt = (I 3 1).toInt := e114; have yb : ((I 3 1) : Int32).toInt = (I 3 1).toInt := rfl; first | exact Int.le_of_eq (ya.trans yb) | exact ya.trans yb | omega)) w170 (by have ya : ((I158 3 1) : Int32).toInt = (I 3 1).toInt := e174; have yb : ((I97 3 1) : Int32).toInt = (I 3 1).toInt := e114; first | exact Int.le_of_eq (ya.trans yb) | exact ya.trans yb | omega)) (hr182.1) trivial
set_option maxRecDepth 100000 in
set_option maxHeartbeats 2000000 in
theorem lc_26 {Q : Nat → Qt} {P : Kt} {L : Nat} {xs : Nat → Int32} (hc : Cl (AM 640) false true L xs 2 112 kL_law Q P) (hL : L ≤ 3584) {v3 : Int32} {I : Im} {J : Jm} {R : Rm} (hB0 : Bd I) (hR0 : RI R) (hF0 : Fl R) (hL0 : (I 3 1).toInt = (I 97 8).toInt) (hL1 : (I 1 13).toInt = (I 97 23).toInt) (hL2 : RT I) (hL3 : True) (hR3 : R3 I J) (hRM : RM I J R) (hFQ : True) (h0 : 0 ≤ v3.toInt) (h7 : v3.toInt + 7 ≤ (L : Int)) (hN : ∀ (I : Im) (J : Jm) (R : Rm), Bd I → RI R → Fl R → RLz I → R3 I J → RM I J R → True → P 1889 112 [(0, .ref 0), (1, .ref 1), (2, .ref 97), (3, .int v3)] [] I J R) : P 1088 112 [(0, .ref 0), (1, .ref 1), (2, .ref 97), (3, .int v3)] [] I J R := by
  have i_v3 := i32 v3
  have e97 : I 97 8 = nI (fl I) := (Int32.toInt_inj.mp hL0).symm.trans (fl_bd hB0).1
  have b31 := Bd.o hB0 io9_112_3_6 bd9_6_1
  refine ls_1088 hc v3 _ _ _ ?_
  have e1 : ((v3 + 1) : Int32).toInt = (v3.toInt) + (1) := ti_add rfl rfl (by omega)
  refine ⟨vp_of (a := (v3.toInt + 1)) e1 (by omega) (by omega), ?_⟩
  have z2 := i32 (xs (Int32.toNatClampNeg (v3 + 1)))
  refine ⟨⟨hF0, rfl⟩, ?_⟩
  refine kp7 rfl hR0 rfl (kpA rfl (kpnm rfl hR0 rfl (kp102 rfl hR0 rfl (kp6 rfl hR0 rfl (kp4 rfl (kp5 rfl hR0 rfl (kp0 rfl (kp1 rfl (kp2 rfl (kp3 rfl (sp_X11_rule hB0 hR0 (fun x3 y8 I4 J5 hB6 p7 kq12 kq11 kq10 kq9 k14 k13 k15 w19 w18 w17 w16 => ?_))))))))))))
  intro o20
  have i21 := i32 x3
  have b22 := Bd.o hB0 io9_112_3_6 bd9_6_1
  have e23 : ((I4 3 1) : Int32).toInt = (I 3 1).toInt := Eq.trans (congrArg Int32.toInt kq9) rfl
  have kz24 : ((I4 3 1) : Int32).toInt = (I 3 1).toInt := e23
  have b25 := Bd.o hB0 io9_112_97_12 bd9_12_8
  have e26 : ((I4 97 8) : Int32).toInt = (I 97 8).toInt := Eq.trans (congrArg Int32.toInt kq10) rfl
  have kz27 : ((I4 97 8) : Int32).toInt = (I 97 8).toInt := e26
  have b28 := Bd.o hB0 io9_112_1_11 bd9_11_13
  have e29 : ((I4 1 13) : Int32).toInt = (I 1 13).toInt := Eq.trans (congrArg Int32.toInt kq11) rfl
  have kz30 : ((I4 1 13) : Int32).toInt = (I 1 13).toInt := e29
  have b31 := Bd.o hB0 io9_112_97_12 bd9_12_23
  have e32 : ((I4 97 23) : Int32).toInt = (I 97 23).toInt := Eq.trans (congrArg Int32.toInt kq12) rfl
  have kz33 : ((I4 97 23) : Int32).toInt = (I 97 23).toInt := e32
  refine ⟨vp_of (a := (v3.toInt + 1)) e1 (by omega) (by omega), ?_⟩
  have z34 := i32 (xs (Int32.toNatClampNeg (v3 + 1)))
  refine ⟨⟨hF0, rfl⟩, ?_⟩
  refine kp7 rfl hR0 rfl (kpA rfl (kpnm rfl hR0 rfl (kp6 rfl hR0 rfl (kp4 rfl (kp5 rfl hR0 rfl (kp0 rfl (kp1 rfl (kp2 rfl (kp3 rfl (sp_X12_rule hB6 hR0 (fun x35 y40 I36 J37 hB38 p39 kq44 kq43 kq42 kq41 k46 k45 k47 w50 w49 w48 => ?_)))))))))))
  intro o51
  have f52 : Fr pK I4 I36 := p39.1
  have i53 := i32 x35
  have e54 : ((I36 3 1) : Int32).toInt = (I 3 1).toInt := Eq.trans (congrArg Int32.toInt (Eq.trans kq41 kq9)) rfl
  have kz55 : ((I36 3 1) : Int32).toInt = (I 3 1).toInt := e54
  have e56 : ((I36 97 8) : Int32).toInt = (I 97 8).toInt := Eq.trans (congrArg Int32.toInt (Eq.trans kq42 kq10)) rfl
  have kz57 : ((I36 97 8) : Int32).toInt = (I 97 8).toInt := e56
  have e58 : ((I36 1 13) : Int32).toInt = (I 1 13).toInt := Eq.trans (congrArg Int32.toInt (Eq.trans kq43 kq11)) rfl
  have kz59 : ((I36 1 13) : Int32).toInt = (I 1 13).toInt := e58
  have e60 : ((I36 97 23) : Int32).toInt = (I 97 23).toInt := Eq.trans (congrArg Int32.toInt (Eq.trans kq44 kq12)) rfl
  have kz61 : ((I36 97 23) : Int32).toInt = (I 97 23).toInt := e60
  exact hN _ _ R hB38 hR0 hF0 ⟨(Eq.trans (e54) (Eq.trans hL0 (Eq.symm (e56)))), (Eq.trans (e58) (Eq.trans hL1 (Eq.symm (e60)))), (RT.kp (RT.kp hL2 k13 k14) k45 k46), trivial⟩ (R3.kp (R3.kp hR3 w16 (by have ya : ((I4 3 1) : Int32).toInt = (I 3 1).toInt := e23; have yb : ((I 3 1) : Int32).toInt = (I 3 1).toInt := rfl; first | exact Int.le_of_eq (ya.trans yb) | exact ya.trans yb | omega)) w48 (by have ya : ((I36 3 1) : Int32).toInt = (I 3 1).toInt := e54; have yb : ((I4 3 1) : Int32).toInt = (I 3 1).toInt := e23; first | exact Int.le_of_eq (ya.trans yb) | exact ya.trans yb | omega)) (RM.kp hR0 (RM.kp hR0 hRM ⟨w17, w18, (fun j _ => congrFun w19.1 j)⟩) ⟨w49, w50, (fun j hj => f52.1 j hj)⟩) trivial
set_option maxRecDepth 100000 in
set_option maxHeartbeats 2000000 in
theorem lc_27 {Q : Nat → Qt} {P : Kt} {L : Nat} {xs : Nat → Int32} (hc : Cl (AM 640) false true L xs 2 112 kL_law Q P) (hL : L ≤ 3584) {v3 : Int32} {I : Im} {J : Jm} {R : Rm} (hB0 : Bd I) (hR0 : RI R) (hF0 : Fl R) (hL0 : (I 3 1).toInt = (I 97 8).toInt) (hL1 : (I 1 13).toInt = (I 97 23).toInt) (hL2 : RT I) (hL3 : True) (hR3 : R3 I J) (hRM : RM I J R) (hFQ : True) (h0 : 0 ≤ v3.toInt) (h7 : v3.toInt + 7 ≤ (L : Int)) (hN : ∀ (I : Im) (J : Jm) (R : Rm), Bd I → RI R → Fl R → RLz I → R3 I J → RM I J R → True → P 1889 112 [(0, .ref 0), (1, .ref 1), (2, .ref 97), (3, .int v3)] [] I J R) : P 1111 112 [(0, .ref 0), (1, .ref 1), (2, .ref 97), (3, .int v3)] [] I J R := by
  have i_v3 := i32 v3
  have e97 : I 97 8 = nI (fl I) := (Int32.toInt_inj.mp hL0).symm.trans (fl_bd hB0).1
  have b31 := Bd.o hB0 io9_112_3_6 bd9_6_1
  refine ls_1111 hc v3 _ _ _ ?_
  have e1 : ((v3 + 1) : Int32).toInt = (v3.toInt) + (1) := ti_add rfl rfl (by omega)
  refine ⟨vp_of (a := (v3.toInt + 1)) e1 (by omega) (by omega), ?_⟩
  have z2 := i32 (xs (Int32.toNatClampNeg (v3 + 1)))
  have e3 : ((v3 + 2) : Int32).toInt = (v3.toInt) + (2) := ti_add rfl rfl (by omega)
  refine ⟨vp_of (a := (v3.toInt + 2)) e3 (by omega) (by omega), ?_⟩
  have z4 := i32 (xs (Int32.toNatClampNeg (v3 + 2)))
  refine ⟨⟨hF0, rfl⟩, ?_⟩
  refine kp7 rfl hR0 rfl (kpA rfl (kpnm rfl hR0 rfl (kp102 rfl hR0 rfl (kp6 rfl hR0 rfl (kp4 rfl (kp5 rfl hR0 rfl (kp0 rfl (kp1 rfl (kp2 rfl (kp3 rfl (sp_X11_fewest hB0 hR0 (fun x5 y10 I6 J7 hB8 p9 kq14 kq13 kq12 kq11 k16 k15 k17 w21 w20 w19 w18 => ?_))))))))))))
  have i22 := i32 x5
  have b23 := Bd.o hB0 io9_112_3_6 bd9_6_1
  have e24 : ((I6 3 1) : Int32).toInt = (I 3 1).toInt := Eq.trans (congrArg Int32.toInt kq11) rfl
  have kz25 : ((I6 3 1) : Int32).toInt = (I 3 1).toInt := e24
  have b26 := Bd.o hB0 io9_112_97_12 bd9_12_8
  have e27 : ((I6 97 8) : Int32).toInt = (I 97 8).toInt := Eq.trans (congrArg Int32.toInt kq12) rfl
  have kz28 : ((I6 97 8) : Int32).toInt = (I 97 8).toInt := e27
  have b29 := Bd.o hB0 io9_112_1_11 bd9_11_13
  have e30 : ((I6 1 13) : Int32).toInt = (I 1 13).toInt := Eq.trans (congrArg Int32.toInt kq13) rfl
  have kz31 : ((I6 1 13) : Int32).toInt = (I 1 13).toInt := e30
  have b32 := Bd.o hB0 io9_112_97_12 bd9_12_23
  have e33 : ((I6 97 23) : Int32).toInt = (I 97 23).toInt := Eq.trans (congrArg Int32.toInt kq14) rfl
  have kz34 : ((I6 97 23) : Int32).toInt = (I 97 23).toInt := e33
  refine ⟨vp_of (a := (v3.toInt + 1)) e1 (by omega) (by omega), ?_⟩
  have z35 := i32 (xs (Int32.toNatClampNeg (v3 + 1)))
  refine ⟨vp_of (a := (v3.toInt + 2)) e3 (by omega) (by omega), ?_⟩
  have z36 := i32 (xs (Int32.toNatClampNeg (v3 + 2)))
  refine ⟨⟨hF0, rfl⟩, ?_⟩
  refine kp7 rfl hR0 rfl (kpA rfl (kpnm rfl hR0 rfl (kp6 rfl hR0 rfl (kp4 rfl (kp5 rfl hR0 rfl (kp0 rfl (kp1 rfl (kp2 rfl (kp3 rfl (sp_X12_fewest hB8 hR0 (fun x37 y42 I38 J39 hB40 p41 kq46 kq45 kq44 kq43 k48 k47 k49 w52 w51 w50 => ?_)))))))))))
  have f53 : Fr pT I6 I38 := p41
  have i54 := i32 x37
  have e55 : ((I38 3 1) : Int32).toInt = (I 3 1).toInt := Eq.trans (congrArg Int32.toInt (Eq.trans kq43 kq11)) rfl
  have kz56 : ((I38 3 1) : Int32).toInt = (I 3 1).toInt := e55
  have e57 : ((I38 97 8) : Int32).toInt = (I 97 8).toInt := Eq.trans (congrArg Int32.toInt (Eq.trans kq44 kq12)) rfl
  have kz58 : ((I38 97 8) : Int32).toInt = (I 97 8).toInt := e57
  have e59 : ((I38 1 13) : Int32).toInt = (I 1 13).toInt := Eq.trans (congrArg Int32.toInt (Eq.trans kq45 kq13)) rfl
  have kz60 : ((I38 1 13) : Int32).toInt = (I 1 13).toInt := e59
  have e61 : ((I38 97 23) : Int32).toInt = (I 97 23).toInt := Eq.trans (congrArg Int32.toInt (Eq.trans kq46 kq14)) rfl
  have kz62 : ((I38 97 23) : Int32).toInt = (I 97 23).toInt := e61
  exact hN _ _ R hB40 hR0 hF0 ⟨(Eq.trans (e55) (Eq.trans hL0 (Eq.symm (e57)))), (Eq.trans (e59) (Eq.trans hL1 (Eq.symm (e61)))), (RT.kp (RT.kp hL2 k15 k16) k47 k48), trivial⟩ (R3.kp (R3.kp hR3 w18 (by have ya : ((I6 3 1) : Int32).toInt = (I 3 1).toInt := e24; have yb : ((I 3 1) : Int32).toInt = (I 3 1).toInt := rfl; first | exact Int.le_of_eq (ya.trans yb) | exact ya.trans yb | omega)) w50 (by have ya : ((I38 3 1) : Int32).toInt = (I 3 1).toInt := e55; have yb : ((I6 3 1) : Int32).toInt = (I 3 1).toInt := e24; first | exact Int.le_of_eq (ya.trans yb) | exact ya.trans yb | omega)) (RM.kp hR0 (RM.kp hR0 hRM ⟨w19, w20, (fun j _ => congrFun w21.1 j)⟩) ⟨w51, w52, (fun j _ => f53.1 j trivial)⟩) trivial
set_option maxRecDepth 100000 in
set_option maxHeartbeats 2000000 in
theorem lc_28 {Q : Nat → Qt} {P : Kt} {L : Nat} {xs : Nat → Int32} (hc : Cl (AM 640) false true L xs 2 112 kL_law Q P) (hL : L ≤ 3584) {v3 : Int32} {I : Im} {J : Jm} {R : Rm} (hB0 : Bd I) (hR0 : RI R) (hF0 : Fl R) (hL0 : (I 3 1).toInt = (I 97 8).toInt) (hL1 : (I 1 13).toInt = (I 97 23).toInt) (hL2 : RT I) (hL3 : True) (hR3 : R3 I J) (hRM : RM I J R) (hFQ : True) (h0 : 0 ≤ v3.toInt) (h7 : v3.toInt + 7 ≤ (L : Int)) (hN : ∀ (I : Im) (J : Jm) (R : Rm), Bd I → RI R → Fl R → RLz I → R3 I J → RM I J R → True → P 1889 112 [(0, .ref 0), (1, .ref 1), (2, .ref 97), (3, .int v3)] [] I J R) : P 1144 112 [(0, .ref 0), (1, .ref 1), (2, .ref 97), (3, .int v3)] [] I J R := by
  have i_v3 := i32 v3
  have e97 : I 97 8 = nI (fl I) := (Int32.toInt_inj.mp hL0).symm.trans (fl_bd hB0).1
  have b31 := Bd.o hB0 io9_112_3_6 bd9_6_1
  refine ls_1144 hc v3 _ _ _ ?_
  have e1 : ((v3 + 1) : Int32).toInt = (v3.toInt) + (1) := ti_add rfl rfl (by omega)
  refine ⟨vp_of (a := (v3.toInt + 1)) e1 (by omega) (by omega), ?_⟩
  have z2 := i32 (xs (Int32.toNatClampNeg (v3 + 1)))
  have e3 : ((v3 + 2) : Int32).toInt = (v3.toInt) + (2) := ti_add rfl rfl (by omega)
  refine ⟨vp_of (a := (v3.toInt + 2)) e3 (by omega) (by omega), ?_⟩
  have z4 := i32 (xs (Int32.toNatClampNeg (v3 + 2)))
  have e5 : ((v3 + 3) : Int32).toInt = (v3.toInt) + (3) := ti_add rfl rfl (by omega)
  refine ⟨vp_of (a := (v3.toInt + 3)) e5 (by omega) (by omega), ?_⟩
  have z6 := i32 (xs (Int32.toNatClampNeg (v3 + 3)))
  refine ⟨⟨hF0, rfl⟩, ?_⟩
  refine kp7 rfl hR0 rfl (kpA rfl (kpnm rfl hR0 rfl (kp102 rfl hR0 rfl (kp6 rfl hR0 rfl (kp4 rfl (kp5 rfl hR0 rfl (kp0 rfl (kp1 rfl (kp2 rfl (kp3 rfl (sp_X11_fewestAt hB0 hR0 (fun x7 y12 I8 J9 hB10 p11 kq16 kq15 kq14 kq13 k18 k17 k19 w23 w22 w21 w20 => ?_))))))))))))
  have i24 := i32 x7
  have b25 := Bd.o hB0 io9_112_3_6 bd9_6_1
  have e26 : ((I8 3 1) : Int32).toInt = (I 3 1).toInt := Eq.trans (congrArg Int32.toInt kq13) rfl
  have kz27 : ((I8 3 1) : Int32).toInt = (I 3 1).toInt := e26
  have b28 := Bd.o hB0 io9_112_97_12 bd9_12_8
  have e29 : ((I8 97 8) : Int32).toInt = (I 97 8).toInt := Eq.trans (congrArg Int32.toInt kq14) rfl
  have kz30 : ((I8 97 8) : Int32).toInt = (I 97 8).toInt := e29
  have b31 := Bd.o hB0 io9_112_1_11 bd9_11_13
  have e32 : ((I8 1 13) : Int32).toInt = (I 1 13).toInt := Eq.trans (congrArg Int32.toInt kq15) rfl
  have kz33 : ((I8 1 13) : Int32).toInt = (I 1 13).toInt := e32
  have b34 := Bd.o hB0 io9_112_97_12 bd9_12_23
  have e35 : ((I8 97 23) : Int32).toInt = (I 97 23).toInt := Eq.trans (congrArg Int32.toInt kq16) rfl
  have kz36 : ((I8 97 23) : Int32).toInt = (I 97 23).toInt := e35
  refine ⟨vp_of (a := (v3.toInt + 1)) e1 (by omega) (by omega), ?_⟩
  have z37 := i32 (xs (Int32.toNatClampNeg (v3 + 1)))
  refine ⟨vp_of (a := (v3.toInt + 2)) e3 (by omega) (by omega), ?_⟩
  have z38 := i32 (xs (Int32.toNatClampNeg (v3 + 2)))
  refine ⟨vp_of (a := (v3.toInt + 3)) e5 (by omega) (by omega), ?_⟩
  have z39 := i32 (xs (Int32.toNatClampNeg (v3 + 3)))
  refine ⟨⟨hF0, rfl⟩, ?_⟩
  refine kp7 rfl hR0 rfl (kpA rfl (kpnm rfl hR0 rfl (kp6 rfl hR0 rfl (kp4 rfl (kp5 rfl hR0 rfl (kp0 rfl (kp1 rfl (kp2 rfl (kp3 rfl (sp_X12_fewestAt hB10 hR0 (fun x40 y45 I41 J42 hB43 p44 kq49 kq48 kq47 kq46 k51 k50 k52 w55 w54 w53 => ?_)))))))))))
  have f56 : Fr pT I8 I41 := p44
  have i57 := i32 x40
  have e58 : ((I41 3 1) : Int32).toInt = (I 3 1).toInt := Eq.trans (congrArg Int32.toInt (Eq.trans kq46 kq13)) rfl
  have kz59 : ((I41 3 1) : Int32).toInt = (I 3 1).toInt := e58
  have e60 : ((I41 97 8) : Int32).toInt = (I 97 8).toInt := Eq.trans (congrArg Int32.toInt (Eq.trans kq47 kq14)) rfl
  have kz61 : ((I41 97 8) : Int32).toInt = (I 97 8).toInt := e60
  have e62 : ((I41 1 13) : Int32).toInt = (I 1 13).toInt := Eq.trans (congrArg Int32.toInt (Eq.trans kq48 kq15)) rfl
  have kz63 : ((I41 1 13) : Int32).toInt = (I 1 13).toInt := e62
  have e64 : ((I41 97 23) : Int32).toInt = (I 97 23).toInt := Eq.trans (congrArg Int32.toInt (Eq.trans kq49 kq16)) rfl
  have kz65 : ((I41 97 23) : Int32).toInt = (I 97 23).toInt := e64
  exact hN _ _ R hB43 hR0 hF0 ⟨(Eq.trans (e58) (Eq.trans hL0 (Eq.symm (e60)))), (Eq.trans (e62) (Eq.trans hL1 (Eq.symm (e64)))), (RT.kp (RT.kp hL2 k17 k18) k50 k51), trivial⟩ (R3.kp (R3.kp hR3 w20 (by have ya : ((I8 3 1) : Int32).toInt = (I 3 1).toInt := e26; have yb : ((I 3 1) : Int32).toInt = (I 3 1).toInt := rfl; first | exact Int.le_of_eq (ya.trans yb) | exact ya.trans yb | omega)) w53 (by have ya : ((I41 3 1) : Int32).toInt = (I 3 1).toInt := e58; have yb : ((I8 3 1) : Int32).toInt = (I 3 1).toInt := e26; first | exact Int.le_of_eq (ya.trans yb) | exact ya.trans yb | omega)) (RM.kp hR0 (RM.kp hR0 hRM ⟨w21, w22, (fun j _ => congrFun w23.1 j)⟩) ⟨w54, w55, (fun j _ => f56.1 j trivial)⟩) trivial
set_option maxRecDepth 100000 in
set_option maxHeartbeats 2000000 in
theorem lc_29 {Q : Nat → Qt} {P : Kt} {L : Nat} {xs : Nat → Int32} (hc : Cl (AM 640) false true L xs 2 112 kL_law Q P) (hL : L ≤ 3584) {v3 : Int32} {I : Im} {J : Jm} {R : Rm} (hB0 : Bd I) (hR0 : RI R) (hF0 : Fl R) (hL0 : (I 3 1).toInt = (I 97 8).toInt) (hL1 : (I 1 13).toInt = (I 97 23).toInt) (hL2 : RT I) (hL3 : True) (hR3 : R3 I J) (hRM : RM I J R) (hFQ : True) (h0 : 0 ≤ v3.toInt) (h7 : v3.toInt + 7 ≤ (L : Int)) (hN : ∀ (I : Im) (J : Jm) (R : Rm), Bd I → RI R → Fl R → RLz I → R3 I J → RM I J R → True → P 1889 112 [(0, .ref 0), (1, .ref 1), (2, .ref 97), (3, .int v3)] [] I J R) : P 1187 112 [(0, .ref 0), (1, .ref 1), (2, .ref 97), (3, .int v3)] [] I J R := by
  have i_v3 := i32 v3
  have e97 : I 97 8 = nI (fl I) := (Int32.toInt_inj.mp hL0).symm.trans (fl_bd hB0).1
  have b31 := Bd.o hB0 io9_112_3_6 bd9_6_1
  refine ls_1187 hc v3 _ _ _ ?_
  have e1 : ((v3 + 1) : Int32).toInt = (v3.toInt) + (1) := ti_add rfl rfl (by omega)
  refine ⟨vp_of (a := (v3.toInt + 1)) e1 (by omega) (by omega), ?_⟩
  have z2 := i32 (xs (Int32.toNatClampNeg (v3 + 1)))
  have e3 : ((v3 + 2) : Int32).toInt = (v3.toInt) + (2) := ti_add rfl rfl (by omega)
  refine ⟨vp_of (a := (v3.toInt + 2)) e3 (by omega) (by omega), ?_⟩
  have z4 := i32 (xs (Int32.toNatClampNeg (v3 + 2)))
  have e5 : ((v3 + 3) : Int32).toInt = (v3.toInt) + (3) := ti_add rfl rfl (by omega)
  refine ⟨vp_of (a := (v3.toInt + 3)) e5 (by omega) (by omega), ?_⟩
  have z6 := i32 (xs (Int32.toNatClampNeg (v3 + 3)))
  refine ⟨⟨hF0, rfl⟩, ?_⟩
  refine kp7 rfl hR0 rfl (kpA rfl (kpnm rfl hR0 rfl (kp102 rfl hR0 rfl (kp6 rfl hR0 rfl (kp4 rfl (kp5 rfl hR0 rfl (kp0 rfl (kp1 rfl (kp2 rfl (kp3 rfl (sp_X11_ways hB0 hR0 (fun x7 y12 I8 J9 hB10 p11 kq16 kq15 kq14 kq13 k18 k17 k19 w23 w22 w21 w20 => ?_))))))))))))
  have i24 := i32 x7
  have b25 := Bd.o hB0 io9_112_3_6 bd9_6_1
  have e26 : ((I8 3 1) : Int32).toInt = (I 3 1).toInt := Eq.trans (congrArg Int32.toInt kq13) rfl
  have kz27 : ((I8 3 1) : Int32).toInt = (I 3 1).toInt := e26
  have b28 := Bd.o hB0 io9_112_97_12 bd9_12_8
  have e29 : ((I8 97 8) : Int32).toInt = (I 97 8).toInt := Eq.trans (congrArg Int32.toInt kq14) rfl
  have kz30 : ((I8 97 8) : Int32).toInt = (I 97 8).toInt := e29
  have b31 := Bd.o hB0 io9_112_1_11 bd9_11_13
  have e32 : ((I8 1 13) : Int32).toInt = (I 1 13).toInt := Eq.trans (congrArg Int32.toInt kq15) rfl
  have kz33 : ((I8 1 13) : Int32).toInt = (I 1 13).toInt := e32
  have b34 := Bd.o hB0 io9_112_97_12 bd9_12_23
  have e35 : ((I8 97 23) : Int32).toInt = (I 97 23).toInt := Eq.trans (congrArg Int32.toInt kq16) rfl
  have kz36 : ((I8 97 23) : Int32).toInt = (I 97 23).toInt := e35
  refine ⟨vp_of (a := (v3.toInt + 1)) e1 (by omega) (by omega), ?_⟩
  have z37 := i32 (xs (Int32.toNatClampNeg (v3 + 1)))
  refine ⟨vp_of (a := (v3.toInt + 2)) e3 (by omega) (by omega), ?_⟩
  have z38 := i32 (xs (Int32.toNatClampNeg (v3 + 2)))
  refine ⟨vp_of (a := (v3.toInt + 3)) e5 (by omega) (by omega), ?_⟩
  have z39 := i32 (xs (Int32.toNatClampNeg (v3 + 3)))
  refine ⟨⟨hF0, rfl⟩, ?_⟩
  refine kp7 rfl hR0 rfl (kpA rfl (kpnm rfl hR0 rfl (kp6 rfl hR0 rfl (kp4 rfl (kp5 rfl hR0 rfl (kp0 rfl (kp1 rfl (kp2 rfl (kp3 rfl (sp_X12_ways hB10 hR0 (fun x40 y45 I41 J42 hB43 p44 kq49 kq48 kq47 kq46 k51 k50 k52 w55 w54 w53 => ?_)))))))))))
  have f56 : Fr pT I8 I41 := p44
  have i57 := i32 x40
  have e58 : ((I41 3 1) : Int32).toInt = (I 3 1).toInt := Eq.trans (congrArg Int32.toInt (Eq.trans kq46 kq13)) rfl
  have kz59 : ((I41 3 1) : Int32).toInt = (I 3 1).toInt := e58
  have e60 : ((I41 97 8) : Int32).toInt = (I 97 8).toInt := Eq.trans (congrArg Int32.toInt (Eq.trans kq47 kq14)) rfl
  have kz61 : ((I41 97 8) : Int32).toInt = (I 97 8).toInt := e60
  have e62 : ((I41 1 13) : Int32).toInt = (I 1 13).toInt := Eq.trans (congrArg Int32.toInt (Eq.trans kq48 kq15)) rfl
  have kz63 : ((I41 1 13) : Int32).toInt = (I 1 13).toInt := e62
  have e64 : ((I41 97 23) : Int32).toInt = (I 97 23).toInt := Eq.trans (congrArg Int32.toInt (Eq.trans kq49 kq16)) rfl
  have kz65 : ((I41 97 23) : Int32).toInt = (I 97 23).toInt := e64
  exact hN _ _ R hB43 hR0 hF0 ⟨(Eq.trans (e58) (Eq.trans hL0 (Eq.symm (e60)))), (Eq.trans (e62) (Eq.trans hL1 (Eq.symm (e64)))), (RT.kp (RT.kp hL2 k17 k18) k50 k51), trivial⟩ (R3.kp (R3.kp hR3 w20 (by have ya : ((I8 3 1) : Int32).toInt = (I 3 1).toInt := e26; have yb : ((I 3 1) : Int32).toInt = (I 3 1).toInt := rfl; first | exact Int.le_of_eq (ya.trans yb) | exact ya.trans yb | omega)) w53 (by have ya : ((I41 3 1) : Int32).toInt = (I 3 1).toInt := e58; have yb : ((I8 3 1) : Int32).toInt = (I 3 1).toInt := e26; first | exact Int.le_of_eq (ya.trans yb) | exact ya.trans yb | omega)) (RM.kp hR0 (RM.kp hR0 hRM ⟨w21, w22, (fun j _ => congrFun w23.1 j)⟩) ⟨w54, w55, (fun j _ => f56.1 j trivial)⟩) trivial
set_option maxRecDepth 100000 in
set_option maxHeartbeats 2000000 in
theorem lc_30 {Q : Nat → Qt} {P : Kt} {L : Nat} {xs : Nat → Int32} (hc : Cl (AM 640) false true L xs 2 112 kL_law Q P) (hL : L ≤ 3584) {v3 : Int32} {I : Im} {J : Jm} {R : Rm} (hB0 : Bd I) (hR0 : RI R) (hF0 : Fl R) (hL0 : (I 3 1).toInt = (I 97 8).toInt) (hL1 : (I 1 13).toInt = (I 97 23).toInt) (hL2 : RT I) (hL3 : True) (hR3 : R3 I J) (hRM : RM I J R) (hFQ : True) (h0 : 0 ≤ v3.toInt) (h7 : v3.toInt + 7 ≤ (L : Int)) (hN : ∀ (I : Im) (J : Jm) (R : Rm), Bd I → RI R → Fl R → RLz I → R3 I J → RM I J R → True → P 1889 112 [(0, .ref 0), (1, .ref 1), (2, .ref 97), (3, .int v3)] [] I J R) : P 1230 112 [(0, .ref 0), (1, .ref 1), (2, .ref 97), (3, .int v3)] [] I J R := by
  have i_v3 := i32 v3
  have e97 : I 97 8 = nI (fl I) := (Int32.toInt_inj.mp hL0).symm.trans (fl_bd hB0).1
  have b31 := Bd.o hB0 io9_112_3_6 bd9_6_1
  refine ls_1230 hc v3 _ _ _ ?_
  have e1 : ((v3 + 1) : Int32).toInt = (v3.toInt) + (1) := ti_add rfl rfl (by omega)
  refine ⟨vp_of (a := (v3.toInt + 1)) e1 (by omega) (by omega), ?_⟩
  have z2 := i32 (xs (Int32.toNatClampNeg (v3 + 1)))
  have e3 : ((v3 + 2) : Int32).toInt = (v3.toInt) + (2) := ti_add rfl rfl (by omega)
  refine ⟨vp_of (a := (v3.toInt + 2)) e3 (by omega) (by omega), ?_⟩
  have z4 := i32 (xs (Int32.toNatClampNeg (v3 + 2)))
  have e5 : ((v3 + 3) : Int32).toInt = (v3.toInt) + (3) := ti_add rfl rfl (by omega)
  refine ⟨vp_of (a := (v3.toInt + 3)) e5 (by omega) (by omega), ?_⟩
  have z6 := i32 (xs (Int32.toNatClampNeg (v3 + 3)))
  have e7 : ((v3 + 4) : Int32).toInt = (v3.toInt) + (4) := ti_add rfl rfl (by omega)
  refine ⟨vp_of (a := (v3.toInt + 4)) e7 (by omega) (by omega), ?_⟩
  have z8 := i32 (xs (Int32.toNatClampNeg (v3 + 4)))
  refine ⟨⟨hF0, rfl⟩, ?_⟩
  refine kp7 rfl hR0 rfl (kpA rfl (kpnm rfl hR0 rfl (kp102 rfl hR0 rfl (kx (cx_oddsThat hB0 hR0) (kp6 rfl hR0 rfl (kp4 rfl (kp5 rfl hR0 rfl (kp0 rfl (kp1 rfl (kp2 rfl (kp3 rfl (sp_X11_oddsThat hB0 hR0 (fun x9 y14 I10 J11 hB12 p13 kq18 kq17 kq16 kq15 k20 k19 k21 w26 w25 w24 w23 w22 => ?_)))))))))))))
  intro o27
  have i28 := i32 x9
  have b29 := Bd.o hB0 io9_112_3_6 bd9_6_1
  have e30 : ((I10 3 1) : Int32).toInt = (I 3 1).toInt := Eq.trans (congrArg Int32.toInt kq15) rfl
  have kz31 : ((I10 3 1) : Int32).toInt = (I 3 1).toInt := e30
  have b32 := Bd.o hB0 io9_112_97_12 bd9_12_8
  have e33 : ((I10 97 8) : Int32).toInt = (I 97 8).toInt := Eq.trans (congrArg Int32.toInt kq16) rfl
  have kz34 : ((I10 97 8) : Int32).toInt = (I 97 8).toInt := e33
  have b35 := Bd.o hB0 io9_112_1_11 bd9_11_13
  have e36 : ((I10 1 13) : Int32).toInt = (I 1 13).toInt := Eq.trans (congrArg Int32.toInt kq17) rfl
  have kz37 : ((I10 1 13) : Int32).toInt = (I 1 13).toInt := e36
  have b38 := Bd.o hB0 io9_112_97_12 bd9_12_23
  have e39 : ((I10 97 23) : Int32).toInt = (I 97 23).toInt := Eq.trans (congrArg Int32.toInt kq18) rfl
  have kz40 : ((I10 97 23) : Int32).toInt = (I 97 23).toInt := e39
  refine ⟨vp_of (a := (v3.toInt + 1)) e1 (by omega) (by omega), ?_⟩
  have z41 := i32 (xs (Int32.toNatClampNeg (v3 + 1)))
  refine ⟨vp_of (a := (v3.toInt + 2)) e3 (by omega) (by omega), ?_⟩
  have z42 := i32 (xs (Int32.toNatClampNeg (v3 + 2)))
  refine ⟨vp_of (a := (v3.toInt + 3)) e5 (by omega) (by omega), ?_⟩
  have z43 := i32 (xs (Int32.toNatClampNeg (v3 + 3)))
  refine ⟨vp_of (a := (v3.toInt + 4)) e7 (by omega) (by omega), ?_⟩
  have z44 := i32 (xs (Int32.toNatClampNeg (v3 + 4)))
  refine ⟨⟨hF0, rfl⟩, ?_⟩
  refine kp7 rfl hR0 rfl (kpA rfl (kpnm rfl hR0 rfl (kx (mx_oddsThat hB12 hR0) (kp6 rfl hR0 rfl (kp4 rfl (kp5 rfl hR0 rfl (kp0 rfl (kp1 rfl (kp2 rfl (kp3 rfl (sp_X12_oddsThat hB12 hR0 (fun x45 y50 I46 J47 hB48 p49 kq54 kq53 kq52 kq51 k56 k55 k57 w61 w60 w59 w58 => ?_))))))))))))
  intro o62
  have f63 : Fr pT I10 I46 := p49
  have i64 := i32 x45
  have e65 : ((I46 3 1) : Int32).toInt = (I 3 1).toInt := Eq.trans (congrArg Int32.toInt (Eq.trans kq51 kq15)) rfl
  have kz66 : ((I46 3 1) : Int32).toInt = (I 3 1).toInt := e65
  have e67 : ((I46 97 8) : Int32).toInt = (I 97 8).toInt := Eq.trans (congrArg Int32.toInt (Eq.trans kq52 kq16)) rfl
  have kz68 : ((I46 97 8) : Int32).toInt = (I 97 8).toInt := e67
  have e69 : ((I46 1 13) : Int32).toInt = (I 1 13).toInt := Eq.trans (congrArg Int32.toInt (Eq.trans kq53 kq17)) rfl
  have kz70 : ((I46 1 13) : Int32).toInt = (I 1 13).toInt := e69
  have e71 : ((I46 97 23) : Int32).toInt = (I 97 23).toInt := Eq.trans (congrArg Int32.toInt (Eq.trans kq54 kq18)) rfl
  have kz72 : ((I46 97 23) : Int32).toInt = (I 97 23).toInt := e71
  have hg73 : (x45 : Int32).toInt = (x9 : Int32).toInt := congrArg Int32.toInt (OdX_both (RM.kn8 hRM ⟨w23, w24, (fun j _ => congrFun w25.1 j)⟩) w26 w61)
  refine ⟨fun c74 => ?_, fun c74 => ?_⟩
  · skip
    have d75 : ((x9.toInt) : Int) = (x45.toInt) := ci_eq rfl rfl c74
    exact hN _ _ R hB48 hR0 hF0 ⟨(Eq.trans (e65) (Eq.trans hL0 (Eq.symm (e67)))), (Eq.trans (e69) (Eq.trans hL1 (Eq.symm (e71)))), (RT.kp (RT.kp hL2 k19 k20) k55 k56), trivial⟩ (R3.kp (R3.kp hR3 w22 (by have ya : ((I10 3 1) : Int32).toInt = (I 3 1).toInt := e30; have yb : ((I 3 1) : Int32).toInt = (I 3 1).toInt := rfl; first | exact Int.le_of_eq (ya.trans yb) | exact ya.trans yb | omega)) w58 (by have ya : ((I46 3 1) : Int32).toInt = (I 3 1).toInt := e65; have yb : ((I10 3 1) : Int32).toInt = (I 3 1).toInt := e30; first | exact Int.le_of_eq (ya.trans yb) | exact ya.trans yb | omega)) (RM.kp hR0 (RM.kp hR0 hRM ⟨w23, w24, (fun j _ => congrFun w25.1 j)⟩) ⟨w59, w60, (fun j _ => f63.1 j trivial)⟩) trivial
  · skip
    have d76 : ¬ ((x9.toInt) : Int) = (x45.toInt) := ci_ne rfl rfl c74
    exfalso
    omega
set_option maxRecDepth 100000 in
set_option maxHeartbeats 2000000 in
theorem lc_31 {Q : Nat → Qt} {P : Kt} {L : Nat} {xs : Nat → Int32} (hc : Cl (AM 640) false true L xs 2 112 kL_law Q P) (hL : L ≤ 3584) {v3 : Int32} {I : Im} {J : Jm} {R : Rm} (hB0 : Bd I) (hR0 : RI R) (hF0 : Fl R) (hL0 : (I 3 1).toInt = (I 97 8).toInt) (hL1 : (I 1 13).toInt = (I 97 23).toInt) (hL2 : RT I) (hL3 : True) (hR3 : R3 I J) (hRM : RM I J R) (hFQ : True) (h0 : 0 ≤ v3.toInt) (h7 : v3.toInt + 7 ≤ (L : Int)) (hN : ∀ (I : Im) (J : Jm) (R : Rm), Bd I → RI R → Fl R → RLz I → R3 I J → RM I J R → True → P 1889 112 [(0, .ref 0), (1, .ref 1), (2, .ref 97), (3, .int v3)] [] I J R) : P 1283 112 [(0, .ref 0), (1, .ref 1), (2, .ref 97), (3, .int v3)] [] I J R := by
  have i_v3 := i32 v3
  have e97 : I 97 8 = nI (fl I) := (Int32.toInt_inj.mp hL0).symm.trans (fl_bd hB0).1
  have b31 := Bd.o hB0 io9_112_3_6 bd9_6_1
  refine ls_1283 hc v3 _ _ _ ?_
  have e1 : ((v3 + 1) : Int32).toInt = (v3.toInt) + (1) := ti_add rfl rfl (by omega)
  refine ⟨vp_of (a := (v3.toInt + 1)) e1 (by omega) (by omega), ?_⟩
  have z2 := i32 (xs (Int32.toNatClampNeg (v3 + 1)))
  have e3 : ((v3 + 2) : Int32).toInt = (v3.toInt) + (2) := ti_add rfl rfl (by omega)
  refine ⟨vp_of (a := (v3.toInt + 2)) e3 (by omega) (by omega), ?_⟩
  have z4 := i32 (xs (Int32.toNatClampNeg (v3 + 2)))
  have e5 : ((v3 + 3) : Int32).toInt = (v3.toInt) + (3) := ti_add rfl rfl (by omega)
  refine ⟨vp_of (a := (v3.toInt + 3)) e5 (by omega) (by omega), ?_⟩
  have z6 := i32 (xs (Int32.toNatClampNeg (v3 + 3)))
  refine ⟨⟨hF0, rfl⟩, ?_⟩
  refine kp7 rfl hR0 rfl (kpA rfl (kpnm rfl hR0 rfl (kp102 rfl hR0 rfl (kp6 rfl hR0 rfl (kp4 rfl (kp5 rfl hR0 rfl (kp0 rfl (kp1 rfl (kp2 rfl (kp3 rfl (sp_X11_ask hB0 hR0 (fun x7 y12 I8 J9 hB10 p11 kq16 kq15 kq14 kq13 k18 k17 k19 w23 w22 w21 w20 => ?_))))))))))))
  have i24 := i32 x7
  have b25 := Bd.o hB0 io9_112_3_6 bd9_6_1
  have e26 : ((I8 3 1) : Int32).toInt = (I 3 1).toInt := Eq.trans (congrArg Int32.toInt kq13) rfl
  have kz27 : ((I8 3 1) : Int32).toInt = (I 3 1).toInt := e26
  have b28 := Bd.o hB0 io9_112_97_12 bd9_12_8
  have e29 : ((I8 97 8) : Int32).toInt = (I 97 8).toInt := Eq.trans (congrArg Int32.toInt kq14) rfl
  have kz30 : ((I8 97 8) : Int32).toInt = (I 97 8).toInt := e29
  have b31 := Bd.o hB0 io9_112_1_11 bd9_11_13
  have e32 : ((I8 1 13) : Int32).toInt = (I 1 13).toInt := Eq.trans (congrArg Int32.toInt kq15) rfl
  have kz33 : ((I8 1 13) : Int32).toInt = (I 1 13).toInt := e32
  have b34 := Bd.o hB0 io9_112_97_12 bd9_12_23
  have e35 : ((I8 97 23) : Int32).toInt = (I 97 23).toInt := Eq.trans (congrArg Int32.toInt kq16) rfl
  have kz36 : ((I8 97 23) : Int32).toInt = (I 97 23).toInt := e35
  refine ⟨vp_of (a := (v3.toInt + 1)) e1 (by omega) (by omega), ?_⟩
  have z37 := i32 (xs (Int32.toNatClampNeg (v3 + 1)))
  refine ⟨vp_of (a := (v3.toInt + 2)) e3 (by omega) (by omega), ?_⟩
  have z38 := i32 (xs (Int32.toNatClampNeg (v3 + 2)))
  refine ⟨vp_of (a := (v3.toInt + 3)) e5 (by omega) (by omega), ?_⟩
  have z39 := i32 (xs (Int32.toNatClampNeg (v3 + 3)))
  refine ⟨⟨hF0, rfl⟩, ?_⟩
  refine kp7 rfl hR0 rfl (kpA rfl (kpnm rfl hR0 rfl (kp6 rfl hR0 rfl (kp4 rfl (kp5 rfl hR0 rfl (kp0 rfl (kp1 rfl (kp2 rfl (kp3 rfl (sp_X12_ask hB10 hR0 (fun x40 y45 I41 J42 hB43 p44 kq49 kq48 kq47 kq46 k51 k50 k52 w55 w54 w53 => ?_)))))))))))
  have f56 : Fr pT I8 I41 := p44
  have i57 := i32 x40
  have e58 : ((I41 3 1) : Int32).toInt = (I 3 1).toInt := Eq.trans (congrArg Int32.toInt (Eq.trans kq46 kq13)) rfl
  have kz59 : ((I41 3 1) : Int32).toInt = (I 3 1).toInt := e58
  have e60 : ((I41 97 8) : Int32).toInt = (I 97 8).toInt := Eq.trans (congrArg Int32.toInt (Eq.trans kq47 kq14)) rfl
  have kz61 : ((I41 97 8) : Int32).toInt = (I 97 8).toInt := e60
  have e62 : ((I41 1 13) : Int32).toInt = (I 1 13).toInt := Eq.trans (congrArg Int32.toInt (Eq.trans kq48 kq15)) rfl
  have kz63 : ((I41 1 13) : Int32).toInt = (I 1 13).toInt := e62
  have e64 : ((I41 97 23) : Int32).toInt = (I 97 23).toInt := Eq.trans (congrArg Int32.toInt (Eq.trans kq49 kq16)) rfl
  have kz65 : ((I41 97 23) : Int32).toInt = (I 97 23).toInt := e64
  exact hN _ _ R hB43 hR0 hF0 ⟨(Eq.trans (e58) (Eq.trans hL0 (Eq.symm (e60)))), (Eq.trans (e62) (Eq.trans hL1 (Eq.symm (e64)))), (RT.kp (RT.kp hL2 k17 k18) k50 k51), trivial⟩ (R3.kp (R3.kp hR3 w20 (by have ya : ((I8 3 1) : Int32).toInt = (I 3 1).toInt := e26; have yb : ((I 3 1) : Int32).toInt = (I 3 1).toInt := rfl; first | exact Int.le_of_eq (ya.trans yb) | exact ya.trans yb | omega)) w53 (by have ya : ((I41 3 1) : Int32).toInt = (I 3 1).toInt := e58; have yb : ((I8 3 1) : Int32).toInt = (I 3 1).toInt := e26; first | exact Int.le_of_eq (ya.trans yb) | exact ya.trans yb | omega)) (RM.kp hR0 (RM.kp hR0 hRM ⟨w21, w22, (fun j _ => congrFun w23.1 j)⟩) ⟨w54, w55, (fun j _ => f56.1 j trivial)⟩) trivial
set_option maxRecDepth 100000 in
set_option maxHeartbeats 2000000 in
theorem lc_32 {Q : Nat → Qt} {P : Kt} {L : Nat} {xs : Nat → Int32} (hc : Cl (AM 640) false true L xs 2 112 kL_law Q P) (hL : L ≤ 3584) {v3 : Int32} {I : Im} {J : Jm} {R : Rm} (hB0 : Bd I) (hR0 : RI R) (hF0 : Fl R) (hL0 : (I 3 1).toInt = (I 97 8).toInt) (hL1 : (I 1 13).toInt = (I 97 23).toInt) (hL2 : RT I) (hL3 : True) (hR3 : R3 I J) (hRM : RM I J R) (hFQ : True) (h0 : 0 ≤ v3.toInt) (h7 : v3.toInt + 7 ≤ (L : Int)) (hN : ∀ (I : Im) (J : Jm) (R : Rm), Bd I → RI R → Fl R → RLz I → R3 I J → RM I J R → True → P 1889 112 [(0, .ref 0), (1, .ref 1), (2, .ref 97), (3, .int v3)] [] I J R) : P 1326 112 [(0, .ref 0), (1, .ref 1), (2, .ref 97), (3, .int v3)] [] I J R := by
  have i_v3 := i32 v3
  have e97 : I 97 8 = nI (fl I) := (Int32.toInt_inj.mp hL0).symm.trans (fl_bd hB0).1
  have b31 := Bd.o hB0 io9_112_3_6 bd9_6_1
  refine ls_1326 hc v3 _ _ _ ?_
  have e1 : ((v3 + 1) : Int32).toInt = (v3.toInt) + (1) := ti_add rfl rfl (by omega)
  refine ⟨vp_of (a := (v3.toInt + 1)) e1 (by omega) (by omega), ?_⟩
  have z2 := i32 (xs (Int32.toNatClampNeg (v3 + 1)))
  have e3 : ((v3 + 2) : Int32).toInt = (v3.toInt) + (2) := ti_add rfl rfl (by omega)
  refine ⟨vp_of (a := (v3.toInt + 2)) e3 (by omega) (by omega), ?_⟩
  have z4 := i32 (xs (Int32.toNatClampNeg (v3 + 2)))
  have e5 : ((v3 + 3) : Int32).toInt = (v3.toInt) + (3) := ti_add rfl rfl (by omega)
  refine ⟨vp_of (a := (v3.toInt + 3)) e5 (by omega) (by omega), ?_⟩
  have z6 := i32 (xs (Int32.toNatClampNeg (v3 + 3)))
  refine ⟨⟨hF0, rfl⟩, ?_⟩
  refine kp7 rfl hR0 rfl (kpA rfl (kpnm rfl hR0 rfl (kp102 rfl hR0 rfl (kp6 rfl hR0 rfl (kp4 rfl (kp5 rfl hR0 rfl (kp0 rfl (kp1 rfl (kp2 rfl (kp3 rfl (sp_X11_kindestAt hB0 hR0 (fun x7 y12 I8 J9 hB10 p11 kq16 kq15 kq14 kq13 k18 k17 k19 w23 w22 w21 w20 => ?_))))))))))))
  have i24 := i32 x7
  have b25 := Bd.o hB0 io9_112_3_6 bd9_6_1
  have e26 : ((I8 3 1) : Int32).toInt = (I 3 1).toInt := Eq.trans (congrArg Int32.toInt kq13) rfl
  have kz27 : ((I8 3 1) : Int32).toInt = (I 3 1).toInt := e26
  have b28 := Bd.o hB0 io9_112_97_12 bd9_12_8
  have e29 : ((I8 97 8) : Int32).toInt = (I 97 8).toInt := Eq.trans (congrArg Int32.toInt kq14) rfl
  have kz30 : ((I8 97 8) : Int32).toInt = (I 97 8).toInt := e29
  have b31 := Bd.o hB0 io9_112_1_11 bd9_11_13
  have e32 : ((I8 1 13) : Int32).toInt = (I 1 13).toInt := Eq.trans (congrArg Int32.toInt kq15) rfl
  have kz33 : ((I8 1 13) : Int32).toInt = (I 1 13).toInt := e32
  have b34 := Bd.o hB0 io9_112_97_12 bd9_12_23
  have e35 : ((I8 97 23) : Int32).toInt = (I 97 23).toInt := Eq.trans (congrArg Int32.toInt kq16) rfl
  have kz36 : ((I8 97 23) : Int32).toInt = (I 97 23).toInt := e35
  refine ⟨vp_of (a := (v3.toInt + 1)) e1 (by omega) (by omega), ?_⟩
  have z37 := i32 (xs (Int32.toNatClampNeg (v3 + 1)))
  refine ⟨vp_of (a := (v3.toInt + 2)) e3 (by omega) (by omega), ?_⟩
  have z38 := i32 (xs (Int32.toNatClampNeg (v3 + 2)))
  refine ⟨vp_of (a := (v3.toInt + 3)) e5 (by omega) (by omega), ?_⟩
  have z39 := i32 (xs (Int32.toNatClampNeg (v3 + 3)))
  refine ⟨⟨hF0, rfl⟩, ?_⟩
  refine kp7 rfl hR0 rfl (kpA rfl (kpnm rfl hR0 rfl (kp6 rfl hR0 rfl (kp4 rfl (kp5 rfl hR0 rfl (kp0 rfl (kp1 rfl (kp2 rfl (kp3 rfl (sp_X12_kindestAt hB10 hR0 (fun x40 y45 I41 J42 hB43 p44 kq49 kq48 kq47 kq46 k51 k50 k52 w55 w54 w53 => ?_)))))))))))
  have f56 : Fr pT I8 I41 := p44
  have i57 := i32 x40
  have e58 : ((I41 3 1) : Int32).toInt = (I 3 1).toInt := Eq.trans (congrArg Int32.toInt (Eq.trans kq46 kq13)) rfl
  have kz59 : ((I41 3 1) : Int32).toInt = (I 3 1).toInt := e58
  have e60 : ((I41 97 8) : Int32).toInt = (I 97 8).toInt := Eq.trans (congrArg Int32.toInt (Eq.trans kq47 kq14)) rfl
  have kz61 : ((I41 97 8) : Int32).toInt = (I 97 8).toInt := e60
  have e62 : ((I41 1 13) : Int32).toInt = (I 1 13).toInt := Eq.trans (congrArg Int32.toInt (Eq.trans kq48 kq15)) rfl
  have kz63 : ((I41 1 13) : Int32).toInt = (I 1 13).toInt := e62
  have e64 : ((I41 97 23) : Int32).toInt = (I 97 23).toInt := Eq.trans (congrArg Int32.toInt (Eq.trans kq49 kq16)) rfl
  have kz65 : ((I41 97 23) : Int32).toInt = (I 97 23).toInt := e64
  exact hN _ _ R hB43 hR0 hF0 ⟨(Eq.trans (e58) (Eq.trans hL0 (Eq.symm (e60)))), (Eq.trans (e62) (Eq.trans hL1 (Eq.symm (e64)))), (RT.kp (RT.kp hL2 k17 k18) k50 k51), trivial⟩ (R3.kp (R3.kp hR3 w20 (by have ya : ((I8 3 1) : Int32).toInt = (I 3 1).toInt := e26; have yb : ((I 3 1) : Int32).toInt = (I 3 1).toInt := rfl; first | exact Int.le_of_eq (ya.trans yb) | exact ya.trans yb | omega)) w53 (by have ya : ((I41 3 1) : Int32).toInt = (I 3 1).toInt := e58; have yb : ((I8 3 1) : Int32).toInt = (I 3 1).toInt := e26; first | exact Int.le_of_eq (ya.trans yb) | exact ya.trans yb | omega)) (RM.kp hR0 (RM.kp hR0 hRM ⟨w21, w22, (fun j _ => congrFun w23.1 j)⟩) ⟨w54, w55, (fun j _ => f56.1 j trivial)⟩) trivial
set_option maxRecDepth 100000 in
set_option maxHeartbeats 2000000 in
theorem lc_33 {Q : Nat → Qt} {P : Kt} {L : Nat} {xs : Nat → Int32} (hc : Cl (AM 640) false true L xs 2 112 kL_law Q P) (hL : L ≤ 3584) {v3 : Int32} {I : Im} {J : Jm} {R : Rm} (hB0 : Bd I) (hR0 : RI R) (hF0 : Fl R) (hL0 : (I 3 1).toInt = (I 97 8).toInt) (hL1 : (I 1 13).toInt = (I 97 23).toInt) (hL2 : RT I) (hL3 : True) (hR3 : R3 I J) (hRM : RM I J R) (hFQ : True) (h0 : 0 ≤ v3.toInt) (h7 : v3.toInt + 7 ≤ (L : Int)) (hN : ∀ (I : Im) (J : Jm) (R : Rm), Bd I → RI R → Fl R → RLz I → R3 I J → RM I J R → True → P 1889 112 [(0, .ref 0), (1, .ref 1), (2, .ref 97), (3, .int v3)] [] I J R) : P 1369 112 [(0, .ref 0), (1, .ref 1), (2, .ref 97), (3, .int v3)] [] I J R := by
  have i_v3 := i32 v3
  have e97 : I 97 8 = nI (fl I) := (Int32.toInt_inj.mp hL0).symm.trans (fl_bd hB0).1
  have b31 := Bd.o hB0 io9_112_3_6 bd9_6_1
  refine ls_1369 hc v3 _ _ _ ?_
  have e1 : ((v3 + 1) : Int32).toInt = (v3.toInt) + (1) := ti_add rfl rfl (by omega)
  refine ⟨vp_of (a := (v3.toInt + 1)) e1 (by omega) (by omega), ?_⟩
  have z2 := i32 (xs (Int32.toNatClampNeg (v3 + 1)))
  have e3 : ((v3 + 2) : Int32).toInt = (v3.toInt) + (2) := ti_add rfl rfl (by omega)
  refine ⟨vp_of (a := (v3.toInt + 2)) e3 (by omega) (by omega), ?_⟩
  have z4 := i32 (xs (Int32.toNatClampNeg (v3 + 2)))
  have e5 : ((v3 + 3) : Int32).toInt = (v3.toInt) + (3) := ti_add rfl rfl (by omega)
  refine ⟨vp_of (a := (v3.toInt + 3)) e5 (by omega) (by omega), ?_⟩
  have z6 := i32 (xs (Int32.toNatClampNeg (v3 + 3)))
  refine ⟨⟨hF0, rfl⟩, ?_⟩
  refine kp7 rfl hR0 rfl (kpA rfl (kpnm rfl hR0 rfl (kp102 rfl hR0 rfl (kp6 rfl hR0 rfl (kp4 rfl (kp5 rfl hR0 rfl (kp0 rfl (kp1 rfl (kp2 rfl (kp3 rfl (sp_X11_greedyAt hB0 hR0 (fun x7 y12 I8 J9 hB10 p11 kq16 kq15 kq14 kq13 k18 k17 k19 w23 w22 w21 w20 => ?_))))))))))))
  have i24 := i32 x7
  have b25 := Bd.o hB0 io9_112_3_6 bd9_6_1
  have e26 : ((I8 3 1) : Int32).toInt = (I 3 1).toInt := Eq.trans (congrArg Int32.toInt kq13) rfl
  have kz27 : ((I8 3 1) : Int32).toInt = (I 3 1).toInt := e26
  have b28 := Bd.o hB0 io9_112_97_12 bd9_12_8
  have e29 : ((I8 97 8) : Int32).toInt = (I 97 8).toInt := Eq.trans (congrArg Int32.toInt kq14) rfl
  have kz30 : ((I8 97 8) : Int32).toInt = (I 97 8).toInt := e29
  have b31 := Bd.o hB0 io9_112_1_11 bd9_11_13
  have e32 : ((I8 1 13) : Int32).toInt = (I 1 13).toInt := Eq.trans (congrArg Int32.toInt kq15) rfl
  have kz33 : ((I8 1 13) : Int32).toInt = (I 1 13).toInt := e32
  have b34 := Bd.o hB0 io9_112_97_12 bd9_12_23
  have e35 : ((I8 97 23) : Int32).toInt = (I 97 23).toInt := Eq.trans (congrArg Int32.toInt kq16) rfl
  have kz36 : ((I8 97 23) : Int32).toInt = (I 97 23).toInt := e35
  refine ⟨vp_of (a := (v3.toInt + 1)) e1 (by omega) (by omega), ?_⟩
  have z37 := i32 (xs (Int32.toNatClampNeg (v3 + 1)))
  refine ⟨vp_of (a := (v3.toInt + 2)) e3 (by omega) (by omega), ?_⟩
  have z38 := i32 (xs (Int32.toNatClampNeg (v3 + 2)))
  refine ⟨vp_of (a := (v3.toInt + 3)) e5 (by omega) (by omega), ?_⟩
  have z39 := i32 (xs (Int32.toNatClampNeg (v3 + 3)))
  refine ⟨⟨hF0, rfl⟩, ?_⟩
  refine kp7 rfl hR0 rfl (kpA rfl (kpnm rfl hR0 rfl (kp102 rfl hR0 rfl (kp6 rfl hR0 rfl (kp4 rfl (kp5 rfl hR0 rfl (kp0 rfl (kp1 rfl (kp2 rfl (kp3 rfl (sp_X12_greedyAt hB10 hR0 (fun x40 y45 I41 J42 hB43 p44 kq49 kq48 kq47 kq46 k51 k50 k52 w56 w55 w54 w53 => ?_))))))))))))
  have i57 := i32 x40
  have e58 : ((I41 3 1) : Int32).toInt = (I 3 1).toInt := Eq.trans (congrArg Int32.toInt (Eq.trans kq46 kq13)) rfl
  have kz59 : ((I41 3 1) : Int32).toInt = (I 3 1).toInt := e58
  have e60 : ((I41 97 8) : Int32).toInt = (I 97 8).toInt := Eq.trans (congrArg Int32.toInt (Eq.trans kq47 kq14)) rfl
  have kz61 : ((I41 97 8) : Int32).toInt = (I 97 8).toInt := e60
  have e62 : ((I41 1 13) : Int32).toInt = (I 1 13).toInt := Eq.trans (congrArg Int32.toInt (Eq.trans kq48 kq15)) rfl
  have kz63 : ((I41 1 13) : Int32).toInt = (I 1 13).toInt := e62
  have e64 : ((I41 97 23) : Int32).toInt = (I 97 23).toInt := Eq.trans (congrArg Int32.toInt (Eq.trans kq49 kq16)) rfl
  have kz65 : ((I41 97 23) : Int32).toInt = (I 97 23).toInt := e64
  exact hN _ _ R hB43 hR0 hF0 ⟨(Eq.trans (e58) (Eq.trans hL0 (Eq.symm (e60)))), (Eq.trans (e62) (Eq.trans hL1 (Eq.symm (e64)))), (RT.kp (RT.kp hL2 k17 k18) k50 k51), trivial⟩ (R3.kp (R3.kp hR3 w20 (by have ya : ((I8 3 1) : Int32).toInt = (I 3 1).toInt := e26; have yb : ((I 3 1) : Int32).toInt = (I 3 1).toInt := rfl; first | exact Int.le_of_eq (ya.trans yb) | exact ya.trans yb | omega)) w53 (by have ya : ((I41 3 1) : Int32).toInt = (I 3 1).toInt := e58; have yb : ((I8 3 1) : Int32).toInt = (I 3 1).toInt := e26; first | exact Int.le_of_eq (ya.trans yb) | exact ya.trans yb | omega)) (RM.kp hR0 (RM.kp hR0 hRM ⟨w21, w22, (fun j _ => congrFun w23.1 j)⟩) ⟨w54, w55, (fun j _ => congrFun w56.1 j)⟩) trivial
set_option maxRecDepth 100000 in
set_option maxHeartbeats 2000000 in
theorem lc_34 {Q : Nat → Qt} {P : Kt} {L : Nat} {xs : Nat → Int32} (hc : Cl (AM 640) false true L xs 2 112 kL_law Q P) (hL : L ≤ 3584) {v3 : Int32} {I : Im} {J : Jm} {R : Rm} (hB0 : Bd I) (hR0 : RI R) (hF0 : Fl R) (hL0 : (I 3 1).toInt = (I 97 8).toInt) (hL1 : (I 1 13).toInt = (I 97 23).toInt) (hL2 : RT I) (hL3 : True) (hR3 : R3 I J) (hRM : RM I J R) (hFQ : True) (h0 : 0 ≤ v3.toInt) (h7 : v3.toInt + 7 ≤ (L : Int)) (hN : ∀ (I : Im) (J : Jm) (R : Rm), Bd I → RI R → Fl R → RLz I → R3 I J → RM I J R → True → P 1889 112 [(0, .ref 0), (1, .ref 1), (2, .ref 97), (3, .int v3)] [] I J R) : P 1412 112 [(0, .ref 0), (1, .ref 1), (2, .ref 97), (3, .int v3)] [] I J R := by
  have i_v3 := i32 v3
  have e97 : I 97 8 = nI (fl I) := (Int32.toInt_inj.mp hL0).symm.trans (fl_bd hB0).1
  have b31 := Bd.o hB0 io9_112_3_6 bd9_6_1
  refine ls_1412 hc v3 _ _ _ ?_
  have e1 : ((v3 + 1) : Int32).toInt = (v3.toInt) + (1) := ti_add rfl rfl (by omega)
  refine ⟨vp_of (a := (v3.toInt + 1)) e1 (by omega) (by omega), ?_⟩
  have z2 := i32 (xs (Int32.toNatClampNeg (v3 + 1)))
  have e3 : ((v3 + 2) : Int32).toInt = (v3.toInt) + (2) := ti_add rfl rfl (by omega)
  refine ⟨vp_of (a := (v3.toInt + 2)) e3 (by omega) (by omega), ?_⟩
  have z4 := i32 (xs (Int32.toNatClampNeg (v3 + 2)))
  have e5 : ((v3 + 3) : Int32).toInt = (v3.toInt) + (3) := ti_add rfl rfl (by omega)
  refine ⟨vp_of (a := (v3.toInt + 3)) e5 (by omega) (by omega), ?_⟩
  have z6 := i32 (xs (Int32.toNatClampNeg (v3 + 3)))
  have e7 : ((v3 + 4) : Int32).toInt = (v3.toInt) + (4) := ti_add rfl rfl (by omega)
  refine ⟨vp_of (a := (v3.toInt + 4)) e7 (by omega) (by omega), ?_⟩
  have z8 := i32 (xs (Int32.toNatClampNeg (v3 + 4)))
  refine ⟨⟨hF0, rfl⟩, ?_⟩
  refine kp7 rfl hR0 rfl (kpA rfl (kpnm rfl hR0 rfl (kp102 rfl hR0 rfl (kp6 rfl hR0 rfl (kp4 rfl (kp5 rfl hR0 rfl (kp0 rfl (kp1 rfl (kp2 rfl (kp3 rfl (sp_X11_slips hB0 hR0 (fun x9 y14 I10 J11 hB12 p13 kq18 kq17 kq16 kq15 k20 k19 k21 w25 w24 w23 w22 => ?_))))))))))))
  have i26 := i32 x9
  have b27 := Bd.o hB0 io9_112_3_6 bd9_6_1
  have e28 : ((I10 3 1) : Int32).toInt = (I 3 1).toInt := Eq.trans (congrArg Int32.toInt kq15) rfl
  have kz29 : ((I10 3 1) : Int32).toInt = (I 3 1).toInt := e28
  have b30 := Bd.o hB0 io9_112_97_12 bd9_12_8
  have e31 : ((I10 97 8) : Int32).toInt = (I 97 8).toInt := Eq.trans (congrArg Int32.toInt kq16) rfl
  have kz32 : ((I10 97 8) : Int32).toInt = (I 97 8).toInt := e31
  have b33 := Bd.o hB0 io9_112_1_11 bd9_11_13
  have e34 : ((I10 1 13) : Int32).toInt = (I 1 13).toInt := Eq.trans (congrArg Int32.toInt kq17) rfl
  have kz35 : ((I10 1 13) : Int32).toInt = (I 1 13).toInt := e34
  have b36 := Bd.o hB0 io9_112_97_12 bd9_12_23
  have e37 : ((I10 97 23) : Int32).toInt = (I 97 23).toInt := Eq.trans (congrArg Int32.toInt kq18) rfl
  have kz38 : ((I10 97 23) : Int32).toInt = (I 97 23).toInt := e37
  refine ⟨vp_of (a := (v3.toInt + 1)) e1 (by omega) (by omega), ?_⟩
  have z39 := i32 (xs (Int32.toNatClampNeg (v3 + 1)))
  refine ⟨vp_of (a := (v3.toInt + 2)) e3 (by omega) (by omega), ?_⟩
  have z40 := i32 (xs (Int32.toNatClampNeg (v3 + 2)))
  refine ⟨vp_of (a := (v3.toInt + 3)) e5 (by omega) (by omega), ?_⟩
  have z41 := i32 (xs (Int32.toNatClampNeg (v3 + 3)))
  refine ⟨vp_of (a := (v3.toInt + 4)) e7 (by omega) (by omega), ?_⟩
  have z42 := i32 (xs (Int32.toNatClampNeg (v3 + 4)))
  refine ⟨⟨hF0, rfl⟩, ?_⟩
  refine kp7 rfl hR0 rfl (kpA rfl (kpnm rfl hR0 rfl (kp102 rfl hR0 rfl (kp6 rfl hR0 rfl (kp4 rfl (kp5 rfl hR0 rfl (kp0 rfl (kp1 rfl (kp2 rfl (kp3 rfl (sp_X12_slips hB12 hR0 (fun x43 y48 I44 J45 hB46 p47 kq52 kq51 kq50 kq49 k54 k53 k55 w59 w58 w57 w56 => ?_))))))))))))
  have i60 := i32 x43
  have e61 : ((I44 3 1) : Int32).toInt = (I 3 1).toInt := Eq.trans (congrArg Int32.toInt (Eq.trans kq49 kq15)) rfl
  have kz62 : ((I44 3 1) : Int32).toInt = (I 3 1).toInt := e61
  have e63 : ((I44 97 8) : Int32).toInt = (I 97 8).toInt := Eq.trans (congrArg Int32.toInt (Eq.trans kq50 kq16)) rfl
  have kz64 : ((I44 97 8) : Int32).toInt = (I 97 8).toInt := e63
  have e65 : ((I44 1 13) : Int32).toInt = (I 1 13).toInt := Eq.trans (congrArg Int32.toInt (Eq.trans kq51 kq17)) rfl
  have kz66 : ((I44 1 13) : Int32).toInt = (I 1 13).toInt := e65
  have e67 : ((I44 97 23) : Int32).toInt = (I 97 23).toInt := Eq.trans (congrArg Int32.toInt (Eq.trans kq52 kq18)) rfl
  have kz68 : ((I44 97 23) : Int32).toInt = (I 97 23).toInt := e67
  exact hN _ _ R hB46 hR0 hF0 ⟨(Eq.trans (e61) (Eq.trans hL0 (Eq.symm (e63)))), (Eq.trans (e65) (Eq.trans hL1 (Eq.symm (e67)))), (RT.kp (RT.kp hL2 k19 k20) k53 k54), trivial⟩ (R3.kp (R3.kp hR3 w22 (by have ya : ((I10 3 1) : Int32).toInt = (I 3 1).toInt := e28; have yb : ((I 3 1) : Int32).toInt = (I 3 1).toInt := rfl; first | exact Int.le_of_eq (ya.trans yb) | exact ya.trans yb | omega)) w56 (by have ya : ((I44 3 1) : Int32).toInt = (I 3 1).toInt := e61; have yb : ((I10 3 1) : Int32).toInt = (I 3 1).toInt := e28; first | exact Int.le_of_eq (ya.trans yb) | exact ya.trans yb | omega)) (RM.kp hR0 (RM.kp hR0 hRM ⟨w23, w24, (fun j _ => congrFun w25.1 j)⟩) ⟨w57, w58, (fun j _ => congrFun w59.1 j)⟩) trivial
set_option maxRecDepth 100000 in
set_option maxHeartbeats 2000000 in
theorem lc_35 {Q : Nat → Qt} {P : Kt} {L : Nat} {xs : Nat → Int32} (hc : Cl (AM 640) false true L xs 2 112 kL_law Q P) (hL : L ≤ 3584) {v3 : Int32} {I : Im} {J : Jm} {R : Rm} (hB0 : Bd I) (hR0 : RI R) (hF0 : Fl R) (hL0 : (I 3 1).toInt = (I 97 8).toInt) (hL1 : (I 1 13).toInt = (I 97 23).toInt) (hL2 : RT I) (hL3 : True) (hR3 : R3 I J) (hRM : RM I J R) (hFQ : True) (h0 : 0 ≤ v3.toInt) (h7 : v3.toInt + 7 ≤ (L : Int)) (hN : ∀ (I : Im) (J : Jm) (R : Rm), Bd I → RI R → Fl R → RLz I → R3 I J → RM I J R → True → P 1889 112 [(0, .ref 0), (1, .ref 1), (2, .ref 97), (3, .int v3)] [] I J R) : P 1465 112 [(0, .ref 0), (1, .ref 1), (2, .ref 97), (3, .int v3)] [] I J R := by
  have i_v3 := i32 v3
  have e97 : I 97 8 = nI (fl I) := (Int32.toInt_inj.mp hL0).symm.trans (fl_bd hB0).1
  have b31 := Bd.o hB0 io9_112_3_6 bd9_6_1
  refine ls_1465 hc v3 _ _ _ ?_
  have e1 : ((v3 + 1) : Int32).toInt = (v3.toInt) + (1) := ti_add rfl rfl (by omega)
  refine ⟨vp_of (a := (v3.toInt + 1)) e1 (by omega) (by omega), ?_⟩
  have z2 := i32 (xs (Int32.toNatClampNeg (v3 + 1)))
  have e3 : ((v3 + 2) : Int32).toInt = (v3.toInt) + (2) := ti_add rfl rfl (by omega)
  refine ⟨vp_of (a := (v3.toInt + 2)) e3 (by omega) (by omega), ?_⟩
  have z4 := i32 (xs (Int32.toNatClampNeg (v3 + 2)))
  have e5 : ((v3 + 3) : Int32).toInt = (v3.toInt) + (3) := ti_add rfl rfl (by omega)
  refine ⟨vp_of (a := (v3.toInt + 3)) e5 (by omega) (by omega), ?_⟩
  have z6 := i32 (xs (Int32.toNatClampNeg (v3 + 3)))
  have e7 : ((v3 + 4) : Int32).toInt = (v3.toInt) + (4) := ti_add rfl rfl (by omega)
  refine ⟨vp_of (a := (v3.toInt + 4)) e7 (by omega) (by omega), ?_⟩
  have z8 := i32 (xs (Int32.toNatClampNeg (v3 + 4)))
  have e9 : ((v3 + 5) : Int32).toInt = (v3.toInt) + (5) := ti_add rfl rfl (by omega)
  refine ⟨vp_of (a := (v3.toInt + 5)) e9 (by omega) (by omega), ?_⟩
  have z10 := i32 (xs (Int32.toNatClampNeg (v3 + 5)))
  have e11 : ((v3 + 6) : Int32).toInt = (v3.toInt) + (6) := ti_add rfl rfl (by omega)
  refine ⟨vp_of (a := (v3.toInt + 6)) e11 (by omega) (by omega), ?_⟩
  have z12 := i32 (xs (Int32.toNatClampNeg (v3 + 6)))
  refine ⟨⟨hF0, rfl⟩, ?_⟩
  refine kp7 rfl hR0 rfl (kpA rfl (kpnm rfl hR0 rfl (kp102 rfl hR0 rfl (kp6 rfl hR0 rfl (kp4 rfl (kp5 rfl hR0 rfl (kp0 rfl (kp1 rfl (kp2 rfl (kp3 rfl (sp_X11_slipAt hB0 hR0 (fun x13 y18 I14 J15 hB16 p17 kq22 kq21 kq20 kq19 k24 k23 k25 w29 w28 w27 w26 => ?_))))))))))))
  have i30 := i32 x13
  have b31 := Bd.o hB0 io9_112_3_6 bd9_6_1
  have e32 : ((I14 3 1) : Int32).toInt = (I 3 1).toInt := Eq.trans (congrArg Int32.toInt kq19) rfl
  have kz33 : ((I14 3 1) : Int32).toInt = (I 3 1).toInt := e32
  have b34 := Bd.o hB0 io9_112_97_12 bd9_12_8
  have e35 : ((I14 97 8) : Int32).toInt = (I 97 8).toInt := Eq.trans (congrArg Int32.toInt kq20) rfl
  have kz36 : ((I14 97 8) : Int32).toInt = (I 97 8).toInt := e35
  have b37 := Bd.o hB0 io9_112_1_11 bd9_11_13
  have e38 : ((I14 1 13) : Int32).toInt = (I 1 13).toInt := Eq.trans (congrArg Int32.toInt kq21) rfl
  have kz39 : ((I14 1 13) : Int32).toInt = (I 1 13).toInt := e38
  have b40 := Bd.o hB0 io9_112_97_12 bd9_12_23
  have e41 : ((I14 97 23) : Int32).toInt = (I 97 23).toInt := Eq.trans (congrArg Int32.toInt kq22) rfl
  have kz42 : ((I14 97 23) : Int32).toInt = (I 97 23).toInt := e41
  refine ⟨vp_of (a := (v3.toInt + 1)) e1 (by omega) (by omega), ?_⟩
  have z43 := i32 (xs (Int32.toNatClampNeg (v3 + 1)))
  refine ⟨vp_of (a := (v3.toInt + 2)) e3 (by omega) (by omega), ?_⟩
  have z44 := i32 (xs (Int32.toNatClampNeg (v3 + 2)))
  refine ⟨vp_of (a := (v3.toInt + 3)) e5 (by omega) (by omega), ?_⟩
  have z45 := i32 (xs (Int32.toNatClampNeg (v3 + 3)))
  refine ⟨vp_of (a := (v3.toInt + 4)) e7 (by omega) (by omega), ?_⟩
  have z46 := i32 (xs (Int32.toNatClampNeg (v3 + 4)))
  refine ⟨vp_of (a := (v3.toInt + 5)) e9 (by omega) (by omega), ?_⟩
  have z47 := i32 (xs (Int32.toNatClampNeg (v3 + 5)))
  refine ⟨vp_of (a := (v3.toInt + 6)) e11 (by omega) (by omega), ?_⟩
  have z48 := i32 (xs (Int32.toNatClampNeg (v3 + 6)))
  refine ⟨⟨hF0, rfl⟩, ?_⟩
  refine kp7 rfl hR0 rfl (kpA rfl (kpnm rfl hR0 rfl (kp102 rfl hR0 rfl (kp6 rfl hR0 rfl (kp4 rfl (kp5 rfl hR0 rfl (kp0 rfl (kp1 rfl (kp2 rfl (kp3 rfl (sp_X12_slipAt hB16 hR0 (fun x49 y54 I50 J51 hB52 p53 kq58 kq57 kq56 kq55 k60 k59 k61 w65 w64 w63 w62 => ?_))))))))))))
  have i66 := i32 x49
  have e67 : ((I50 3 1) : Int32).toInt = (I 3 1).toInt := Eq.trans (congrArg Int32.toInt (Eq.trans kq55 kq19)) rfl
  have kz68 : ((I50 3 1) : Int32).toInt = (I 3 1).toInt := e67
  have e69 : ((I50 97 8) : Int32).toInt = (I 97 8).toInt := Eq.trans (congrArg Int32.toInt (Eq.trans kq56 kq20)) rfl
  have kz70 : ((I50 97 8) : Int32).toInt = (I 97 8).toInt := e69
  have e71 : ((I50 1 13) : Int32).toInt = (I 1 13).toInt := Eq.trans (congrArg Int32.toInt (Eq.trans kq57 kq21)) rfl
  have kz72 : ((I50 1 13) : Int32).toInt = (I 1 13).toInt := e71
  have e73 : ((I50 97 23) : Int32).toInt = (I 97 23).toInt := Eq.trans (congrArg Int32.toInt (Eq.trans kq58 kq22)) rfl
  have kz74 : ((I50 97 23) : Int32).toInt = (I 97 23).toInt := e73
  exact hN _ _ R hB52 hR0 hF0 ⟨(Eq.trans (e67) (Eq.trans hL0 (Eq.symm (e69)))), (Eq.trans (e71) (Eq.trans hL1 (Eq.symm (e73)))), (RT.kp (RT.kp hL2 k23 k24) k59 k60), trivial⟩ (R3.kp (R3.kp hR3 w26 (by have ya : ((I14 3 1) : Int32).toInt = (I 3 1).toInt := e32; have yb : ((I 3 1) : Int32).toInt = (I 3 1).toInt := rfl; first | exact Int.le_of_eq (ya.trans yb) | exact ya.trans yb | omega)) w62 (by have ya : ((I50 3 1) : Int32).toInt = (I 3 1).toInt := e67; have yb : ((I14 3 1) : Int32).toInt = (I 3 1).toInt := e32; first | exact Int.le_of_eq (ya.trans yb) | exact ya.trans yb | omega)) (RM.kp hR0 (RM.kp hR0 hRM ⟨w27, w28, (fun j _ => congrFun w29.1 j)⟩) ⟨w63, w64, (fun j _ => congrFun w65.1 j)⟩) trivial
set_option maxRecDepth 100000 in
set_option maxHeartbeats 2000000 in
theorem lc_36 {Q : Nat → Qt} {P : Kt} {L : Nat} {xs : Nat → Int32} (hc : Cl (AM 640) false true L xs 2 112 kL_law Q P) (hL : L ≤ 3584) {v3 : Int32} {I : Im} {J : Jm} {R : Rm} (hB0 : Bd I) (hR0 : RI R) (hF0 : Fl R) (hL0 : (I 3 1).toInt = (I 97 8).toInt) (hL1 : (I 1 13).toInt = (I 97 23).toInt) (hL2 : RT I) (hL3 : True) (hR3 : R3 I J) (hRM : RM I J R) (hFQ : True) (h0 : 0 ≤ v3.toInt) (h7 : v3.toInt + 7 ≤ (L : Int)) (hN : ∀ (I : Im) (J : Jm) (R : Rm), Bd I → RI R → Fl R → RLz I → R3 I J → RM I J R → True → P 1889 112 [(0, .ref 0), (1, .ref 1), (2, .ref 97), (3, .int v3)] [] I J R) : P 1540 112 [(0, .ref 0), (1, .ref 1), (2, .ref 97), (3, .int v3)] [] I J R := by
  have i_v3 := i32 v3
  have e97 : I 97 8 = nI (fl I) := (Int32.toInt_inj.mp hL0).symm.trans (fl_bd hB0).1
  have b31 := Bd.o hB0 io9_112_3_6 bd9_6_1
  refine ls_1540 hc v3 _ _ _ ?_
  have e1 : ((v3 + 1) : Int32).toInt = (v3.toInt) + (1) := ti_add rfl rfl (by omega)
  refine ⟨vp_of (a := (v3.toInt + 1)) e1 (by omega) (by omega), ?_⟩
  have z2 := i32 (xs (Int32.toNatClampNeg (v3 + 1)))
  refine ⟨⟨hF0, rfl⟩, ?_⟩
  refine kp7 rfl hR0 rfl (kpA rfl (kpnm rfl hR0 rfl (kp102 rfl hR0 rfl (kp6 rfl hR0 rfl (kp4 rfl (kp5 rfl hR0 rfl (kp0 rfl (kp1 rfl (kp2 rfl (kp3 rfl (sp_X11_reach hB0 hR0 (fun x3 y8 I4 J5 hB6 p7 kq12 kq11 kq10 kq9 k14 k13 k15 w19 w18 w17 w16 => ?_))))))))))))
  have i20 := i32 x3
  have b21 := Bd.o hB0 io9_112_3_6 bd9_6_1
  have e22 : ((I4 3 1) : Int32).toInt = (I 3 1).toInt := Eq.trans (congrArg Int32.toInt kq9) rfl
  have kz23 : ((I4 3 1) : Int32).toInt = (I 3 1).toInt := e22
  have b24 := Bd.o hB0 io9_112_97_12 bd9_12_8
  have e25 : ((I4 97 8) : Int32).toInt = (I 97 8).toInt := Eq.trans (congrArg Int32.toInt kq10) rfl
  have kz26 : ((I4 97 8) : Int32).toInt = (I 97 8).toInt := e25
  have b27 := Bd.o hB0 io9_112_1_11 bd9_11_13
  have e28 : ((I4 1 13) : Int32).toInt = (I 1 13).toInt := Eq.trans (congrArg Int32.toInt kq11) rfl
  have kz29 : ((I4 1 13) : Int32).toInt = (I 1 13).toInt := e28
  have b30 := Bd.o hB0 io9_112_97_12 bd9_12_23
  have e31 : ((I4 97 23) : Int32).toInt = (I 97 23).toInt := Eq.trans (congrArg Int32.toInt kq12) rfl
  have kz32 : ((I4 97 23) : Int32).toInt = (I 97 23).toInt := e31
  refine ⟨vp_of (a := (v3.toInt + 1)) e1 (by omega) (by omega), ?_⟩
  have z33 := i32 (xs (Int32.toNatClampNeg (v3 + 1)))
  refine ⟨⟨hF0, rfl⟩, ?_⟩
  refine kp7 rfl hR0 rfl (kpA rfl (kpnm rfl hR0 rfl (kp6 rfl hR0 rfl (kp4 rfl (kp5 rfl hR0 rfl (kp0 rfl (kp1 rfl (kp2 rfl (kp3 rfl (sp_X12_reach hB6 hR0 (fun x34 y39 I35 J36 hB37 p38 kq43 kq42 kq41 kq40 k45 k44 k46 w49 w48 w47 => ?_)))))))))))
  have f50 : Fr pT I4 I35 := p38
  have i51 := i32 x34
  have e52 : ((I35 3 1) : Int32).toInt = (I 3 1).toInt := Eq.trans (congrArg Int32.toInt (Eq.trans kq40 kq9)) rfl
  have kz53 : ((I35 3 1) : Int32).toInt = (I 3 1).toInt := e52
  have e54 : ((I35 97 8) : Int32).toInt = (I 97 8).toInt := Eq.trans (congrArg Int32.toInt (Eq.trans kq41 kq10)) rfl
  have kz55 : ((I35 97 8) : Int32).toInt = (I 97 8).toInt := e54
  have e56 : ((I35 1 13) : Int32).toInt = (I 1 13).toInt := Eq.trans (congrArg Int32.toInt (Eq.trans kq42 kq11)) rfl
  have kz57 : ((I35 1 13) : Int32).toInt = (I 1 13).toInt := e56
  have e58 : ((I35 97 23) : Int32).toInt = (I 97 23).toInt := Eq.trans (congrArg Int32.toInt (Eq.trans kq43 kq12)) rfl
  have kz59 : ((I35 97 23) : Int32).toInt = (I 97 23).toInt := e58
  exact hN _ _ R hB37 hR0 hF0 ⟨(Eq.trans (e52) (Eq.trans hL0 (Eq.symm (e54)))), (Eq.trans (e56) (Eq.trans hL1 (Eq.symm (e58)))), (RT.kp (RT.kp hL2 k13 k14) k44 k45), trivial⟩ (R3.kp (R3.kp hR3 w16 (by have ya : ((I4 3 1) : Int32).toInt = (I 3 1).toInt := e22; have yb : ((I 3 1) : Int32).toInt = (I 3 1).toInt := rfl; first | exact Int.le_of_eq (ya.trans yb) | exact ya.trans yb | omega)) w47 (by have ya : ((I35 3 1) : Int32).toInt = (I 3 1).toInt := e52; have yb : ((I4 3 1) : Int32).toInt = (I 3 1).toInt := e22; first | exact Int.le_of_eq (ya.trans yb) | exact ya.trans yb | omega)) (RM.kp hR0 (RM.kp hR0 hRM ⟨w17, w18, (fun j _ => congrFun w19.1 j)⟩) ⟨w48, w49, (fun j _ => f50.1 j trivial)⟩) trivial
set_option maxRecDepth 100000 in
set_option maxHeartbeats 2000000 in
theorem lc_37 {Q : Nat → Qt} {P : Kt} {L : Nat} {xs : Nat → Int32} (hc : Cl (AM 640) false true L xs 2 112 kL_law Q P) (hL : L ≤ 3584) {v3 : Int32} {I : Im} {J : Jm} {R : Rm} (hB0 : Bd I) (hR0 : RI R) (hF0 : Fl R) (hL0 : (I 3 1).toInt = (I 97 8).toInt) (hL1 : (I 1 13).toInt = (I 97 23).toInt) (hL2 : RT I) (hL3 : True) (hR3 : R3 I J) (hRM : RM I J R) (hFQ : True) (h0 : 0 ≤ v3.toInt) (h7 : v3.toInt + 7 ≤ (L : Int)) (hN : ∀ (I : Im) (J : Jm) (R : Rm), Bd I → RI R → Fl R → RLz I → R3 I J → RM I J R → True → P 1889 112 [(0, .ref 0), (1, .ref 1), (2, .ref 97), (3, .int v3)] [] I J R) : P 1563 112 [(0, .ref 0), (1, .ref 1), (2, .ref 97), (3, .int v3)] [] I J R := by
  have i_v3 := i32 v3
  have e97 : I 97 8 = nI (fl I) := (Int32.toInt_inj.mp hL0).symm.trans (fl_bd hB0).1
  have b31 := Bd.o hB0 io9_112_3_6 bd9_6_1
  refine ls_1563 hc v3 _ _ _ ?_
  have e1 : ((v3 + 1) : Int32).toInt = (v3.toInt) + (1) := ti_add rfl rfl (by omega)
  refine ⟨vp_of (a := (v3.toInt + 1)) e1 (by omega) (by omega), ?_⟩
  have z2 := i32 (xs (Int32.toNatClampNeg (v3 + 1)))
  have e3 : ((v3 + 2) : Int32).toInt = (v3.toInt) + (2) := ti_add rfl rfl (by omega)
  refine ⟨vp_of (a := (v3.toInt + 2)) e3 (by omega) (by omega), ?_⟩
  have z4 := i32 (xs (Int32.toNatClampNeg (v3 + 2)))
  refine ⟨⟨hF0, rfl⟩, ?_⟩
  refine kp7 rfl hR0 rfl (kpA rfl (kpnm rfl hR0 rfl (kp102 rfl hR0 rfl (kp6 rfl hR0 rfl (kp4 rfl (kp5 rfl hR0 rfl (kp0 rfl (kp1 rfl (kp2 rfl (kp3 rfl (sp_X11_reachAt hB0 hR0 (fun x5 y10 I6 J7 hB8 p9 kq14 kq13 kq12 kq11 k16 k15 k17 w21 w20 w19 w18 => ?_))))))))))))
  have i22 := i32 x5
  have b23 := Bd.o hB0 io9_112_3_6 bd9_6_1
  have e24 : ((I6 3 1) : Int32).toInt = (I 3 1).toInt := Eq.trans (congrArg Int32.toInt kq11) rfl
  have kz25 : ((I6 3 1) : Int32).toInt = (I 3 1).toInt := e24
  have b26 := Bd.o hB0 io9_112_97_12 bd9_12_8
  have e27 : ((I6 97 8) : Int32).toInt = (I 97 8).toInt := Eq.trans (congrArg Int32.toInt kq12) rfl
  have kz28 : ((I6 97 8) : Int32).toInt = (I 97 8).toInt := e27
  have b29 := Bd.o hB0 io9_112_1_11 bd9_11_13
  have e30 : ((I6 1 13) : Int32).toInt = (I 1 13).toInt := Eq.trans (congrArg Int32.toInt kq13) rfl
  have kz31 : ((I6 1 13) : Int32).toInt = (I 1 13).toInt := e30
  have b32 := Bd.o hB0 io9_112_97_12 bd9_12_23
  have e33 : ((I6 97 23) : Int32).toInt = (I 97 23).toInt := Eq.trans (congrArg Int32.toInt kq14) rfl
  have kz34 : ((I6 97 23) : Int32).toInt = (I 97 23).toInt := e33
  refine ⟨vp_of (a := (v3.toInt + 1)) e1 (by omega) (by omega), ?_⟩
  have z35 := i32 (xs (Int32.toNatClampNeg (v3 + 1)))
  refine ⟨vp_of (a := (v3.toInt + 2)) e3 (by omega) (by omega), ?_⟩
  have z36 := i32 (xs (Int32.toNatClampNeg (v3 + 2)))
  refine ⟨⟨hF0, rfl⟩, ?_⟩
  refine kp7 rfl hR0 rfl (kpA rfl (kpnm rfl hR0 rfl (kp6 rfl hR0 rfl (kp4 rfl (kp5 rfl hR0 rfl (kp0 rfl (kp1 rfl (kp2 rfl (kp3 rfl (sp_X12_reachAt hB8 hR0 (fun x37 y42 I38 J39 hB40 p41 kq46 kq45 kq44 kq43 k48 k47 k49 w52 w51 w50 => ?_)))))))))))
  have f53 : Fr pT I6 I38 := p41
  have i54 := i32 x37
  have e55 : ((I38 3 1) : Int32).toInt = (I 3 1).toInt := Eq.trans (congrArg Int32.toInt (Eq.trans kq43 kq11)) rfl
  have kz56 : ((I38 3 1) : Int32).toInt = (I 3 1).toInt := e55
  have e57 : ((I38 97 8) : Int32).toInt = (I 97 8).toInt := Eq.trans (congrArg Int32.toInt (Eq.trans kq44 kq12)) rfl
  have kz58 : ((I38 97 8) : Int32).toInt = (I 97 8).toInt := e57
  have e59 : ((I38 1 13) : Int32).toInt = (I 1 13).toInt := Eq.trans (congrArg Int32.toInt (Eq.trans kq45 kq13)) rfl
  have kz60 : ((I38 1 13) : Int32).toInt = (I 1 13).toInt := e59
  have e61 : ((I38 97 23) : Int32).toInt = (I 97 23).toInt := Eq.trans (congrArg Int32.toInt (Eq.trans kq46 kq14)) rfl
  have kz62 : ((I38 97 23) : Int32).toInt = (I 97 23).toInt := e61
  exact hN _ _ R hB40 hR0 hF0 ⟨(Eq.trans (e55) (Eq.trans hL0 (Eq.symm (e57)))), (Eq.trans (e59) (Eq.trans hL1 (Eq.symm (e61)))), (RT.kp (RT.kp hL2 k15 k16) k47 k48), trivial⟩ (R3.kp (R3.kp hR3 w18 (by have ya : ((I6 3 1) : Int32).toInt = (I 3 1).toInt := e24; have yb : ((I 3 1) : Int32).toInt = (I 3 1).toInt := rfl; first | exact Int.le_of_eq (ya.trans yb) | exact ya.trans yb | omega)) w50 (by have ya : ((I38 3 1) : Int32).toInt = (I 3 1).toInt := e55; have yb : ((I6 3 1) : Int32).toInt = (I 3 1).toInt := e24; first | exact Int.le_of_eq (ya.trans yb) | exact ya.trans yb | omega)) (RM.kp hR0 (RM.kp hR0 hRM ⟨w19, w20, (fun j _ => congrFun w21.1 j)⟩) ⟨w51, w52, (fun j _ => f53.1 j trivial)⟩) trivial
set_option maxRecDepth 100000 in
set_option maxHeartbeats 2000000 in
theorem lc_38 {Q : Nat → Qt} {P : Kt} {L : Nat} {xs : Nat → Int32} (hc : Cl (AM 640) false true L xs 2 112 kL_law Q P) (hL : L ≤ 3584) {v3 : Int32} {I : Im} {J : Jm} {R : Rm} (hB0 : Bd I) (hR0 : RI R) (hF0 : Fl R) (hL0 : (I 3 1).toInt = (I 97 8).toInt) (hL1 : (I 1 13).toInt = (I 97 23).toInt) (hL2 : RT I) (hL3 : True) (hR3 : R3 I J) (hRM : RM I J R) (hFQ : True) (h0 : 0 ≤ v3.toInt) (h7 : v3.toInt + 7 ≤ (L : Int)) (hN : ∀ (I : Im) (J : Jm) (R : Rm), Bd I → RI R → Fl R → RLz I → R3 I J → RM I J R → True → P 1889 112 [(0, .ref 0), (1, .ref 1), (2, .ref 97), (3, .int v3)] [] I J R) : P 1596 112 [(0, .ref 0), (1, .ref 1), (2, .ref 97), (3, .int v3)] [] I J R := by
  have i_v3 := i32 v3
  have e97 : I 97 8 = nI (fl I) := (Int32.toInt_inj.mp hL0).symm.trans (fl_bd hB0).1
  have b31 := Bd.o hB0 io9_112_3_6 bd9_6_1
  refine ls_1596 hc v3 _ _ _ ?_
  have e1 : ((v3 + 1) : Int32).toInt = (v3.toInt) + (1) := ti_add rfl rfl (by omega)
  refine ⟨vp_of (a := (v3.toInt + 1)) e1 (by omega) (by omega), ?_⟩
  have z2 := i32 (xs (Int32.toNatClampNeg (v3 + 1)))
  refine ⟨⟨hF0, rfl⟩, ?_⟩
  refine kp7 rfl hR0 rfl (kpA rfl (kpnm rfl hR0 rfl (kp102 rfl hR0 rfl (kp6 rfl hR0 rfl (kp4 rfl (kp5 rfl hR0 rfl (kp0 rfl (kp1 rfl (kp2 rfl (kp3 rfl (sp_X11_fill hB0 hR0 (fun x3 y8 I4 J5 hB6 p7 kq12 kq11 kq10 kq9 k14 k13 k15 w19 w18 w17 w16 => ?_))))))))))))
  have i20 := i32 x3
  have b21 := Bd.o hB0 io9_112_3_6 bd9_6_1
  have e22 : ((I4 3 1) : Int32).toInt = (I 3 1).toInt := Eq.trans (congrArg Int32.toInt kq9) rfl
  have kz23 : ((I4 3 1) : Int32).toInt = (I 3 1).toInt := e22
  have b24 := Bd.o hB0 io9_112_97_12 bd9_12_8
  have e25 : ((I4 97 8) : Int32).toInt = (I 97 8).toInt := Eq.trans (congrArg Int32.toInt kq10) rfl
  have kz26 : ((I4 97 8) : Int32).toInt = (I 97 8).toInt := e25
  have b27 := Bd.o hB0 io9_112_1_11 bd9_11_13
  have e28 : ((I4 1 13) : Int32).toInt = (I 1 13).toInt := Eq.trans (congrArg Int32.toInt kq11) rfl
  have kz29 : ((I4 1 13) : Int32).toInt = (I 1 13).toInt := e28
  have b30 := Bd.o hB0 io9_112_97_12 bd9_12_23
  have e31 : ((I4 97 23) : Int32).toInt = (I 97 23).toInt := Eq.trans (congrArg Int32.toInt kq12) rfl
  have kz32 : ((I4 97 23) : Int32).toInt = (I 97 23).toInt := e31
  refine ⟨vp_of (a := (v3.toInt + 1)) e1 (by omega) (by omega), ?_⟩
  have z33 := i32 (xs (Int32.toNatClampNeg (v3 + 1)))
  refine ⟨⟨hF0, rfl⟩, ?_⟩
  refine kp7 rfl hR0 rfl (kpA rfl (kpnm rfl hR0 rfl (kp6 rfl hR0 rfl (kp4 rfl (kp5 rfl hR0 rfl (kp0 rfl (kp1 rfl (kp2 rfl (kp3 rfl (sp_X12_fill hB6 hR0 (fun x34 y39 I35 J36 hB37 p38 kq43 kq42 kq41 kq40 k45 k44 k46 w49 w48 w47 => ?_)))))))))))
  have f50 : Fr pT I4 I35 := p38
  have i51 := i32 x34
  have e52 : ((I35 3 1) : Int32).toInt = (I 3 1).toInt := Eq.trans (congrArg Int32.toInt (Eq.trans kq40 kq9)) rfl
  have kz53 : ((I35 3 1) : Int32).toInt = (I 3 1).toInt := e52
  have e54 : ((I35 97 8) : Int32).toInt = (I 97 8).toInt := Eq.trans (congrArg Int32.toInt (Eq.trans kq41 kq10)) rfl
  have kz55 : ((I35 97 8) : Int32).toInt = (I 97 8).toInt := e54
  have e56 : ((I35 1 13) : Int32).toInt = (I 1 13).toInt := Eq.trans (congrArg Int32.toInt (Eq.trans kq42 kq11)) rfl
  have kz57 : ((I35 1 13) : Int32).toInt = (I 1 13).toInt := e56
  have e58 : ((I35 97 23) : Int32).toInt = (I 97 23).toInt := Eq.trans (congrArg Int32.toInt (Eq.trans kq43 kq12)) rfl
  have kz59 : ((I35 97 23) : Int32).toInt = (I 97 23).toInt := e58
  exact hN _ _ R hB37 hR0 hF0 ⟨(Eq.trans (e52) (Eq.trans hL0 (Eq.symm (e54)))), (Eq.trans (e56) (Eq.trans hL1 (Eq.symm (e58)))), (RT.kp (RT.kp hL2 k13 k14) k44 k45), trivial⟩ (R3.kp (R3.kp hR3 w16 (by have ya : ((I4 3 1) : Int32).toInt = (I 3 1).toInt := e22; have yb : ((I 3 1) : Int32).toInt = (I 3 1).toInt := rfl; first | exact Int.le_of_eq (ya.trans yb) | exact ya.trans yb | omega)) w47 (by have ya : ((I35 3 1) : Int32).toInt = (I 3 1).toInt := e52; have yb : ((I4 3 1) : Int32).toInt = (I 3 1).toInt := e22; first | exact Int.le_of_eq (ya.trans yb) | exact ya.trans yb | omega)) (RM.kp hR0 (RM.kp hR0 hRM ⟨w17, w18, (fun j _ => congrFun w19.1 j)⟩) ⟨w48, w49, (fun j _ => f50.1 j trivial)⟩) trivial
set_option maxRecDepth 100000 in
set_option maxHeartbeats 2000000 in
theorem lc_39 {Q : Nat → Qt} {P : Kt} {L : Nat} {xs : Nat → Int32} (hc : Cl (AM 640) false true L xs 2 112 kL_law Q P) (hL : L ≤ 3584) {v3 : Int32} {I : Im} {J : Jm} {R : Rm} (hB0 : Bd I) (hR0 : RI R) (hF0 : Fl R) (hL0 : (I 3 1).toInt = (I 97 8).toInt) (hL1 : (I 1 13).toInt = (I 97 23).toInt) (hL2 : RT I) (hL3 : True) (hR3 : R3 I J) (hRM : RM I J R) (hFQ : True) (h0 : 0 ≤ v3.toInt) (h7 : v3.toInt + 7 ≤ (L : Int)) (hN : ∀ (I : Im) (J : Jm) (R : Rm), Bd I → RI R → Fl R → RLz I → R3 I J → RM I J R → True → P 1889 112 [(0, .ref 0), (1, .ref 1), (2, .ref 97), (3, .int v3)] [] I J R) : P 1619 112 [(0, .ref 0), (1, .ref 1), (2, .ref 97), (3, .int v3)] [] I J R := by
  have i_v3 := i32 v3
  have e97 : I 97 8 = nI (fl I) := (Int32.toInt_inj.mp hL0).symm.trans (fl_bd hB0).1
  have b31 := Bd.o hB0 io9_112_3_6 bd9_6_1
  refine ls_1619 hc v3 _ _ _ ?_
  have e1 : ((v3 + 1) : Int32).toInt = (v3.toInt) + (1) := ti_add rfl rfl (by omega)
  refine ⟨vp_of (a := (v3.toInt + 1)) e1 (by omega) (by omega), ?_⟩
  have z2 := i32 (xs (Int32.toNatClampNeg (v3 + 1)))
  have e3 : ((v3 + 2) : Int32).toInt = (v3.toInt) + (2) := ti_add rfl rfl (by omega)
  refine ⟨vp_of (a := (v3.toInt + 2)) e3 (by omega) (by omega), ?_⟩
  have z4 := i32 (xs (Int32.toNatClampNeg (v3 + 2)))
  refine ⟨⟨hF0, rfl⟩, ?_⟩
  refine kp7 rfl hR0 rfl (kpA rfl (kpnm rfl hR0 rfl (kp102 rfl hR0 rfl (kp6 rfl hR0 rfl (kp4 rfl (kp5 rfl hR0 rfl (kp0 rfl (kp1 rfl (kp2 rfl (kp3 rfl (sp_X11_fillAt hB0 hR0 (fun x5 y10 I6 J7 hB8 p9 kq14 kq13 kq12 kq11 k16 k15 k17 w21 w20 w19 w18 => ?_))))))))))))
  have i22 := i32 x5
  have b23 := Bd.o hB0 io9_112_3_6 bd9_6_1
  have e24 : ((I6 3 1) : Int32).toInt = (I 3 1).toInt := Eq.trans (congrArg Int32.toInt kq11) rfl
  have kz25 : ((I6 3 1) : Int32).toInt = (I 3 1).toInt := e24
  have b26 := Bd.o hB0 io9_112_97_12 bd9_12_8
  have e27 : ((I6 97 8) : Int32).toInt = (I 97 8).toInt := Eq.trans (congrArg Int32.toInt kq12) rfl
  have kz28 : ((I6 97 8) : Int32).toInt = (I 97 8).toInt := e27
  have b29 := Bd.o hB0 io9_112_1_11 bd9_11_13
  have e30 : ((I6 1 13) : Int32).toInt = (I 1 13).toInt := Eq.trans (congrArg Int32.toInt kq13) rfl
  have kz31 : ((I6 1 13) : Int32).toInt = (I 1 13).toInt := e30
  have b32 := Bd.o hB0 io9_112_97_12 bd9_12_23
  have e33 : ((I6 97 23) : Int32).toInt = (I 97 23).toInt := Eq.trans (congrArg Int32.toInt kq14) rfl
  have kz34 : ((I6 97 23) : Int32).toInt = (I 97 23).toInt := e33
  refine ⟨vp_of (a := (v3.toInt + 1)) e1 (by omega) (by omega), ?_⟩
  have z35 := i32 (xs (Int32.toNatClampNeg (v3 + 1)))
  refine ⟨vp_of (a := (v3.toInt + 2)) e3 (by omega) (by omega), ?_⟩
  have z36 := i32 (xs (Int32.toNatClampNeg (v3 + 2)))
  refine ⟨⟨hF0, rfl⟩, ?_⟩
  refine kp7 rfl hR0 rfl (kpA rfl (kpnm rfl hR0 rfl (kp6 rfl hR0 rfl (kp4 rfl (kp5 rfl hR0 rfl (kp0 rfl (kp1 rfl (kp2 rfl (kp3 rfl (sp_X12_fillAt hB8 hR0 (fun x37 y42 I38 J39 hB40 p41 kq46 kq45 kq44 kq43 k48 k47 k49 w52 w51 w50 => ?_)))))))))))
  have f53 : Fr pT I6 I38 := p41
  have i54 := i32 x37
  have e55 : ((I38 3 1) : Int32).toInt = (I 3 1).toInt := Eq.trans (congrArg Int32.toInt (Eq.trans kq43 kq11)) rfl
  have kz56 : ((I38 3 1) : Int32).toInt = (I 3 1).toInt := e55
  have e57 : ((I38 97 8) : Int32).toInt = (I 97 8).toInt := Eq.trans (congrArg Int32.toInt (Eq.trans kq44 kq12)) rfl
  have kz58 : ((I38 97 8) : Int32).toInt = (I 97 8).toInt := e57
  have e59 : ((I38 1 13) : Int32).toInt = (I 1 13).toInt := Eq.trans (congrArg Int32.toInt (Eq.trans kq45 kq13)) rfl
  have kz60 : ((I38 1 13) : Int32).toInt = (I 1 13).toInt := e59
  have e61 : ((I38 97 23) : Int32).toInt = (I 97 23).toInt := Eq.trans (congrArg Int32.toInt (Eq.trans kq46 kq14)) rfl
  have kz62 : ((I38 97 23) : Int32).toInt = (I 97 23).toInt := e61
  exact hN _ _ R hB40 hR0 hF0 ⟨(Eq.trans (e55) (Eq.trans hL0 (Eq.symm (e57)))), (Eq.trans (e59) (Eq.trans hL1 (Eq.symm (e61)))), (RT.kp (RT.kp hL2 k15 k16) k47 k48), trivial⟩ (R3.kp (R3.kp hR3 w18 (by have ya : ((I6 3 1) : Int32).toInt = (I 3 1).toInt := e24; have yb : ((I 3 1) : Int32).toInt = (I 3 1).toInt := rfl; first | exact Int.le_of_eq (ya.trans yb) | exact ya.trans yb | omega)) w50 (by have ya : ((I38 3 1) : Int32).toInt = (I 3 1).toInt := e55; have yb : ((I6 3 1) : Int32).toInt = (I 3 1).toInt := e24; first | exact Int.le_of_eq (ya.trans yb) | exact ya.trans yb | omega)) (RM.kp hR0 (RM.kp hR0 hRM ⟨w19, w20, (fun j _ => congrFun w21.1 j)⟩) ⟨w51, w52, (fun j _ => f53.1 j trivial)⟩) trivial
set_option maxRecDepth 100000 in
set_option maxHeartbeats 2000000 in
theorem lc_40 {Q : Nat → Qt} {P : Kt} {L : Nat} {xs : Nat → Int32} (hc : Cl (AM 640) false true L xs 2 112 kL_law Q P) (hL : L ≤ 3584) {v3 : Int32} {I : Im} {J : Jm} {R : Rm} (hB0 : Bd I) (hR0 : RI R) (hF0 : Fl R) (hL0 : (I 3 1).toInt = (I 97 8).toInt) (hL1 : (I 1 13).toInt = (I 97 23).toInt) (hL2 : RT I) (hL3 : True) (hR3 : R3 I J) (hRM : RM I J R) (hFQ : True) (h0 : 0 ≤ v3.toInt) (h7 : v3.toInt + 7 ≤ (L : Int)) (hN : ∀ (I : Im) (J : Jm) (R : Rm), Bd I → RI R → Fl R → RLz I → R3 I J → RM I J R → True → P 1889 112 [(0, .ref 0), (1, .ref 1), (2, .ref 97), (3, .int v3)] [] I J R) : P 1652 112 [(0, .ref 0), (1, .ref 1), (2, .ref 97), (3, .int v3)] [] I J R := by
  have i_v3 := i32 v3
  have e97 : I 97 8 = nI (fl I) := (Int32.toInt_inj.mp hL0).symm.trans (fl_bd hB0).1
  have b31 := Bd.o hB0 io9_112_3_6 bd9_6_1
  refine ls_1652 hc v3 _ _ _ ?_
  have e1 : ((v3 + 1) : Int32).toInt = (v3.toInt) + (1) := ti_add rfl rfl (by omega)
  refine ⟨vp_of (a := (v3.toInt + 1)) e1 (by omega) (by omega), ?_⟩
  have z2 := i32 (xs (Int32.toNatClampNeg (v3 + 1)))
  refine ⟨⟨hF0, rfl⟩, ?_⟩
  refine kp7 rfl hR0 rfl (kpA rfl (kpnm rfl hR0 rfl (kp102 rfl hR0 rfl (kp4 rfl (kp5 rfl hR0 rfl (kp0 rfl (kp1 rfl (kp2 rfl (kp3 rfl (sp_X11_plate hB0 hR0 (fun x3 y8 I4 J5 hB6 p7 kq12 kq11 kq10 kq9 k14 k13 w18 w17 w16 w15 => ?_)))))))))))
  have i19 := i32 x3
  have b20 := Bd.o hB0 io9_112_3_6 bd9_6_1
  have e21 : ((I4 3 1) : Int32).toInt = (I 3 1).toInt := Eq.trans (congrArg Int32.toInt kq9) rfl
  have kz22 : ((I4 3 1) : Int32).toInt = (I 3 1).toInt := e21
  have b23 := Bd.o hB0 io9_112_97_12 bd9_12_8
  have e24 : ((I4 97 8) : Int32).toInt = (I 97 8).toInt := Eq.trans (congrArg Int32.toInt kq10) rfl
  have kz25 : ((I4 97 8) : Int32).toInt = (I 97 8).toInt := e24
  have b26 := Bd.o hB0 io9_112_1_11 bd9_11_13
  have e27 : ((I4 1 13) : Int32).toInt = (I 1 13).toInt := Eq.trans (congrArg Int32.toInt kq11) rfl
  have kz28 : ((I4 1 13) : Int32).toInt = (I 1 13).toInt := e27
  have b29 := Bd.o hB0 io9_112_97_12 bd9_12_23
  have e30 : ((I4 97 23) : Int32).toInt = (I 97 23).toInt := Eq.trans (congrArg Int32.toInt kq12) rfl
  have kz31 : ((I4 97 23) : Int32).toInt = (I 97 23).toInt := e30
  refine ⟨vp_of (a := (v3.toInt + 1)) e1 (by omega) (by omega), ?_⟩
  have z32 := i32 (xs (Int32.toNatClampNeg (v3 + 1)))
  refine ⟨⟨hF0, rfl⟩, ?_⟩
  refine kp7 rfl hR0 rfl (kpA rfl (kpnm rfl hR0 rfl (kp102 rfl hR0 rfl (kp6 rfl hR0 rfl (kp4 rfl (kp5 rfl hR0 rfl (kp0 rfl (kp1 rfl (kp2 rfl (kp3 rfl (sp_X12_plate hB6 hR0 (fun x33 y38 I34 J35 hB36 p37 kq42 kq41 kq40 kq39 k44 k43 k45 w49 w48 w47 w46 => ?_))))))))))))
  have i50 := i32 x33
  have e51 : ((I34 3 1) : Int32).toInt = (I 3 1).toInt := Eq.trans (congrArg Int32.toInt (Eq.trans kq39 kq9)) rfl
  have kz52 : ((I34 3 1) : Int32).toInt = (I 3 1).toInt := e51
  have e53 : ((I34 97 8) : Int32).toInt = (I 97 8).toInt := Eq.trans (congrArg Int32.toInt (Eq.trans kq40 kq10)) rfl
  have kz54 : ((I34 97 8) : Int32).toInt = (I 97 8).toInt := e53
  have e55 : ((I34 1 13) : Int32).toInt = (I 1 13).toInt := Eq.trans (congrArg Int32.toInt (Eq.trans kq41 kq11)) rfl
  have kz56 : ((I34 1 13) : Int32).toInt = (I 1 13).toInt := e55
  have e57 : ((I34 97 23) : Int32).toInt = (I 97 23).toInt := Eq.trans (congrArg Int32.toInt (Eq.trans kq42 kq12)) rfl
  have kz58 : ((I34 97 23) : Int32).toInt = (I 97 23).toInt := e57
  exact hN _ _ R hB36 hR0 hF0 ⟨(Eq.trans (e51) (Eq.trans hL0 (Eq.symm (e53)))), (Eq.trans (e55) (Eq.trans hL1 (Eq.symm (e57)))), (RT.kp (RT.kp hL2 k13 k14) k43 k44), trivial⟩ (R3.kp (R3.kp hR3 w15 (by have ya : ((I4 3 1) : Int32).toInt = (I 3 1).toInt := e21; have yb : ((I 3 1) : Int32).toInt = (I 3 1).toInt := rfl; first | exact Int.le_of_eq (ya.trans yb) | exact ya.trans yb | omega)) w46 (by have ya : ((I34 3 1) : Int32).toInt = (I 3 1).toInt := e51; have yb : ((I4 3 1) : Int32).toInt = (I 3 1).toInt := e21; first | exact Int.le_of_eq (ya.trans yb) | exact ya.trans yb | omega)) (RM.kp hR0 (RM.kp hR0 hRM ⟨w16, w17, (fun j _ => congrFun w18.1 j)⟩) ⟨w47, w48, (fun j _ => congrFun w49.1 j)⟩) trivial
set_option maxRecDepth 100000 in
set_option maxHeartbeats 2000000 in
theorem lc_41 {Q : Nat → Qt} {P : Kt} {L : Nat} {xs : Nat → Int32} (hc : Cl (AM 640) false true L xs 2 112 kL_law Q P) (hL : L ≤ 3584) {v3 : Int32} {I : Im} {J : Jm} {R : Rm} (hB0 : Bd I) (hR0 : RI R) (hF0 : Fl R) (hL0 : (I 3 1).toInt = (I 97 8).toInt) (hL1 : (I 1 13).toInt = (I 97 23).toInt) (hL2 : RT I) (hL3 : True) (hR3 : R3 I J) (hRM : RM I J R) (hFQ : True) (h0 : 0 ≤ v3.toInt) (h7 : v3.toInt + 7 ≤ (L : Int)) (hN : ∀ (I : Im) (J : Jm) (R : Rm), Bd I → RI R → Fl R → RLz I → R3 I J → RM I J R → True → P 1889 112 [(0, .ref 0), (1, .ref 1), (2, .ref 97), (3, .int v3)] [] I J R) : P 1675 112 [(0, .ref 0), (1, .ref 1), (2, .ref 97), (3, .int v3)] [] I J R := by
  have i_v3 := i32 v3
  have e97 : I 97 8 = nI (fl I) := (Int32.toInt_inj.mp hL0).symm.trans (fl_bd hB0).1
  have b31 := Bd.o hB0 io9_112_3_6 bd9_6_1
  refine ls_1675 hc v3 _ _ _ ?_
  have e1 : ((v3 + 1) : Int32).toInt = (v3.toInt) + (1) := ti_add rfl rfl (by omega)
  refine ⟨vp_of (a := (v3.toInt + 1)) e1 (by omega) (by omega), ?_⟩
  have z2 := i32 (xs (Int32.toNatClampNeg (v3 + 1)))
  refine ⟨⟨hF0, rfl⟩, ?_⟩
  refine kp7 rfl hR0 rfl (kpA rfl (kpnm rfl hR0 rfl (kp102 rfl hR0 rfl (kp4 rfl (kp5 rfl hR0 rfl (kp0 rfl (kp1 rfl (kp2 rfl (kp3 rfl (sp_X11_plateMove hB0 hR0 (fun x3 y8 I4 J5 hB6 p7 kq12 kq11 kq10 kq9 k14 k13 w18 w17 w16 w15 => ?_)))))))))))
  have i19 := i32 x3
  have b20 := Bd.o hB0 io9_112_3_6 bd9_6_1
  have e21 : ((I4 3 1) : Int32).toInt = (I 3 1).toInt := Eq.trans (congrArg Int32.toInt kq9) rfl
  have kz22 : ((I4 3 1) : Int32).toInt = (I 3 1).toInt := e21
  have b23 := Bd.o hB0 io9_112_97_12 bd9_12_8
  have e24 : ((I4 97 8) : Int32).toInt = (I 97 8).toInt := Eq.trans (congrArg Int32.toInt kq10) rfl
  have kz25 : ((I4 97 8) : Int32).toInt = (I 97 8).toInt := e24
  have b26 := Bd.o hB0 io9_112_1_11 bd9_11_13
  have e27 : ((I4 1 13) : Int32).toInt = (I 1 13).toInt := Eq.trans (congrArg Int32.toInt kq11) rfl
  have kz28 : ((I4 1 13) : Int32).toInt = (I 1 13).toInt := e27
  have b29 := Bd.o hB0 io9_112_97_12 bd9_12_23
  have e30 : ((I4 97 23) : Int32).toInt = (I 97 23).toInt := Eq.trans (congrArg Int32.toInt kq12) rfl
  have kz31 : ((I4 97 23) : Int32).toInt = (I 97 23).toInt := e30
  refine ⟨vp_of (a := (v3.toInt + 1)) e1 (by omega) (by omega), ?_⟩
  have z32 := i32 (xs (Int32.toNatClampNeg (v3 + 1)))
  refine ⟨⟨hF0, rfl⟩, ?_⟩
  refine kp7 rfl hR0 rfl (kpA rfl (kpnm rfl hR0 rfl (kp102 rfl hR0 rfl (kp6 rfl hR0 rfl (kp4 rfl (kp5 rfl hR0 rfl (kp0 rfl (kp1 rfl (kp2 rfl (kp3 rfl (sp_X12_plateMove hB6 hR0 (fun x33 y38 I34 J35 hB36 p37 kq42 kq41 kq40 kq39 k44 k43 k45 w49 w48 w47 w46 => ?_))))))))))))
  have i50 := i32 x33
  have e51 : ((I34 3 1) : Int32).toInt = (I 3 1).toInt := Eq.trans (congrArg Int32.toInt (Eq.trans kq39 kq9)) rfl
  have kz52 : ((I34 3 1) : Int32).toInt = (I 3 1).toInt := e51
  have e53 : ((I34 97 8) : Int32).toInt = (I 97 8).toInt := Eq.trans (congrArg Int32.toInt (Eq.trans kq40 kq10)) rfl
  have kz54 : ((I34 97 8) : Int32).toInt = (I 97 8).toInt := e53
  have e55 : ((I34 1 13) : Int32).toInt = (I 1 13).toInt := Eq.trans (congrArg Int32.toInt (Eq.trans kq41 kq11)) rfl
  have kz56 : ((I34 1 13) : Int32).toInt = (I 1 13).toInt := e55
  have e57 : ((I34 97 23) : Int32).toInt = (I 97 23).toInt := Eq.trans (congrArg Int32.toInt (Eq.trans kq42 kq12)) rfl
  have kz58 : ((I34 97 23) : Int32).toInt = (I 97 23).toInt := e57
  exact hN _ _ R hB36 hR0 hF0 ⟨(Eq.trans (e51) (Eq.trans hL0 (Eq.symm (e53)))), (Eq.trans (e55) (Eq.trans hL1 (Eq.symm (e57)))), (RT.kp (RT.kp hL2 k13 k14) k43 k44), trivial⟩ (R3.kp (R3.kp hR3 w15 (by have ya : ((I4 3 1) : Int32).toInt = (I 3 1).toInt := e21; have yb : ((I 3 1) : Int32).toInt = (I 3 1).toInt := rfl; first | exact Int.le_of_eq (ya.trans yb) | exact ya.trans yb | omega)) w46 (by have ya : ((I34 3 1) : Int32).toInt = (I 3 1).toInt := e51; have yb : ((I4 3 1) : Int32).toInt = (I 3 1).toInt := e21; first | exact Int.le_of_eq (ya.trans yb) | exact ya.trans yb | omega)) (RM.kp hR0 (RM.kp hR0 hRM ⟨w16, w17, (fun j _ => congrFun w18.1 j)⟩) ⟨w47, w48, (fun j _ => congrFun w49.1 j)⟩) trivial
set_option maxRecDepth 100000 in
set_option maxHeartbeats 2000000 in
theorem lc_42 {Q : Nat → Qt} {P : Kt} {L : Nat} {xs : Nat → Int32} (hc : Cl (AM 640) false true L xs 2 112 kL_law Q P) (hL : L ≤ 3584) {v3 : Int32} {I : Im} {J : Jm} {R : Rm} (hB0 : Bd I) (hR0 : RI R) (hF0 : Fl R) (hL0 : (I 3 1).toInt = (I 97 8).toInt) (hL1 : (I 1 13).toInt = (I 97 23).toInt) (hL2 : RT I) (hL3 : True) (hR3 : R3 I J) (hRM : RM I J R) (hFQ : True) (h0 : 0 ≤ v3.toInt) (h7 : v3.toInt + 7 ≤ (L : Int)) (hN : ∀ (I : Im) (J : Jm) (R : Rm), Bd I → RI R → Fl R → RLz I → R3 I J → RM I J R → True → P 1889 112 [(0, .ref 0), (1, .ref 1), (2, .ref 97), (3, .int v3)] [] I J R) : P 1698 112 [(0, .ref 0), (1, .ref 1), (2, .ref 97), (3, .int v3)] [] I J R := by
  have i_v3 := i32 v3
  have e97 : I 97 8 = nI (fl I) := (Int32.toInt_inj.mp hL0).symm.trans (fl_bd hB0).1
  have b31 := Bd.o hB0 io9_112_3_6 bd9_6_1
  refine ls_1698 hc v3 _ _ _ ?_
  have e1 : ((v3 + 1) : Int32).toInt = (v3.toInt) + (1) := ti_add rfl rfl (by omega)
  refine ⟨vp_of (a := (v3.toInt + 1)) e1 (by omega) (by omega), ?_⟩
  have z2 := i32 (xs (Int32.toNatClampNeg (v3 + 1)))
  have e3 : ((v3 + 2) : Int32).toInt = (v3.toInt) + (2) := ti_add rfl rfl (by omega)
  refine ⟨vp_of (a := (v3.toInt + 2)) e3 (by omega) (by omega), ?_⟩
  have z4 := i32 (xs (Int32.toNatClampNeg (v3 + 2)))
  have e5 : ((v3 + 3) : Int32).toInt = (v3.toInt) + (3) := ti_add rfl rfl (by omega)
  refine ⟨vp_of (a := (v3.toInt + 3)) e5 (by omega) (by omega), ?_⟩
  have z6 := i32 (xs (Int32.toNatClampNeg (v3 + 3)))
  have e7 : ((v3 + 4) : Int32).toInt = (v3.toInt) + (4) := ti_add rfl rfl (by omega)
  refine ⟨vp_of (a := (v3.toInt + 4)) e7 (by omega) (by omega), ?_⟩
  have z8 := i32 (xs (Int32.toNatClampNeg (v3 + 4)))
  refine ⟨⟨hF0, rfl⟩, ?_⟩
  refine kp7 rfl hR0 rfl (kpA rfl (kpnm rfl hR0 rfl (kp102 rfl hR0 rfl (kp4 rfl (kp5 rfl hR0 rfl (kp0 rfl (kp1 rfl (kp2 rfl (kp3 rfl (sp_X11_luck hB0 hR0 (fun x9 y14 I10 J11 hB12 p13 kq18 kq17 kq16 kq15 k20 k19 w24 w23 w22 w21 => ?_)))))))))))
  intro o25
  have i26 := i32 x9
  have b27 := Bd.o hB0 io9_112_3_6 bd9_6_1
  have e28 : ((I10 3 1) : Int32).toInt = (I 3 1).toInt := Eq.trans (congrArg Int32.toInt kq15) rfl
  have kz29 : ((I10 3 1) : Int32).toInt = (I 3 1).toInt := e28
  have b30 := Bd.o hB0 io9_112_97_12 bd9_12_8
  have e31 : ((I10 97 8) : Int32).toInt = (I 97 8).toInt := Eq.trans (congrArg Int32.toInt kq16) rfl
  have kz32 : ((I10 97 8) : Int32).toInt = (I 97 8).toInt := e31
  have b33 := Bd.o hB0 io9_112_1_11 bd9_11_13
  have e34 : ((I10 1 13) : Int32).toInt = (I 1 13).toInt := Eq.trans (congrArg Int32.toInt kq17) rfl
  have kz35 : ((I10 1 13) : Int32).toInt = (I 1 13).toInt := e34
  have b36 := Bd.o hB0 io9_112_97_12 bd9_12_23
  have e37 : ((I10 97 23) : Int32).toInt = (I 97 23).toInt := Eq.trans (congrArg Int32.toInt kq18) rfl
  have kz38 : ((I10 97 23) : Int32).toInt = (I 97 23).toInt := e37
  refine ⟨vp_of (a := (v3.toInt + 1)) e1 (by omega) (by omega), ?_⟩
  have z39 := i32 (xs (Int32.toNatClampNeg (v3 + 1)))
  refine ⟨vp_of (a := (v3.toInt + 2)) e3 (by omega) (by omega), ?_⟩
  have z40 := i32 (xs (Int32.toNatClampNeg (v3 + 2)))
  refine ⟨vp_of (a := (v3.toInt + 3)) e5 (by omega) (by omega), ?_⟩
  have z41 := i32 (xs (Int32.toNatClampNeg (v3 + 3)))
  refine ⟨vp_of (a := (v3.toInt + 4)) e7 (by omega) (by omega), ?_⟩
  have z42 := i32 (xs (Int32.toNatClampNeg (v3 + 4)))
  refine ⟨⟨hF0, rfl⟩, ?_⟩
  refine kp7 rfl hR0 rfl (kpA rfl (kpnm rfl hR0 rfl (kp102 rfl hR0 rfl (kp6 rfl hR0 rfl (kp4 rfl (kp5 rfl hR0 rfl (kp0 rfl (kp1 rfl (kp2 rfl (kp3 rfl (sp_X12_luck hB12 hR0 (fun x43 y48 I44 J45 hB46 p47 kq52 kq51 kq50 kq49 k54 k53 k55 w59 w58 w57 w56 => ?_))))))))))))
  intro o60
  have i61 := i32 x43
  have e62 : ((I44 3 1) : Int32).toInt = (I 3 1).toInt := Eq.trans (congrArg Int32.toInt (Eq.trans kq49 kq15)) rfl
  have kz63 : ((I44 3 1) : Int32).toInt = (I 3 1).toInt := e62
  have e64 : ((I44 97 8) : Int32).toInt = (I 97 8).toInt := Eq.trans (congrArg Int32.toInt (Eq.trans kq50 kq16)) rfl
  have kz65 : ((I44 97 8) : Int32).toInt = (I 97 8).toInt := e64
  have e66 : ((I44 1 13) : Int32).toInt = (I 1 13).toInt := Eq.trans (congrArg Int32.toInt (Eq.trans kq51 kq17)) rfl
  have kz67 : ((I44 1 13) : Int32).toInt = (I 1 13).toInt := e66
  have e68 : ((I44 97 23) : Int32).toInt = (I 97 23).toInt := Eq.trans (congrArg Int32.toInt (Eq.trans kq52 kq18)) rfl
  have kz69 : ((I44 97 23) : Int32).toInt = (I 97 23).toInt := e68
  exact hN _ _ R hB46 hR0 hF0 ⟨(Eq.trans (e62) (Eq.trans hL0 (Eq.symm (e64)))), (Eq.trans (e66) (Eq.trans hL1 (Eq.symm (e68)))), (RT.kp (RT.kp hL2 k19 k20) k53 k54), trivial⟩ (R3.kp (R3.kp hR3 w21 (by have ya : ((I10 3 1) : Int32).toInt = (I 3 1).toInt := e28; have yb : ((I 3 1) : Int32).toInt = (I 3 1).toInt := rfl; first | exact Int.le_of_eq (ya.trans yb) | exact ya.trans yb | omega)) w56 (by have ya : ((I44 3 1) : Int32).toInt = (I 3 1).toInt := e62; have yb : ((I10 3 1) : Int32).toInt = (I 3 1).toInt := e28; first | exact Int.le_of_eq (ya.trans yb) | exact ya.trans yb | omega)) (RM.kp hR0 (RM.kp hR0 hRM ⟨w22, w23, (fun j _ => congrFun w24.1 j)⟩) ⟨w57, w58, (fun j _ => congrFun w59.1 j)⟩) trivial
set_option maxRecDepth 100000 in
set_option maxHeartbeats 2000000 in
theorem lc_43 {Q : Nat → Qt} {P : Kt} {L : Nat} {xs : Nat → Int32} (hc : Cl (AM 640) false true L xs 2 112 kL_law Q P) (hL : L ≤ 3584) {v3 : Int32} {I : Im} {J : Jm} {R : Rm} (hB0 : Bd I) (hR0 : RI R) (hF0 : Fl R) (hL0 : (I 3 1).toInt = (I 97 8).toInt) (hL1 : (I 1 13).toInt = (I 97 23).toInt) (hL2 : RT I) (hL3 : True) (hR3 : R3 I J) (hRM : RM I J R) (hFQ : True) (h0 : 0 ≤ v3.toInt) (h7 : v3.toInt + 7 ≤ (L : Int)) (hN : ∀ (I : Im) (J : Jm) (R : Rm), Bd I → RI R → Fl R → RLz I → R3 I J → RM I J R → True → P 1889 112 [(0, .ref 0), (1, .ref 1), (2, .ref 97), (3, .int v3)] [] I J R) : P 1751 112 [(0, .ref 0), (1, .ref 1), (2, .ref 97), (3, .int v3)] [] I J R := by
  have i_v3 := i32 v3
  have e97 : I 97 8 = nI (fl I) := (Int32.toInt_inj.mp hL0).symm.trans (fl_bd hB0).1
  have b31 := Bd.o hB0 io9_112_3_6 bd9_6_1
  refine ls_1751 hc v3 _ _ _ ?_
  have e1 : ((v3 + 1) : Int32).toInt = (v3.toInt) + (1) := ti_add rfl rfl (by omega)
  refine ⟨vp_of (a := (v3.toInt + 1)) e1 (by omega) (by omega), ?_⟩
  have z2 := i32 (xs (Int32.toNatClampNeg (v3 + 1)))
  have e3 : ((v3 + 2) : Int32).toInt = (v3.toInt) + (2) := ti_add rfl rfl (by omega)
  refine ⟨vp_of (a := (v3.toInt + 2)) e3 (by omega) (by omega), ?_⟩
  have z4 := i32 (xs (Int32.toNatClampNeg (v3 + 2)))
  refine ⟨⟨hF0, rfl⟩, ?_⟩
  refine kp7 rfl hR0 rfl (kpA rfl (kpnm rfl hR0 rfl (kp102 rfl hR0 rfl (kp6 rfl hR0 rfl (kp4 rfl (kp5 rfl hR0 rfl (kp0 rfl (kp1 rfl (kp2 rfl (kp3 rfl (sp_X11_burnt hB0 hR0 (fun x5 y10 I6 J7 hB8 p9 kq14 kq13 kq12 kq11 k16 k15 k17 w21 w20 w19 w18 => ?_))))))))))))
  intro o22
  have i23 := i32 x5
  have b24 := Bd.o hB0 io9_112_3_6 bd9_6_1
  have e25 : ((I6 3 1) : Int32).toInt = (I 3 1).toInt := Eq.trans (congrArg Int32.toInt kq11) rfl
  have kz26 : ((I6 3 1) : Int32).toInt = (I 3 1).toInt := e25
  have b27 := Bd.o hB0 io9_112_97_12 bd9_12_8
  have e28 : ((I6 97 8) : Int32).toInt = (I 97 8).toInt := Eq.trans (congrArg Int32.toInt kq12) rfl
  have kz29 : ((I6 97 8) : Int32).toInt = (I 97 8).toInt := e28
  have b30 := Bd.o hB0 io9_112_1_11 bd9_11_13
  have e31 : ((I6 1 13) : Int32).toInt = (I 1 13).toInt := Eq.trans (congrArg Int32.toInt kq13) rfl
  have kz32 : ((I6 1 13) : Int32).toInt = (I 1 13).toInt := e31
  have b33 := Bd.o hB0 io9_112_97_12 bd9_12_23
  have e34 : ((I6 97 23) : Int32).toInt = (I 97 23).toInt := Eq.trans (congrArg Int32.toInt kq14) rfl
  have kz35 : ((I6 97 23) : Int32).toInt = (I 97 23).toInt := e34
  refine ⟨vp_of (a := (v3.toInt + 1)) e1 (by omega) (by omega), ?_⟩
  have z36 := i32 (xs (Int32.toNatClampNeg (v3 + 1)))
  refine ⟨vp_of (a := (v3.toInt + 2)) e3 (by omega) (by omega), ?_⟩
  have z37 := i32 (xs (Int32.toNatClampNeg (v3 + 2)))
  refine ⟨⟨hF0, rfl⟩, ?_⟩
  refine kp7 rfl hR0 rfl (kpA rfl (kpnm rfl hR0 rfl (kti rfl (kp6 rfl hR0 rfl (kp4 rfl (kp5 rfl hR0 rfl (kp0 rfl (kp1 rfl (kp2 rfl (kp3 rfl (sp_X12_burnt hB8 hR0 (fun x38 y43 I39 J40 hB41 p42 kq47 kq46 kq45 kq44 k49 k48 k50 w54 w53 w52 w51 => ?_))))))))))))
  intro o55
  have i56 := i32 x38
  have e57 : ((I39 3 1) : Int32).toInt = (I 3 1).toInt := Eq.trans (congrArg Int32.toInt (Eq.trans kq44 kq11)) rfl
  have kz58 : ((I39 3 1) : Int32).toInt = (I 3 1).toInt := e57
  have e59 : ((I39 97 8) : Int32).toInt = (I 97 8).toInt := Eq.trans (congrArg Int32.toInt (Eq.trans kq45 kq12)) rfl
  have kz60 : ((I39 97 8) : Int32).toInt = (I 97 8).toInt := e59
  have e61 : ((I39 1 13) : Int32).toInt = (I 1 13).toInt := Eq.trans (congrArg Int32.toInt (Eq.trans kq46 kq13)) rfl
  have kz62 : ((I39 1 13) : Int32).toInt = (I 1 13).toInt := e61
  have e63 : ((I39 97 23) : Int32).toInt = (I 97 23).toInt := Eq.trans (congrArg Int32.toInt (Eq.trans kq47 kq14)) rfl
  have kz64 : ((I39 97 23) : Int32).toInt = (I 97 23).toInt := e63
  exact hN _ _ R hB41 hR0 hF0 ⟨(Eq.trans (e57) (Eq.trans hL0 (Eq.symm (e59)))), (Eq.trans (e61) (Eq.trans hL1 (Eq.symm (e63)))), (RT.kp (RT.kp hL2 k15 k16) k48 k49), trivial⟩ (R3.kp (R3.kp hR3 w18 (by have ya : ((I6 3 1) : Int32).toInt = (I 3 1).toInt := e25; have yb : ((I 3 1) : Int32).toInt = (I 3 1).toInt := rfl; first | exact Int.le_of_eq (ya.trans yb) | exact ya.trans yb | omega)) w51 (by have ya : ((I39 3 1) : Int32).toInt = (I 3 1).toInt := e57; have yb : ((I6 3 1) : Int32).toInt = (I 3 1).toInt := e25; first | exact Int.le_of_eq (ya.trans yb) | exact ya.trans yb | omega)) (RM.kp hR0 (RM.kp hR0 hRM ⟨w19, w20, (fun j _ => congrFun w21.1 j)⟩) ⟨w52, w53, (fun j _ => congrFun w54 j)⟩) trivial
set_option maxRecDepth 100000 in
set_option maxHeartbeats 2000000 in
theorem lc_44 {Q : Nat → Qt} {P : Kt} {L : Nat} {xs : Nat → Int32} (hc : Cl (AM 640) false true L xs 2 112 kL_law Q P) (hL : L ≤ 3584) {v3 : Int32} {I : Im} {J : Jm} {R : Rm} (hB0 : Bd I) (hR0 : RI R) (hF0 : Fl R) (hL0 : (I 3 1).toInt = (I 97 8).toInt) (hL1 : (I 1 13).toInt = (I 97 23).toInt) (hL2 : RT I) (hL3 : True) (hR3 : R3 I J) (hRM : RM I J R) (hFQ : True) (h0 : 0 ≤ v3.toInt) (h7 : v3.toInt + 7 ≤ (L : Int)) (hN : ∀ (I : Im) (J : Jm) (R : Rm), Bd I → RI R → Fl R → RLz I → R3 I J → RM I J R → True → P 1889 112 [(0, .ref 0), (1, .ref 1), (2, .ref 97), (3, .int v3)] [] I J R) : P 1784 112 [(0, .ref 0), (1, .ref 1), (2, .ref 97), (3, .int v3)] [] I J R := by
  have i_v3 := i32 v3
  have e97 : I 97 8 = nI (fl I) := (Int32.toInt_inj.mp hL0).symm.trans (fl_bd hB0).1
  have b31 := Bd.o hB0 io9_112_3_6 bd9_6_1
  refine ls_1784 hc v3 _ _ _ ?_
  have e1 : ((v3 + 1) : Int32).toInt = (v3.toInt) + (1) := ti_add rfl rfl (by omega)
  refine ⟨vp_of (a := (v3.toInt + 1)) e1 (by omega) (by omega), ?_⟩
  have z2 := i32 (xs (Int32.toNatClampNeg (v3 + 1)))
  refine ⟨⟨hF0, rfl⟩, ?_⟩
  refine kp7 rfl hR0 rfl (kpA rfl (kpnm rfl hR0 rfl (kp102 rfl hR0 rfl (kp6 rfl hR0 rfl (kp4 rfl (kp5 rfl hR0 rfl (kp0 rfl (kp1 rfl (kp2 rfl (kp3 rfl (sp_X11_live hB0 hR0 (fun x3 y8 I4 J5 hB6 p7 kq12 kq11 kq10 kq9 k14 k13 k15 w19 w18 w17 w16 => ?_))))))))))))
  have i20 := i32 x3
  have b21 := Bd.o hB0 io9_112_3_6 bd9_6_1
  have e22 : ((I4 3 1) : Int32).toInt = (I 3 1).toInt := Eq.trans (congrArg Int32.toInt kq9) rfl
  have kz23 : ((I4 3 1) : Int32).toInt = (I 3 1).toInt := e22
  have b24 := Bd.o hB0 io9_112_97_12 bd9_12_8
  have e25 : ((I4 97 8) : Int32).toInt = (I 97 8).toInt := Eq.trans (congrArg Int32.toInt kq10) rfl
  have kz26 : ((I4 97 8) : Int32).toInt = (I 97 8).toInt := e25
  have b27 := Bd.o hB0 io9_112_1_11 bd9_11_13
  have e28 : ((I4 1 13) : Int32).toInt = (I 1 13).toInt := Eq.trans (congrArg Int32.toInt kq11) rfl
  have kz29 : ((I4 1 13) : Int32).toInt = (I 1 13).toInt := e28
  have b30 := Bd.o hB0 io9_112_97_12 bd9_12_23
  have e31 : ((I4 97 23) : Int32).toInt = (I 97 23).toInt := Eq.trans (congrArg Int32.toInt kq12) rfl
  have kz32 : ((I4 97 23) : Int32).toInt = (I 97 23).toInt := e31
  refine ⟨vp_of (a := (v3.toInt + 1)) e1 (by omega) (by omega), ?_⟩
  have z33 := i32 (xs (Int32.toNatClampNeg (v3 + 1)))
  refine ⟨⟨hF0, rfl⟩, ?_⟩
  refine kp7 rfl hR0 rfl (kpA rfl (kpnm rfl hR0 rfl (kp6 rfl hR0 rfl (kp4 rfl (kp5 rfl hR0 rfl (kp0 rfl (kp1 rfl (kp2 rfl (kp3 rfl (sp_X12_live hB6 hR0 (fun x34 y39 I35 J36 hB37 p38 kq43 kq42 kq41 kq40 k45 k44 k46 w49 w48 w47 => ?_)))))))))))
  have f50 : Fr pK I4 I35 := p38
  have i51 := i32 x34
  have e52 : ((I35 3 1) : Int32).toInt = (I 3 1).toInt := Eq.trans (congrArg Int32.toInt (Eq.trans kq40 kq9)) rfl
  have kz53 : ((I35 3 1) : Int32).toInt = (I 3 1).toInt := e52
  have e54 : ((I35 97 8) : Int32).toInt = (I 97 8).toInt := Eq.trans (congrArg Int32.toInt (Eq.trans kq41 kq10)) rfl
  have kz55 : ((I35 97 8) : Int32).toInt = (I 97 8).toInt := e54
  have e56 : ((I35 1 13) : Int32).toInt = (I 1 13).toInt := Eq.trans (congrArg Int32.toInt (Eq.trans kq42 kq11)) rfl
  have kz57 : ((I35 1 13) : Int32).toInt = (I 1 13).toInt := e56
  have e58 : ((I35 97 23) : Int32).toInt = (I 97 23).toInt := Eq.trans (congrArg Int32.toInt (Eq.trans kq43 kq12)) rfl
  have kz59 : ((I35 97 23) : Int32).toInt = (I 97 23).toInt := e58
  exact hN _ _ R hB37 hR0 hF0 ⟨(Eq.trans (e52) (Eq.trans hL0 (Eq.symm (e54)))), (Eq.trans (e56) (Eq.trans hL1 (Eq.symm (e58)))), (RT.kp (RT.kp hL2 k13 k14) k44 k45), trivial⟩ (R3.kp (R3.kp hR3 w16 (by have ya : ((I4 3 1) : Int32).toInt = (I 3 1).toInt := e22; have yb : ((I 3 1) : Int32).toInt = (I 3 1).toInt := rfl; first | exact Int.le_of_eq (ya.trans yb) | exact ya.trans yb | omega)) w47 (by have ya : ((I35 3 1) : Int32).toInt = (I 3 1).toInt := e52; have yb : ((I4 3 1) : Int32).toInt = (I 3 1).toInt := e22; first | exact Int.le_of_eq (ya.trans yb) | exact ya.trans yb | omega)) (RM.kp hR0 (RM.kp hR0 hRM ⟨w17, w18, (fun j _ => congrFun w19.1 j)⟩) ⟨w48, w49, (fun j hj => f50.1 j hj)⟩) trivial
set_option maxRecDepth 100000 in
set_option maxHeartbeats 2000000 in
theorem lc_45 {Q : Nat → Qt} {P : Kt} {L : Nat} {xs : Nat → Int32} (hc : Cl (AM 640) false true L xs 2 112 kL_law Q P) (hL : L ≤ 3584) {v3 : Int32} {I : Im} {J : Jm} {R : Rm} (hB0 : Bd I) (hR0 : RI R) (hF0 : Fl R) (hL0 : (I 3 1).toInt = (I 97 8).toInt) (hL1 : (I 1 13).toInt = (I 97 23).toInt) (hL2 : RT I) (hL3 : True) (hR3 : R3 I J) (hRM : RM I J R) (hFQ : True) (h0 : 0 ≤ v3.toInt) (h7 : v3.toInt + 7 ≤ (L : Int)) (hN : ∀ (I : Im) (J : Jm) (R : Rm), Bd I → RI R → Fl R → RLz I → R3 I J → RM I J R → True → P 1889 112 [(0, .ref 0), (1, .ref 1), (2, .ref 97), (3, .int v3)] [] I J R) : P 1807 112 [(0, .ref 0), (1, .ref 1), (2, .ref 97), (3, .int v3)] [] I J R := by
  have i_v3 := i32 v3
  have e97 : I 97 8 = nI (fl I) := (Int32.toInt_inj.mp hL0).symm.trans (fl_bd hB0).1
  have b31 := Bd.o hB0 io9_112_3_6 bd9_6_1
  refine ls_1807 hc v3 _ _ _ ?_
  have e1 : ((v3 + 1) : Int32).toInt = (v3.toInt) + (1) := ti_add rfl rfl (by omega)
  refine ⟨vp_of (a := (v3.toInt + 1)) e1 (by omega) (by omega), ?_⟩
  have z2 := i32 (xs (Int32.toNatClampNeg (v3 + 1)))
  refine ⟨⟨hF0, rfl⟩, ?_⟩
  refine kp7 rfl hR0 rfl (kpA rfl (kpnm rfl hR0 rfl (kp102 rfl hR0 rfl (kp6 rfl hR0 rfl (kp4 rfl (kp5 rfl hR0 rfl (kp0 rfl (kp1 rfl (kp2 rfl (kp3 rfl (sp_X11_lived hB0 hR0 (fun x3 y8 I4 J5 hB6 p7 kq12 kq11 kq10 kq9 k14 k13 k15 w19 w18 w17 w16 => ?_))))))))))))
  have i20 := i32 x3
  have b21 := Bd.o hB0 io9_112_3_6 bd9_6_1
  have e22 : ((I4 3 1) : Int32).toInt = (I 3 1).toInt := Eq.trans (congrArg Int32.toInt kq9) rfl
  have kz23 : ((I4 3 1) : Int32).toInt = (I 3 1).toInt := e22
  have b24 := Bd.o hB0 io9_112_97_12 bd9_12_8
  have e25 : ((I4 97 8) : Int32).toInt = (I 97 8).toInt := Eq.trans (congrArg Int32.toInt kq10) rfl
  have kz26 : ((I4 97 8) : Int32).toInt = (I 97 8).toInt := e25
  have b27 := Bd.o hB0 io9_112_1_11 bd9_11_13
  have e28 : ((I4 1 13) : Int32).toInt = (I 1 13).toInt := Eq.trans (congrArg Int32.toInt kq11) rfl
  have kz29 : ((I4 1 13) : Int32).toInt = (I 1 13).toInt := e28
  have b30 := Bd.o hB0 io9_112_97_12 bd9_12_23
  have e31 : ((I4 97 23) : Int32).toInt = (I 97 23).toInt := Eq.trans (congrArg Int32.toInt kq12) rfl
  have kz32 : ((I4 97 23) : Int32).toInt = (I 97 23).toInt := e31
  refine ⟨vp_of (a := (v3.toInt + 1)) e1 (by omega) (by omega), ?_⟩
  have z33 := i32 (xs (Int32.toNatClampNeg (v3 + 1)))
  refine ⟨⟨hF0, rfl⟩, ?_⟩
  refine kp7 rfl hR0 rfl (kpA rfl (kpnm rfl hR0 rfl (kp102 rfl hR0 rfl (kp6 rfl hR0 rfl (kp4 rfl (kp5 rfl hR0 rfl (kp0 rfl (kp1 rfl (kp2 rfl (kp3 rfl (sp_X12_lived hB6 hR0 (fun x34 y39 I35 J36 hB37 p38 kq43 kq42 kq41 kq40 k45 k44 k46 w50 w49 w48 w47 => ?_))))))))))))
  have i51 := i32 x34
  have e52 : ((I35 3 1) : Int32).toInt = (I 3 1).toInt := Eq.trans (congrArg Int32.toInt (Eq.trans kq40 kq9)) rfl
  have kz53 : ((I35 3 1) : Int32).toInt = (I 3 1).toInt := e52
  have e54 : ((I35 97 8) : Int32).toInt = (I 97 8).toInt := Eq.trans (congrArg Int32.toInt (Eq.trans kq41 kq10)) rfl
  have kz55 : ((I35 97 8) : Int32).toInt = (I 97 8).toInt := e54
  have e56 : ((I35 1 13) : Int32).toInt = (I 1 13).toInt := Eq.trans (congrArg Int32.toInt (Eq.trans kq42 kq11)) rfl
  have kz57 : ((I35 1 13) : Int32).toInt = (I 1 13).toInt := e56
  have e58 : ((I35 97 23) : Int32).toInt = (I 97 23).toInt := Eq.trans (congrArg Int32.toInt (Eq.trans kq43 kq12)) rfl
  have kz59 : ((I35 97 23) : Int32).toInt = (I 97 23).toInt := e58
  exact hN _ _ R hB37 hR0 hF0 ⟨(Eq.trans (e52) (Eq.trans hL0 (Eq.symm (e54)))), (Eq.trans (e56) (Eq.trans hL1 (Eq.symm (e58)))), (RT.kp (RT.kp hL2 k13 k14) k44 k45), trivial⟩ (R3.kp (R3.kp hR3 w16 (by have ya : ((I4 3 1) : Int32).toInt = (I 3 1).toInt := e22; have yb : ((I 3 1) : Int32).toInt = (I 3 1).toInt := rfl; first | exact Int.le_of_eq (ya.trans yb) | exact ya.trans yb | omega)) w47 (by have ya : ((I35 3 1) : Int32).toInt = (I 3 1).toInt := e52; have yb : ((I4 3 1) : Int32).toInt = (I 3 1).toInt := e22; first | exact Int.le_of_eq (ya.trans yb) | exact ya.trans yb | omega)) (RM.kp hR0 (RM.kp hR0 hRM ⟨w17, w18, (fun j _ => congrFun w19.1 j)⟩) ⟨w48, w49, (fun j _ => congrFun w50.1 j)⟩) trivial
set_option maxRecDepth 100000 in
set_option maxHeartbeats 2000000 in
theorem lc_46 {Q : Nat → Qt} {P : Kt} {L : Nat} {xs : Nat → Int32} (hc : Cl (AM 640) false true L xs 2 112 kL_law Q P) (hL : L ≤ 3584) {v3 : Int32} {I : Im} {J : Jm} {R : Rm} (hB0 : Bd I) (hR0 : RI R) (hF0 : Fl R) (hL0 : (I 3 1).toInt = (I 97 8).toInt) (hL1 : (I 1 13).toInt = (I 97 23).toInt) (hL2 : RT I) (hL3 : True) (hR3 : R3 I J) (hRM : RM I J R) (hFQ : True) (h0 : 0 ≤ v3.toInt) (h7 : v3.toInt + 7 ≤ (L : Int)) (hN : ∀ (I : Im) (J : Jm) (R : Rm), Bd I → RI R → Fl R → RLz I → R3 I J → RM I J R → True → P 1889 112 [(0, .ref 0), (1, .ref 1), (2, .ref 97), (3, .int v3)] [] I J R) : P 1830 112 [(0, .ref 0), (1, .ref 1), (2, .ref 97), (3, .int v3)] [] I J R := by
  have i_v3 := i32 v3
  have e97 : I 97 8 = nI (fl I) := (Int32.toInt_inj.mp hL0).symm.trans (fl_bd hB0).1
  have b31 := Bd.o hB0 io9_112_3_6 bd9_6_1
  refine ls_1830 hc v3 _ _ _ ?_
  have e1 : ((v3 + 1) : Int32).toInt = (v3.toInt) + (1) := ti_add rfl rfl (by omega)
  refine ⟨vp_of (a := (v3.toInt + 1)) e1 (by omega) (by omega), ?_⟩
  have z2 := i32 (xs (Int32.toNatClampNeg (v3 + 1)))
  have e3 : ((v3 + 2) : Int32).toInt = (v3.toInt) + (2) := ti_add rfl rfl (by omega)
  refine ⟨vp_of (a := (v3.toInt + 2)) e3 (by omega) (by omega), ?_⟩
  have z4 := i32 (xs (Int32.toNatClampNeg (v3 + 2)))
  refine ⟨⟨hF0, rfl⟩, ?_⟩
  refine kp7 rfl hR0 rfl (kx (cx_mean hB0 hR0) (kp6 rfl hR0 rfl (kp4 rfl (kp5 rfl hR0 rfl (kp0 rfl (kp1 rfl (kp2 rfl (kp3 rfl (sp_X11_mean hB0 hR0 (fun x5 y10 I6 J7 hB8 p9 kq14 kq13 kq12 kq11 k16 k15 k17 w19 w18 => ?_))))))))))
  intro o20
  have i21 := i32 x5
  have b22 := Bd.o hB0 io9_112_3_6 bd9_6_1
  have e23 : ((I6 3 1) : Int32).toInt = (I 3 1).toInt := Eq.trans (congrArg Int32.toInt kq11) rfl
  have kz24 : ((I6 3 1) : Int32).toInt = (I 3 1).toInt := e23
  have b25 := Bd.o hB0 io9_112_97_12 bd9_12_8
  have e26 : ((I6 97 8) : Int32).toInt = (I 97 8).toInt := Eq.trans (congrArg Int32.toInt kq12) rfl
  have kz27 : ((I6 97 8) : Int32).toInt = (I 97 8).toInt := e26
  have b28 := Bd.o hB0 io9_112_1_11 bd9_11_13
  have e29 : ((I6 1 13) : Int32).toInt = (I 1 13).toInt := Eq.trans (congrArg Int32.toInt kq13) rfl
  have kz30 : ((I6 1 13) : Int32).toInt = (I 1 13).toInt := e29
  have b31 := Bd.o hB0 io9_112_97_12 bd9_12_23
  have e32 : ((I6 97 23) : Int32).toInt = (I 97 23).toInt := Eq.trans (congrArg Int32.toInt kq14) rfl
  have kz33 : ((I6 97 23) : Int32).toInt = (I 97 23).toInt := e32
  refine ⟨vp_of (a := (v3.toInt + 1)) e1 (by omega) (by omega), ?_⟩
  have z34 := i32 (xs (Int32.toNatClampNeg (v3 + 1)))
  refine ⟨vp_of (a := (v3.toInt + 2)) e3 (by omega) (by omega), ?_⟩
  have z35 := i32 (xs (Int32.toNatClampNeg (v3 + 2)))
  refine ⟨⟨hF0, rfl⟩, ?_⟩
  refine kp7 rfl hR0 rfl (kpA rfl (kpnm rfl hR0 rfl (kp6 rfl hR0 rfl (kp4 rfl (kp5 rfl hR0 rfl (kp0 rfl (kp1 rfl (kp2 rfl (kp3 rfl (sp_X12_mean hB8 hR0 (fun x36 y41 I37 J38 hB39 p40 kq45 kq44 kq43 kq42 k47 k46 k48 w51 w50 w49 => ?_)))))))))))
  intro o52
  have i53 := i32 x36
  have e54 : ((I37 3 1) : Int32).toInt = (I 3 1).toInt := Eq.trans (congrArg Int32.toInt (Eq.trans kq42 kq11)) rfl
  have kz55 : ((I37 3 1) : Int32).toInt = (I 3 1).toInt := e54
  have e56 : ((I37 97 8) : Int32).toInt = (I 97 8).toInt := Eq.trans (congrArg Int32.toInt (Eq.trans kq43 kq12)) rfl
  have kz57 : ((I37 97 8) : Int32).toInt = (I 97 8).toInt := e56
  have e58 : ((I37 1 13) : Int32).toInt = (I 1 13).toInt := Eq.trans (congrArg Int32.toInt (Eq.trans kq44 kq13)) rfl
  have kz59 : ((I37 1 13) : Int32).toInt = (I 1 13).toInt := e58
  have e60 : ((I37 97 23) : Int32).toInt = (I 97 23).toInt := Eq.trans (congrArg Int32.toInt (Eq.trans kq45 kq14)) rfl
  have kz61 : ((I37 97 23) : Int32).toInt = (I 97 23).toInt := e60
  exact hN _ _ R hB39 hR0 hF0 ⟨(Eq.trans (e54) (Eq.trans hL0 (Eq.symm (e56)))), (Eq.trans (e58) (Eq.trans hL1 (Eq.symm (e60)))), (RT.kp (RT.kp hL2 k15 k16) k46 k47), trivial⟩ (R3.kp (R3.kp hR3 w18 (by have ya : ((I6 3 1) : Int32).toInt = (I 3 1).toInt := e23; have yb : ((I 3 1) : Int32).toInt = (I 3 1).toInt := rfl; first | exact Int.le_of_eq (ya.trans yb) | exact ya.trans yb | omega)) w49 (by have ya : ((I37 3 1) : Int32).toInt = (I 3 1).toInt := e54; have yb : ((I6 3 1) : Int32).toInt = (I 3 1).toInt := e23; first | exact Int.le_of_eq (ya.trans yb) | exact ya.trans yb | omega)) (RM.mean hR0 hRM w19 ⟨w50, w51, (FK.kc p40)⟩) trivial
set_option maxRecDepth 100000 in
set_option maxHeartbeats 2000000 in
theorem lc_47 {Q : Nat → Qt} {P : Kt} {L : Nat} {xs : Nat → Int32} (hc : Cl (AM 640) false true L xs 2 112 kL_law Q P) (hL : L ≤ 3584) {v3 : Int32} {I : Im} {J : Jm} {R : Rm} (hB0 : Bd I) (hR0 : RI R) (hF0 : Fl R) (hL0 : (I 3 1).toInt = (I 97 8).toInt) (hL1 : (I 1 13).toInt = (I 97 23).toInt) (hL2 : RT I) (hL3 : True) (hR3 : R3 I J) (hRM : RM I J R) (hFQ : True) (h0 : 0 ≤ v3.toInt) (h7 : v3.toInt + 7 ≤ (L : Int)) (hN : ∀ (I : Im) (J : Jm) (R : Rm), Bd I → RI R → Fl R → RLz I → R3 I J → RM I J R → True → P 1889 112 [(0, .ref 0), (1, .ref 1), (2, .ref 97), (3, .int v3)] [] I J R) : P 1863 112 [(0, .ref 0), (1, .ref 1), (2, .ref 97), (3, .int v3)] [] I J R := by
  have i_v3 := i32 v3
  have e97 : I 97 8 = nI (fl I) := (Int32.toInt_inj.mp hL0).symm.trans (fl_bd hB0).1
  have b31 := Bd.o hB0 io9_112_3_6 bd9_6_1
  refine ls_1863 hc v3 _ _ _ ?_
  refine ⟨⟨hF0, rfl⟩, ?_⟩
  refine kp7 rfl hR0 rfl (kx (cx_mark hB0 hR0) (kp6 rfl hR0 rfl (kp4 rfl (kp5 rfl hR0 rfl (kp0 rfl (kp1 rfl (kp3 rfl (sp_X11_mark hB0 hR0 (fun x1 y6 I2 J3 hB4 p5 kq9 kq8 kq7 k11 k10 k12 w14 w13 => ?_)))))))))
  have b15 := Bd.o hB0 io9_112_1_11 bd9_11_13
  have b16 := Bd.o hB4 io9_112_1_11 bd9_11_13
  have i17 := i32 x1
  have b18 := Bd.o hB0 io9_112_3_6 bd9_6_1
  have e19 : ((I2 3 1) : Int32).toInt = (I 3 1).toInt := Eq.trans (congrArg Int32.toInt kq7) rfl
  have kz20 : ((I2 3 1) : Int32).toInt = (I 3 1).toInt := e19
  have b21 := Bd.o hB0 io9_112_97_12 bd9_12_8
  have e22 : ((I2 97 8) : Int32).toInt = (I 97 8).toInt := Eq.trans (congrArg Int32.toInt kq8) rfl
  have kz23 : ((I2 97 8) : Int32).toInt = (I 97 8).toInt := e22
  have b24 := Bd.o hB0 io9_112_97_12 bd9_12_23
  have e25 : ((I2 97 23) : Int32).toInt = (I 97 23).toInt := Eq.trans (congrArg Int32.toInt kq9) rfl
  have kz26 : ((I2 97 23) : Int32).toInt = (I 97 23).toInt := e25
  refine ⟨⟨hF0, rfl⟩, ?_⟩
  refine kp7 rfl hR0 rfl (kx (mx_mark hB4) (kp6 rfl hR0 rfl (kp4 rfl (kp5 rfl hR0 rfl (kp0 rfl (kp1 rfl (kp2 rfl (sp_X12_mark hB4 hR0 (fun x27 y32 I28 J29 hB30 p31 kq35 kq34 kq33 k37 k36 k38 w40 w39 => ?_)))))))))
  have b41 := Bd.o hB30 io9_112_97_12 bd9_12_23
  have i42 := i32 x27
  have e43 : ((I28 3 1) : Int32).toInt = (I 3 1).toInt := Eq.trans (congrArg Int32.toInt (Eq.trans kq33 kq7)) rfl
  have kz44 : ((I28 3 1) : Int32).toInt = (I 3 1).toInt := e43
  have e45 : ((I28 97 8) : Int32).toInt = (I 97 8).toInt := Eq.trans (congrArg Int32.toInt (Eq.trans kq34 kq8)) rfl
  have kz46 : ((I28 97 8) : Int32).toInt = (I 97 8).toInt := e45
  have e47 : ((I28 1 13) : Int32).toInt = (I2 1 13).toInt := Eq.trans (congrArg Int32.toInt kq35) rfl
  have kz48 : ((I28 1 13) : Int32).toInt = (I2 1 13).toInt := e47
  have hr49 := RM.mark hB0 hR0 hL1 hRM w14 w40
  exact hN _ _ R hB30 hR0 hF0 ⟨(Eq.trans (e43) (Eq.trans hL0 (Eq.symm (e45)))), (by have ya : ((I28 1 13) : Int32).toInt = (I2 1 13).toInt := e47; have yb : ((I28 97 23) : Int32).toInt = (I28 97 23).toInt := rfl; first | exact Int.le_of_eq (ya.trans yb) | exact ya.trans yb | omega), (RT.kp (RT.kp hL2 k10 k11) k36 k37), trivial⟩ (R3.kp (R3.kp hR3 w13 (by have ya : ((I2 3 1) : Int32).toInt = (I 3 1).toInt := e19; have yb : ((I 3 1) : Int32).toInt = (I 3 1).toInt := rfl; first | exact Int.le_of_eq (ya.trans yb) | exact ya.trans yb | omega)) w39 (by have ya : ((I28 3 1) : Int32).toInt = (I 3 1).toInt := e43; have yb : ((I2 3 1) : Int32).toInt = (I 3 1).toInt := e19; first | exact Int.le_of_eq (ya.trans yb) | exact ya.trans yb | omega)) hr49 trivial
set_option maxRecDepth 100000 in
set_option maxHeartbeats 2000000 in
theorem lc_48 {Q : Nat → Qt} {P : Kt} {L : Nat} {xs : Nat → Int32} (hc : Cl (AM 640) false true L xs 2 112 kL_law Q P) (hL : L ≤ 3584) {v3 : Int32} {I : Im} {J : Jm} {R : Rm} (hB0 : Bd I) (hR0 : RI R) (hF0 : Fl R) (hL0 : (I 3 1).toInt = (I 97 8).toInt) (hL1 : (I 1 13).toInt = (I 97 23).toInt) (hL2 : RT I) (hL3 : True) (hR3 : R3 I J) (hRM : RM I J R) (hFQ : True) (h0 : 0 ≤ v3.toInt) (h7 : v3.toInt + 7 ≤ (L : Int)) (hN : ∀ (I : Im) (J : Jm) (R : Rm), Bd I → RI R → Fl R → RLz I → R3 I J → RM I J R → True → P 1889 112 [(0, .ref 0), (1, .ref 1), (2, .ref 97), (3, .int v3)] [] I J R) : P 1876 112 [(0, .ref 0), (1, .ref 1), (2, .ref 97), (3, .int v3)] [] I J R := by
  have i_v3 := i32 v3
  have e97 : I 97 8 = nI (fl I) := (Int32.toInt_inj.mp hL0).symm.trans (fl_bd hB0).1
  have b31 := Bd.o hB0 io9_112_3_6 bd9_6_1
  refine ls_1876 hc v3 _ _ _ ?_
  refine ⟨⟨hF0, rfl⟩, ?_⟩
  refine kp7 rfl hR0 rfl (kx (cx_back hB0 hR0) (kp6 rfl hR0 rfl (kp4 rfl (kp5 rfl hR0 rfl (kp0 rfl (kp1 rfl (kp3 rfl (sp_X11_back hB0 hR0 (fun x1 y6 I2 J3 hB4 p5 kq9 kq8 kq7 k11 k10 k12 w14 w13 => ?_)))))))))
  have b15 := Bd.o hB0 io9_112_1_11 bd9_11_13
  have b16 := Bd.o hB4 io9_112_1_11 bd9_11_13
  have i17 := i32 x1
  have b18 := Bd.o hB0 io9_112_3_6 bd9_6_1
  have e19 : ((I2 3 1) : Int32).toInt = (I 3 1).toInt := Eq.trans (congrArg Int32.toInt kq7) rfl
  have kz20 : ((I2 3 1) : Int32).toInt = (I 3 1).toInt := e19
  have b21 := Bd.o hB0 io9_112_97_12 bd9_12_8
  have e22 : ((I2 97 8) : Int32).toInt = (I 97 8).toInt := Eq.trans (congrArg Int32.toInt kq8) rfl
  have kz23 : ((I2 97 8) : Int32).toInt = (I 97 8).toInt := e22
  have b24 := Bd.o hB0 io9_112_97_12 bd9_12_23
  have e25 : ((I2 97 23) : Int32).toInt = (I 97 23).toInt := Eq.trans (congrArg Int32.toInt kq9) rfl
  have kz26 : ((I2 97 23) : Int32).toInt = (I 97 23).toInt := e25
  refine ⟨⟨hF0, rfl⟩, ?_⟩
  refine kp7 rfl hR0 rfl (kx (mx_back hB4) (kp6 rfl hR0 rfl (kp4 rfl (kp5 rfl hR0 rfl (kp0 rfl (kp1 rfl (kp2 rfl (sp_X12_back hB4 hR0 (fun x27 y32 I28 J29 hB30 p31 kq35 kq34 kq33 k37 k36 k38 w40 w39 => ?_)))))))))
  have b41 := Bd.o hB30 io9_112_97_12 bd9_12_23
  have i42 := i32 x27
  have e43 : ((I28 3 1) : Int32).toInt = (I 3 1).toInt := Eq.trans (congrArg Int32.toInt (Eq.trans kq33 kq7)) rfl
  have kz44 : ((I28 3 1) : Int32).toInt = (I 3 1).toInt := e43
  have e45 : ((I28 97 8) : Int32).toInt = (I 97 8).toInt := Eq.trans (congrArg Int32.toInt (Eq.trans kq34 kq8)) rfl
  have kz46 : ((I28 97 8) : Int32).toInt = (I 97 8).toInt := e45
  have e47 : ((I28 1 13) : Int32).toInt = (I2 1 13).toInt := Eq.trans (congrArg Int32.toInt kq35) rfl
  have kz48 : ((I28 1 13) : Int32).toInt = (I2 1 13).toInt := e47
  have hr49 := RM.back hB0 hR0 hL1 hRM w14 w40
  exact hN _ _ R hB30 hR0 hF0 ⟨(Eq.trans (e43) (Eq.trans hL0 (Eq.symm (e45)))), (by have ya : ((I28 1 13) : Int32).toInt = (I2 1 13).toInt := e47; have yb : ((I28 97 23) : Int32).toInt = (I28 97 23).toInt := rfl; first | exact Int.le_of_eq (ya.trans yb) | exact ya.trans yb | omega), (RT.kp (RT.kp hL2 k10 k11) k36 k37), trivial⟩ (R3.kp (R3.kp hR3 w13 (by have ya : ((I2 3 1) : Int32).toInt = (I 3 1).toInt := e19; have yb : ((I 3 1) : Int32).toInt = (I 3 1).toInt := rfl; first | exact Int.le_of_eq (ya.trans yb) | exact ya.trans yb | omega)) w39 (by have ya : ((I28 3 1) : Int32).toInt = (I 3 1).toInt := e43; have yb : ((I2 3 1) : Int32).toInt = (I 3 1).toInt := e19; first | exact Int.le_of_eq (ya.trans yb) | exact ya.trans yb | omega)) hr49 trivial
