/-- what both sides have alike, without the sums of a plate -/
noncomputable def RLz (I : Im) : Prop := (I 3 1).toInt = (I 97 8).toInt ∧ (I 1 13).toInt = (I 97 23).toInt ∧ RT I ∧ True
set_option maxRecDepth 100000 in
set_option maxHeartbeats 2000000 in
theorem lc_0 {Q : Nat → Qt} {P : Kt} {L : Nat} {xs : Nat → Int32} (hc : Cl (AM 640) false true L xs 2 112 kL_law Q P) (hL : L ≤ 3584) {v3 : Int32} {I : Im} {J : Jm} {R : Rm} (hB0 : Bd I) (hR0 : RI R) (hF0 : Fl R) (hL0 : (I 3 1).toInt = (I 97 8).toInt) (hL1 : (I 1 13).toInt = (I 97 23).toInt) (hL2 : RT I) (hL3 : True) (hR3 : R3 I J) (hRM : RM I J R) (hFQ : True) (hW9 : W9 I R) (hTQ : TQ9 I J) (h0 : 0 ≤ v3.toInt) (h7 : v3.toInt + 7 ≤ (L : Int)) (hN : ∀ (I : Im) (J : Jm) (R : Rm), Bd I → RI R → Fl R → RLz I → R3 I J → RM I J R → True → W9 I R → TQ9 I J → P 1889 112 [(0, .ref 0), (1, .ref 1), (2, .ref 97), (3, .int v3)] [] I J R) : P 244 112 [(0, .ref 0), (1, .ref 1), (2, .ref 97), (3, .int v3)] [] I J R := by
  have i_v3 := i32 v3
  have e97 : I 97 8 = nI (fl I) := (Int32.toInt_inj.mp hL0).symm.trans (fl_bd hB0).1
  have b31 := Bd.o hB0 io9_112_3_6 bd9_6_1
  refine ls_244 hc v3 _ _ _ ?_
  refine ⟨⟨hF0, rfl⟩, ?_⟩
  refine kp7 rfl hR0 rfl (kpA rfl (kpnm rfl hR0 rfl (kp102 rfl hR0 rfl (kpW9 rfl hR0 rfl (kpN9 rfl (kp6 rfl hR0 rfl (kp4 rfl (kp5 rfl hR0 rfl (kp0 rfl (kp1 rfl (kp2 rfl (kp3 rfl (sp_X11_status hB0 hR0 (fun x1 y6 I2 J3 hB4 p5 kq10 kq9 kq8 kq7 k12 k11 k13 w19 w18 w17 w16 w15 w14 => ?_))))))))))))))
  have i20 := i32 x1
  have b21 := Bd.o hB0 io9_112_3_6 bd9_6_1
  have e22 : ((I2 3 1) : Int32).toInt = (I 3 1).toInt := Eq.trans (congrArg Int32.toInt kq7) rfl
  have kz23 : ((I2 3 1) : Int32).toInt = (I 3 1).toInt := e22
  have b24 := Bd.o hB0 io9_112_97_12 bd9_12_8
  have e25 : ((I2 97 8) : Int32).toInt = (I 97 8).toInt := Eq.trans (congrArg Int32.toInt kq8) rfl
  have kz26 : ((I2 97 8) : Int32).toInt = (I 97 8).toInt := e25
  have b27 := Bd.o hB0 io9_112_1_11 bd9_11_13
  have e28 : ((I2 1 13) : Int32).toInt = (I 1 13).toInt := Eq.trans (congrArg Int32.toInt kq9) rfl
  have kz29 : ((I2 1 13) : Int32).toInt = (I 1 13).toInt := e28
  have b30 := Bd.o hB0 io9_112_97_12 bd9_12_23
  have e31 : ((I2 97 23) : Int32).toInt = (I 97 23).toInt := Eq.trans (congrArg Int32.toInt kq10) rfl
  have kz32 : ((I2 97 23) : Int32).toInt = (I 97 23).toInt := e31
  refine ⟨⟨hF0, rfl⟩, ?_⟩
  refine kp7 rfl hR0 rfl (kpA rfl (kpnm rfl hR0 rfl (kp102 rfl hR0 rfl (kpW9 rfl hR0 rfl (kpN9 rfl (kp6 rfl hR0 rfl (kp4 rfl (kp5 rfl hR0 rfl (kp0 rfl (kp1 rfl (kp2 rfl (kp3 rfl (sp_X12_status hB4 hR0 (fun x33 y38 I34 J35 hB36 p37 kq42 kq41 kq40 kq39 k44 k43 k45 w51 w50 w49 w48 w47 w46 => ?_))))))))))))))
  have i52 := i32 x33
  have e53 : ((I34 3 1) : Int32).toInt = (I 3 1).toInt := Eq.trans (congrArg Int32.toInt (Eq.trans kq39 kq7)) rfl
  have kz54 : ((I34 3 1) : Int32).toInt = (I 3 1).toInt := e53
  have e55 : ((I34 97 8) : Int32).toInt = (I 97 8).toInt := Eq.trans (congrArg Int32.toInt (Eq.trans kq40 kq8)) rfl
  have kz56 : ((I34 97 8) : Int32).toInt = (I 97 8).toInt := e55
  have e57 : ((I34 1 13) : Int32).toInt = (I 1 13).toInt := Eq.trans (congrArg Int32.toInt (Eq.trans kq41 kq9)) rfl
  have kz58 : ((I34 1 13) : Int32).toInt = (I 1 13).toInt := e57
  have e59 : ((I34 97 23) : Int32).toInt = (I 97 23).toInt := Eq.trans (congrArg Int32.toInt (Eq.trans kq42 kq10)) rfl
  have kz60 : ((I34 97 23) : Int32).toInt = (I 97 23).toInt := e59
  exact hN _ _ R hB36 hR0 hF0 ⟨(Eq.trans (e53) (Eq.trans hL0 (Eq.symm (e55)))), (Eq.trans (e57) (Eq.trans hL1 (Eq.symm (e59)))), (RT.kp (RT.kp hL2 k11 k12) k43 k44), trivial⟩ (R3.kp (R3.kp hR3 w14 (by have ya : ((I2 3 1) : Int32).toInt = (I 3 1).toInt := e22; have yb : ((I 3 1) : Int32).toInt = (I 3 1).toInt := rfl; omega)) w46 (by have ya : ((I34 3 1) : Int32).toInt = (I 3 1).toInt := e53; have yb : ((I2 3 1) : Int32).toInt = (I 3 1).toInt := e22; omega)) (RM.kp hR0 (RM.kp hR0 hRM ⟨w15, w16, (fun j _ => congrFun w17.1 j)⟩) ⟨w47, w48, (fun j _ => congrFun w49.1 j)⟩) trivial (W9.kp hR0 (W9.kp hR0 hW9 w18 w17.1 w15.2) w50 w49.1 w47.2) (TQ9.kp hTQ (KQ9.tr w19 w51) (k44.2.trans k12.2))
set_option maxRecDepth 100000 in
set_option maxHeartbeats 2000000 in
theorem lc_1 {Q : Nat → Qt} {P : Kt} {L : Nat} {xs : Nat → Int32} (hc : Cl (AM 640) false true L xs 2 112 kL_law Q P) (hL : L ≤ 3584) {v3 : Int32} {I : Im} {J : Jm} {R : Rm} (hB0 : Bd I) (hR0 : RI R) (hF0 : Fl R) (hL0 : (I 3 1).toInt = (I 97 8).toInt) (hL1 : (I 1 13).toInt = (I 97 23).toInt) (hL2 : RT I) (hL3 : True) (hR3 : R3 I J) (hRM : RM I J R) (hFQ : True) (hW9 : W9 I R) (hTQ : TQ9 I J) (h0 : 0 ≤ v3.toInt) (h7 : v3.toInt + 7 ≤ (L : Int)) (hN : ∀ (I : Im) (J : Jm) (R : Rm), Bd I → RI R → Fl R → RLz I → R3 I J → RM I J R → True → W9 I R → TQ9 I J → P 1889 112 [(0, .ref 0), (1, .ref 1), (2, .ref 97), (3, .int v3)] [] I J R) : P 257 112 [(0, .ref 0), (1, .ref 1), (2, .ref 97), (3, .int v3)] [] I J R := by
  have i_v3 := i32 v3
  have e97 : I 97 8 = nI (fl I) := (Int32.toInt_inj.mp hL0).symm.trans (fl_bd hB0).1
  have b31 := Bd.o hB0 io9_112_3_6 bd9_6_1
  refine ls_257 hc v3 _ _ _ ?_
  refine ⟨⟨hF0, rfl⟩, ?_⟩
  refine kp7 rfl hR0 rfl (kpA rfl (kpnm rfl hR0 rfl (kp102 rfl hR0 rfl (kpW9 rfl hR0 rfl (kpN9 rfl (kp6 rfl hR0 rfl (kp4 rfl (kp5 rfl hR0 rfl (kp0 rfl (kp1 rfl (kp2 rfl (kp3 rfl (sp_X11_top hB0 hR0 (fun x1 y6 I2 J3 hB4 p5 kq10 kq9 kq8 kq7 k12 k11 k13 w19 w18 w17 w16 w15 w14 => ?_))))))))))))))
  have b20 := Bd.o hB0 io9_112_3_6 bd9_6_1
  have e21 : ((I2 3 1) : Int32).toInt = (I 3 1).toInt := Eq.trans (congrArg Int32.toInt kq7) rfl
  have kz22 : ((I2 3 1) : Int32).toInt = (I 3 1).toInt := e21
  have b23 := Bd.o hB0 io9_112_97_12 bd9_12_8
  have e24 : ((I2 97 8) : Int32).toInt = (I 97 8).toInt := Eq.trans (congrArg Int32.toInt kq8) rfl
  have kz25 : ((I2 97 8) : Int32).toInt = (I 97 8).toInt := e24
  have b26 := Bd.o hB0 io9_112_1_11 bd9_11_13
  have e27 : ((I2 1 13) : Int32).toInt = (I 1 13).toInt := Eq.trans (congrArg Int32.toInt kq9) rfl
  have kz28 : ((I2 1 13) : Int32).toInt = (I 1 13).toInt := e27
  have b29 := Bd.o hB0 io9_112_97_12 bd9_12_23
  have e30 : ((I2 97 23) : Int32).toInt = (I 97 23).toInt := Eq.trans (congrArg Int32.toInt kq10) rfl
  have kz31 : ((I2 97 23) : Int32).toInt = (I 97 23).toInt := e30
  refine ⟨⟨hF0, rfl⟩, ?_⟩
  refine kp7 rfl hR0 rfl (kpA rfl (kpnm rfl hR0 rfl (kp102 rfl hR0 rfl (kpW9 rfl hR0 rfl (kpN9 rfl (kp6 rfl hR0 rfl (kp4 rfl (kp5 rfl hR0 rfl (kp0 rfl (kp1 rfl (kp2 rfl (kp3 rfl (sp_X12_top hB4 hR0 (fun x32 y37 I33 J34 hB35 p36 kq41 kq40 kq39 kq38 k43 k42 k44 w50 w49 w48 w47 w46 w45 => ?_))))))))))))))
  have e51 : ((I33 3 1) : Int32).toInt = (I 3 1).toInt := Eq.trans (congrArg Int32.toInt (Eq.trans kq38 kq7)) rfl
  have kz52 : ((I33 3 1) : Int32).toInt = (I 3 1).toInt := e51
  have e53 : ((I33 97 8) : Int32).toInt = (I 97 8).toInt := Eq.trans (congrArg Int32.toInt (Eq.trans kq39 kq8)) rfl
  have kz54 : ((I33 97 8) : Int32).toInt = (I 97 8).toInt := e53
  have e55 : ((I33 1 13) : Int32).toInt = (I 1 13).toInt := Eq.trans (congrArg Int32.toInt (Eq.trans kq40 kq9)) rfl
  have kz56 : ((I33 1 13) : Int32).toInt = (I 1 13).toInt := e55
  have e57 : ((I33 97 23) : Int32).toInt = (I 97 23).toInt := Eq.trans (congrArg Int32.toInt (Eq.trans kq41 kq10)) rfl
  have kz58 : ((I33 97 23) : Int32).toInt = (I 97 23).toInt := e57
  exact hN _ _ R hB35 hR0 hF0 ⟨(Eq.trans (e51) (Eq.trans hL0 (Eq.symm (e53)))), (Eq.trans (e55) (Eq.trans hL1 (Eq.symm (e57)))), (RT.kp (RT.kp hL2 k11 k12) k42 k43), trivial⟩ (R3.kp (R3.kp hR3 w14 (by have ya : ((I2 3 1) : Int32).toInt = (I 3 1).toInt := e21; have yb : ((I 3 1) : Int32).toInt = (I 3 1).toInt := rfl; omega)) w45 (by have ya : ((I33 3 1) : Int32).toInt = (I 3 1).toInt := e51; have yb : ((I2 3 1) : Int32).toInt = (I 3 1).toInt := e21; omega)) (RM.kp hR0 (RM.kp hR0 hRM ⟨w15, w16, (fun j _ => congrFun w17.1 j)⟩) ⟨w46, w47, (fun j _ => congrFun w48.1 j)⟩) trivial (W9.kp hR0 (W9.kp hR0 hW9 w18 w17.1 w15.2) w49 w48.1 w46.2) (TQ9.kp hTQ (KQ9.tr w19 w50) (k43.2.trans k12.2))
set_option maxRecDepth 100000 in
set_option maxHeartbeats 2000000 in
theorem lc_2 {Q : Nat → Qt} {P : Kt} {L : Nat} {xs : Nat → Int32} (hc : Cl (AM 640) false true L xs 2 112 kL_law Q P) (hL : L ≤ 3584) {v3 : Int32} {I : Im} {J : Jm} {R : Rm} (hB0 : Bd I) (hR0 : RI R) (hF0 : Fl R) (hL0 : (I 3 1).toInt = (I 97 8).toInt) (hL1 : (I 1 13).toInt = (I 97 23).toInt) (hL2 : RT I) (hL3 : True) (hR3 : R3 I J) (hRM : RM I J R) (hFQ : True) (hW9 : W9 I R) (hTQ : TQ9 I J) (h0 : 0 ≤ v3.toInt) (h7 : v3.toInt + 7 ≤ (L : Int)) (hN : ∀ (I : Im) (J : Jm) (R : Rm), Bd I → RI R → Fl R → RLz I → R3 I J → RM I J R → True → W9 I R → TQ9 I J → P 1889 112 [(0, .ref 0), (1, .ref 1), (2, .ref 97), (3, .int v3)] [] I J R) : P 270 112 [(0, .ref 0), (1, .ref 1), (2, .ref 97), (3, .int v3)] [] I J R := by
  have i_v3 := i32 v3
  have e97 : I 97 8 = nI (fl I) := (Int32.toInt_inj.mp hL0).symm.trans (fl_bd hB0).1
  have b31 := Bd.o hB0 io9_112_3_6 bd9_6_1
  refine ls_270 hc v3 _ _ _ ?_
  refine ⟨⟨hF0, rfl⟩, ?_⟩
  refine kp7 rfl hR0 rfl (kpA rfl (kpnm rfl hR0 rfl (kp102 rfl hR0 rfl (kpW9 rfl hR0 rfl (kpN9 rfl (kp6 rfl hR0 rfl (kp4 rfl (kp5 rfl hR0 rfl (kp0 rfl (kp1 rfl (kp2 rfl (kp3 rfl (sp_X11_bottom hB0 hR0 (fun x1 y6 I2 J3 hB4 p5 kq10 kq9 kq8 kq7 k12 k11 k13 w19 w18 w17 w16 w15 w14 => ?_))))))))))))))
  have b20 := Bd.o hB0 io9_112_3_6 bd9_6_1
  have e21 : ((I2 3 1) : Int32).toInt = (I 3 1).toInt := Eq.trans (congrArg Int32.toInt kq7) rfl
  have kz22 : ((I2 3 1) : Int32).toInt = (I 3 1).toInt := e21
  have b23 := Bd.o hB0 io9_112_97_12 bd9_12_8
  have e24 : ((I2 97 8) : Int32).toInt = (I 97 8).toInt := Eq.trans (congrArg Int32.toInt kq8) rfl
  have kz25 : ((I2 97 8) : Int32).toInt = (I 97 8).toInt := e24
  have b26 := Bd.o hB0 io9_112_1_11 bd9_11_13
  have e27 : ((I2 1 13) : Int32).toInt = (I 1 13).toInt := Eq.trans (congrArg Int32.toInt kq9) rfl
  have kz28 : ((I2 1 13) : Int32).toInt = (I 1 13).toInt := e27
  have b29 := Bd.o hB0 io9_112_97_12 bd9_12_23
  have e30 : ((I2 97 23) : Int32).toInt = (I 97 23).toInt := Eq.trans (congrArg Int32.toInt kq10) rfl
  have kz31 : ((I2 97 23) : Int32).toInt = (I 97 23).toInt := e30
  refine ⟨⟨hF0, rfl⟩, ?_⟩
  refine kp7 rfl hR0 rfl (kpA rfl (kpnm rfl hR0 rfl (kp102 rfl hR0 rfl (kpW9 rfl hR0 rfl (kpN9 rfl (kp6 rfl hR0 rfl (kp4 rfl (kp5 rfl hR0 rfl (kp0 rfl (kp1 rfl (kp2 rfl (kp3 rfl (sp_X12_bottom hB4 hR0 (fun x32 y37 I33 J34 hB35 p36 kq41 kq40 kq39 kq38 k43 k42 k44 w50 w49 w48 w47 w46 w45 => ?_))))))))))))))
  have e51 : ((I33 3 1) : Int32).toInt = (I 3 1).toInt := Eq.trans (congrArg Int32.toInt (Eq.trans kq38 kq7)) rfl
  have kz52 : ((I33 3 1) : Int32).toInt = (I 3 1).toInt := e51
  have e53 : ((I33 97 8) : Int32).toInt = (I 97 8).toInt := Eq.trans (congrArg Int32.toInt (Eq.trans kq39 kq8)) rfl
  have kz54 : ((I33 97 8) : Int32).toInt = (I 97 8).toInt := e53
  have e55 : ((I33 1 13) : Int32).toInt = (I 1 13).toInt := Eq.trans (congrArg Int32.toInt (Eq.trans kq40 kq9)) rfl
  have kz56 : ((I33 1 13) : Int32).toInt = (I 1 13).toInt := e55
  have e57 : ((I33 97 23) : Int32).toInt = (I 97 23).toInt := Eq.trans (congrArg Int32.toInt (Eq.trans kq41 kq10)) rfl
  have kz58 : ((I33 97 23) : Int32).toInt = (I 97 23).toInt := e57
  exact hN _ _ R hB35 hR0 hF0 ⟨(Eq.trans (e51) (Eq.trans hL0 (Eq.symm (e53)))), (Eq.trans (e55) (Eq.trans hL1 (Eq.symm (e57)))), (RT.kp (RT.kp hL2 k11 k12) k42 k43), trivial⟩ (R3.kp (R3.kp hR3 w14 (by have ya : ((I2 3 1) : Int32).toInt = (I 3 1).toInt := e21; have yb : ((I 3 1) : Int32).toInt = (I 3 1).toInt := rfl; omega)) w45 (by have ya : ((I33 3 1) : Int32).toInt = (I 3 1).toInt := e51; have yb : ((I2 3 1) : Int32).toInt = (I 3 1).toInt := e21; omega)) (RM.kp hR0 (RM.kp hR0 hRM ⟨w15, w16, (fun j _ => congrFun w17.1 j)⟩) ⟨w46, w47, (fun j _ => congrFun w48.1 j)⟩) trivial (W9.kp hR0 (W9.kp hR0 hW9 w18 w17.1 w15.2) w49 w48.1 w46.2) (TQ9.kp hTQ (KQ9.tr w19 w50) (k43.2.trans k12.2))
set_option maxRecDepth 100000 in
set_option maxHeartbeats 2000000 in
theorem lc_3 {Q : Nat → Qt} {P : Kt} {L : Nat} {xs : Nat → Int32} (hc : Cl (AM 640) false true L xs 2 112 kL_law Q P) (hL : L ≤ 3584) {v3 : Int32} {I : Im} {J : Jm} {R : Rm} (hB0 : Bd I) (hR0 : RI R) (hF0 : Fl R) (hL0 : (I 3 1).toInt = (I 97 8).toInt) (hL1 : (I 1 13).toInt = (I 97 23).toInt) (hL2 : RT I) (hL3 : True) (hR3 : R3 I J) (hRM : RM I J R) (hFQ : True) (hW9 : W9 I R) (hTQ : TQ9 I J) (h0 : 0 ≤ v3.toInt) (h7 : v3.toInt + 7 ≤ (L : Int)) (hN : ∀ (I : Im) (J : Jm) (R : Rm), Bd I → RI R → Fl R → RLz I → R3 I J → RM I J R → True → W9 I R → TQ9 I J → P 1889 112 [(0, .ref 0), (1, .ref 1), (2, .ref 97), (3, .int v3)] [] I J R) : P 283 112 [(0, .ref 0), (1, .ref 1), (2, .ref 97), (3, .int v3)] [] I J R := by
  have i_v3 := i32 v3
  have e97 : I 97 8 = nI (fl I) := (Int32.toInt_inj.mp hL0).symm.trans (fl_bd hB0).1
  have b31 := Bd.o hB0 io9_112_3_6 bd9_6_1
  refine ls_283 hc v3 _ _ _ ?_
  have e1 : ((v3 + 1) : Int32).toInt = (v3.toInt) + (1) := ti_add rfl rfl (by omega)
  refine ⟨vp_of (a := (v3.toInt + 1)) e1 (by omega) (by omega), ?_⟩
  have z2 := i32 (xs (Int32.toNatClampNeg (v3 + 1)))
  have e3 : ((v3 + 2) : Int32).toInt = (v3.toInt) + (2) := ti_add rfl rfl (by omega)
  refine ⟨vp_of (a := (v3.toInt + 2)) e3 (by omega) (by omega), ?_⟩
  have z4 := i32 (xs (Int32.toNatClampNeg (v3 + 2)))
  have e5 : ((v3 + 3) : Int32).toInt = (v3.toInt) + (3) := ti_add rfl rfl (by omega)
  refine ⟨vp_of (a := (v3.toInt + 3)) e5 (by omega) (by omega), ?_⟩
  have z6 := i32 (xs (Int32.toNatClampNeg (v3 + 3)))
  refine ⟨⟨hF0, rfl⟩, ?_⟩
  refine kp7 rfl hR0 rfl (kpA rfl (kpnm rfl hR0 rfl (kp102 rfl hR0 rfl (kpW9 rfl hR0 rfl (kx (cx_tray9 hR0) (kp6 rfl hR0 rfl (kp5 rfl hR0 rfl (kp0 rfl (kp1 rfl (kp2 rfl (kp3 rfl (sp_X11_tray hB0 hR0 (fun x7 y12 I8 J9 hB10 p11 kq16 kq15 kq14 kq13 k17 k18 w24 w23 w22 w21 w20 w19 => ?_)))))))))))))
  intro o25
  have i26 := i32 x7
  have b27 := Bd.o hB0 io9_112_3_6 bd9_6_1
  have e28 : ((I8 3 1) : Int32).toInt = (I 3 1).toInt := Eq.trans (congrArg Int32.toInt kq13) rfl
  have kz29 : ((I8 3 1) : Int32).toInt = (I 3 1).toInt := e28
  have b30 := Bd.o hB0 io9_112_97_12 bd9_12_8
  have e31 : ((I8 97 8) : Int32).toInt = (I 97 8).toInt := Eq.trans (congrArg Int32.toInt kq14) rfl
  have kz32 : ((I8 97 8) : Int32).toInt = (I 97 8).toInt := e31
  have b33 := Bd.o hB0 io9_112_1_11 bd9_11_13
  have e34 : ((I8 1 13) : Int32).toInt = (I 1 13).toInt := Eq.trans (congrArg Int32.toInt kq15) rfl
  have kz35 : ((I8 1 13) : Int32).toInt = (I 1 13).toInt := e34
  have b36 := Bd.o hB0 io9_112_97_12 bd9_12_23
  have e37 : ((I8 97 23) : Int32).toInt = (I 97 23).toInt := Eq.trans (congrArg Int32.toInt kq16) rfl
  have kz38 : ((I8 97 23) : Int32).toInt = (I 97 23).toInt := e37
  refine ⟨vp_of (a := (v3.toInt + 1)) e1 (by omega) (by omega), ?_⟩
  have z39 := i32 (xs (Int32.toNatClampNeg (v3 + 1)))
  refine ⟨vp_of (a := (v3.toInt + 2)) e3 (by omega) (by omega), ?_⟩
  have z40 := i32 (xs (Int32.toNatClampNeg (v3 + 2)))
  refine ⟨vp_of (a := (v3.toInt + 3)) e5 (by omega) (by omega), ?_⟩
  have z41 := i32 (xs (Int32.toNatClampNeg (v3 + 3)))
  refine ⟨⟨hF0, rfl⟩, ?_⟩
  refine kp7 rfl hR0 rfl (kpA rfl (kpnm rfl hR0 rfl (kp102 rfl hR0 rfl (kpW9 rfl hR0 rfl (kx mx_tray9 (kp6 rfl hR0 rfl (kp4 rfl (kp0 rfl (kp1 rfl (kp2 rfl (kp3 rfl (sp_X12_tray hB10 hR0 (fun x42 y47 I43 J44 hB45 p46 kq51 kq50 kq49 kq48 k52 k53 w59 w58 w57 w56 w55 w54 => ?_)))))))))))))
  intro o60
  have i61 := i32 x42
  have e62 : ((I43 3 1) : Int32).toInt = (I 3 1).toInt := Eq.trans (congrArg Int32.toInt (Eq.trans kq48 kq13)) rfl
  have kz63 : ((I43 3 1) : Int32).toInt = (I 3 1).toInt := e62
  have e64 : ((I43 97 8) : Int32).toInt = (I 97 8).toInt := Eq.trans (congrArg Int32.toInt (Eq.trans kq49 kq14)) rfl
  have kz65 : ((I43 97 8) : Int32).toInt = (I 97 8).toInt := e64
  have e66 : ((I43 1 13) : Int32).toInt = (I 1 13).toInt := Eq.trans (congrArg Int32.toInt (Eq.trans kq50 kq15)) rfl
  have kz67 : ((I43 1 13) : Int32).toInt = (I 1 13).toInt := e66
  have e68 : ((I43 97 23) : Int32).toInt = (I 97 23).toInt := Eq.trans (congrArg Int32.toInt (Eq.trans kq51 kq16)) rfl
  have kz69 : ((I43 97 23) : Int32).toInt = (I 97 23).toInt := e68
  exact hN _ _ R hB45 hR0 hF0 ⟨(Eq.trans (e62) (Eq.trans hL0 (Eq.symm (e64)))), (Eq.trans (e66) (Eq.trans hL1 (Eq.symm (e68)))), (RT.tray hL2 hR0 p11.2 p46.2 (by have a := p11.1; have b := p46.1; omega) (fun z => by have a := p11.1; omega) k17 k52), trivial⟩ (R3.kp (R3.kp hR3 w19 (by have ya : ((I8 3 1) : Int32).toInt = (I 3 1).toInt := e28; have yb : ((I 3 1) : Int32).toInt = (I 3 1).toInt := rfl; omega)) w54 (by have ya : ((I43 3 1) : Int32).toInt = (I 3 1).toInt := e62; have yb : ((I8 3 1) : Int32).toInt = (I 3 1).toInt := e28; omega)) (RM.kp hR0 (RM.kp hR0 hRM ⟨w20, w21, (fun j _ => congrFun w22.1 j)⟩) ⟨w55, w56, (fun j _ => congrFun w57.1 j)⟩) trivial (W9.kp hR0 (W9.kp hR0 hW9 w23 w22.1 w20.2) w58 w57.1 w55.2) (TQ9.tray2 hTQ k17 (fun z => okT9_i.mpr (p46.1.2.2.1 z)) (fun z => p46.1.2.2.2 (okT9_i.mp z)) p46.2 (RT.h60 hB0 hL2) w24 w59)
set_option maxRecDepth 100000 in
set_option maxHeartbeats 2000000 in
theorem lc_4 {Q : Nat → Qt} {P : Kt} {L : Nat} {xs : Nat → Int32} (hc : Cl (AM 640) false true L xs 2 112 kL_law Q P) (hL : L ≤ 3584) {v3 : Int32} {I : Im} {J : Jm} {R : Rm} (hB0 : Bd I) (hR0 : RI R) (hF0 : Fl R) (hL0 : (I 3 1).toInt = (I 97 8).toInt) (hL1 : (I 1 13).toInt = (I 97 23).toInt) (hL2 : RT I) (hL3 : True) (hR3 : R3 I J) (hRM : RM I J R) (hFQ : True) (hW9 : W9 I R) (hTQ : TQ9 I J) (h0 : 0 ≤ v3.toInt) (h7 : v3.toInt + 7 ≤ (L : Int)) (hN : ∀ (I : Im) (J : Jm) (R : Rm), Bd I → RI R → Fl R → RLz I → R3 I J → RM I J R → True → W9 I R → TQ9 I J → P 1889 112 [(0, .ref 0), (1, .ref 1), (2, .ref 97), (3, .int v3)] [] I J R) : P 326 112 [(0, .ref 0), (1, .ref 1), (2, .ref 97), (3, .int v3)] [] I J R := by
  have i_v3 := i32 v3
  have e97 : I 97 8 = nI (fl I) := (Int32.toInt_inj.mp hL0).symm.trans (fl_bd hB0).1
  have b31 := Bd.o hB0 io9_112_3_6 bd9_6_1
  refine ls_326 hc v3 _ _ _ ?_
  have e1 : ((v3 + 1) : Int32).toInt = (v3.toInt) + (1) := ti_add rfl rfl (by omega)
  refine ⟨vp_of (a := (v3.toInt + 1)) e1 (by omega) (by omega), ?_⟩
  have z2 := i32 (xs (Int32.toNatClampNeg (v3 + 1)))
  have e3 : ((v3 + 2) : Int32).toInt = (v3.toInt) + (2) := ti_add rfl rfl (by omega)
  refine ⟨vp_of (a := (v3.toInt + 2)) e3 (by omega) (by omega), ?_⟩
  have z4 := i32 (xs (Int32.toNatClampNeg (v3 + 2)))
  have e5 : ((v3 + 3) : Int32).toInt = (v3.toInt) + (3) := ti_add rfl rfl (by omega)
  refine ⟨vp_of (a := (v3.toInt + 3)) e5 (by omega) (by omega), ?_⟩
  have z6 := i32 (xs (Int32.toNatClampNeg (v3 + 3)))
  have e7 : ((v3 + 4) : Int32).toInt = (v3.toInt) + (4) := ti_add rfl rfl (by omega)
  refine ⟨vp_of (a := (v3.toInt + 4)) e7 (by omega) (by omega), ?_⟩
  have z8 := i32 (xs (Int32.toNatClampNeg (v3 + 4)))
  refine ⟨⟨hF0, rfl⟩, ?_⟩
  refine kp7 rfl hR0 rfl (kpA rfl (kpnm rfl hR0 rfl (kp102 rfl hR0 rfl (kpW9 rfl hR0 rfl (kx (cx_write9 hB0 hR0) (kp6 rfl hR0 rfl (kp4 rfl (kp5 rfl hR0 rfl (kp0 rfl (kp1 rfl (kp2 rfl (kp3 rfl (sp_X11_write hB0 hR0 (fun x9 y14 I10 J11 hB12 p13 kq18 kq17 kq16 kq15 k20 k19 k21 w27 w26 w25 w24 w23 w22 => ?_))))))))))))))
  intro o28
  have i29 := i32 x9
  have b30 := Bd.o hB0 io9_112_3_6 bd9_6_1
  have e31 : ((I10 3 1) : Int32).toInt = (I 3 1).toInt := Eq.trans (congrArg Int32.toInt kq15) rfl
  have kz32 : ((I10 3 1) : Int32).toInt = (I 3 1).toInt := e31
  have b33 := Bd.o hB0 io9_112_97_12 bd9_12_8
  have e34 : ((I10 97 8) : Int32).toInt = (I 97 8).toInt := Eq.trans (congrArg Int32.toInt kq16) rfl
  have kz35 : ((I10 97 8) : Int32).toInt = (I 97 8).toInt := e34
  have b36 := Bd.o hB0 io9_112_1_11 bd9_11_13
  have e37 : ((I10 1 13) : Int32).toInt = (I 1 13).toInt := Eq.trans (congrArg Int32.toInt kq17) rfl
  have kz38 : ((I10 1 13) : Int32).toInt = (I 1 13).toInt := e37
  have b39 := Bd.o hB0 io9_112_97_12 bd9_12_23
  have e40 : ((I10 97 23) : Int32).toInt = (I 97 23).toInt := Eq.trans (congrArg Int32.toInt kq18) rfl
  have kz41 : ((I10 97 23) : Int32).toInt = (I 97 23).toInt := e40
  have hw42 : 0 ≤ ((xs (Int32.toNatClampNeg (v3 + 1))) : Int32).toInt → ((xs (Int32.toNatClampNeg (v3 + 1))) : Int32).toInt ≤ 3 → (I (R 2 (Int32.toNatClampNeg (xs (Int32.toNatClampNeg (v3 + 1))))) 1).toInt = (I10 99 (Int32.toNatClampNeg (xs (Int32.toNatClampNeg (v3 + 1))))).toInt := fun a b => RT.a1 hL2 hR0 k20 a b
  refine ⟨vp_of (a := (v3.toInt + 1)) e1 (by omega) (by omega), ?_⟩
  have z43 := i32 (xs (Int32.toNatClampNeg (v3 + 1)))
  refine ⟨vp_of (a := (v3.toInt + 2)) e3 (by omega) (by omega), ?_⟩
  have z44 := i32 (xs (Int32.toNatClampNeg (v3 + 2)))
  refine ⟨vp_of (a := (v3.toInt + 3)) e5 (by omega) (by omega), ?_⟩
  have z45 := i32 (xs (Int32.toNatClampNeg (v3 + 3)))
  refine ⟨vp_of (a := (v3.toInt + 4)) e7 (by omega) (by omega), ?_⟩
  have z46 := i32 (xs (Int32.toNatClampNeg (v3 + 4)))
  refine ⟨⟨hF0, rfl⟩, ?_⟩
  refine kp7 rfl hR0 rfl (kpA rfl (kpnm rfl hR0 rfl (kp102 rfl hR0 rfl (kpW9 rfl hR0 rfl (kx (mx_write9 (K9.h60 k20 (RT.h60 hB0 hL2))) (kp6 rfl hR0 rfl (kp4 rfl (kp0 rfl (kp1 rfl (kp2 rfl (kp3 rfl (sp_X12_write hB12 hR0 (fun x47 y52 I48 J49 hB50 p51 kq56 kq55 kq54 kq53 k57 k58 w64 w63 w62 w61 w60 w59 => ?_)))))))))))))
  intro o65
  have i66 := i32 x47
  have e67 : ((I48 3 1) : Int32).toInt = (I 3 1).toInt := Eq.trans (congrArg Int32.toInt (Eq.trans kq53 kq15)) rfl
  have kz68 : ((I48 3 1) : Int32).toInt = (I 3 1).toInt := e67
  have e69 : ((I48 97 8) : Int32).toInt = (I 97 8).toInt := Eq.trans (congrArg Int32.toInt (Eq.trans kq54 kq16)) rfl
  have kz70 : ((I48 97 8) : Int32).toInt = (I 97 8).toInt := e69
  have e71 : ((I48 1 13) : Int32).toInt = (I 1 13).toInt := Eq.trans (congrArg Int32.toInt (Eq.trans kq55 kq17)) rfl
  have kz72 : ((I48 1 13) : Int32).toInt = (I 1 13).toInt := e71
  have e73 : ((I48 97 23) : Int32).toInt = (I 97 23).toInt := Eq.trans (congrArg Int32.toInt (Eq.trans kq56 kq18)) rfl
  have kz74 : ((I48 97 23) : Int32).toInt = (I 97 23).toInt := e73
  exact hN _ _ R hB50 hR0 hF0 ⟨(Eq.trans (e67) (Eq.trans hL0 (Eq.symm (e69)))), (Eq.trans (e71) (Eq.trans hL1 (Eq.symm (e73)))), (RT.kp (RT.kp hL2 k19 k20) k57 (p51.2)), trivial⟩ (R3.kp (R3.kp hR3 w22 (by have ya : ((I10 3 1) : Int32).toInt = (I 3 1).toInt := e31; have yb : ((I 3 1) : Int32).toInt = (I 3 1).toInt := rfl; omega)) w59 (by have ya : ((I48 3 1) : Int32).toInt = (I 3 1).toInt := e67; have yb : ((I10 3 1) : Int32).toInt = (I 3 1).toInt := e31; omega)) (RM.kp hR0 (RM.kp hR0 hRM ⟨w23, w24, (fun j _ => congrFun w25.1 j)⟩) ⟨w60, w61, (fun j _ => congrFun w62.1 j)⟩) trivial (W9.kp hR0 (W9.kp hR0 hW9 w26 w25.1 w23.2) w63 w62.1 w60.2) (TQ9.write2 hL2 hTQ k20 (p51.2) (RT.h60 hB0 hL2) w27 w64)
set_option maxRecDepth 100000 in
set_option maxHeartbeats 2000000 in
theorem lc_5 {Q : Nat → Qt} {P : Kt} {L : Nat} {xs : Nat → Int32} (hc : Cl (AM 640) false true L xs 2 112 kL_law Q P) (hL : L ≤ 3584) {v3 : Int32} {I : Im} {J : Jm} {R : Rm} (hB0 : Bd I) (hR0 : RI R) (hF0 : Fl R) (hL0 : (I 3 1).toInt = (I 97 8).toInt) (hL1 : (I 1 13).toInt = (I 97 23).toInt) (hL2 : RT I) (hL3 : True) (hR3 : R3 I J) (hRM : RM I J R) (hFQ : True) (hW9 : W9 I R) (hTQ : TQ9 I J) (h0 : 0 ≤ v3.toInt) (h7 : v3.toInt + 7 ≤ (L : Int)) (hN : ∀ (I : Im) (J : Jm) (R : Rm), Bd I → RI R → Fl R → RLz I → R3 I J → RM I J R → True → W9 I R → TQ9 I J → P 1889 112 [(0, .ref 0), (1, .ref 1), (2, .ref 97), (3, .int v3)] [] I J R) : P 399 112 [(0, .ref 0), (1, .ref 1), (2, .ref 97), (3, .int v3)] [] I J R := by
  have i_v3 := i32 v3
  have e97 : I 97 8 = nI (fl I) := (Int32.toInt_inj.mp hL0).symm.trans (fl_bd hB0).1
  have b31 := Bd.o hB0 io9_112_3_6 bd9_6_1
  refine ls_399 hc v3 _ _ _ ?_
  have e1 : ((v3 + 1) : Int32).toInt = (v3.toInt) + (1) := ti_add rfl rfl (by omega)
  refine ⟨vp_of (a := (v3.toInt + 1)) e1 (by omega) (by omega), ?_⟩
  have z2 := i32 (xs (Int32.toNatClampNeg (v3 + 1)))
  have e3 : ((v3 + 2) : Int32).toInt = (v3.toInt) + (2) := ti_add rfl rfl (by omega)
  refine ⟨vp_of (a := (v3.toInt + 2)) e3 (by omega) (by omega), ?_⟩
  have z4 := i32 (xs (Int32.toNatClampNeg (v3 + 2)))
  refine ⟨⟨hF0, rfl⟩, ?_⟩
  refine kp7 rfl hR0 rfl (kpA rfl (kpnm rfl hR0 rfl (kp102 rfl hR0 rfl (kpW9 rfl hR0 rfl (kpN9 rfl (kp6 rfl hR0 rfl (kp4 rfl (kp5 rfl hR0 rfl (kp0 rfl (kp1 rfl (kp2 rfl (kp3 rfl (sp_X11_read hB0 hR0 (fun x5 y10 I6 J7 hB8 p9 kq14 kq13 kq12 kq11 k16 k15 k17 w23 w22 w21 w20 w19 w18 => ?_))))))))))))))
  have b24 := Bd.o hB0 io9_112_3_6 bd9_6_1
  have e25 : ((I6 3 1) : Int32).toInt = (I 3 1).toInt := Eq.trans (congrArg Int32.toInt kq11) rfl
  have kz26 : ((I6 3 1) : Int32).toInt = (I 3 1).toInt := e25
  have b27 := Bd.o hB0 io9_112_97_12 bd9_12_8
  have e28 : ((I6 97 8) : Int32).toInt = (I 97 8).toInt := Eq.trans (congrArg Int32.toInt kq12) rfl
  have kz29 : ((I6 97 8) : Int32).toInt = (I 97 8).toInt := e28
  have b30 := Bd.o hB0 io9_112_1_11 bd9_11_13
  have e31 : ((I6 1 13) : Int32).toInt = (I 1 13).toInt := Eq.trans (congrArg Int32.toInt kq13) rfl
  have kz32 : ((I6 1 13) : Int32).toInt = (I 1 13).toInt := e31
  have b33 := Bd.o hB0 io9_112_97_12 bd9_12_23
  have e34 : ((I6 97 23) : Int32).toInt = (I 97 23).toInt := Eq.trans (congrArg Int32.toInt kq14) rfl
  have kz35 : ((I6 97 23) : Int32).toInt = (I 97 23).toInt := e34
  refine ⟨vp_of (a := (v3.toInt + 1)) e1 (by omega) (by omega), ?_⟩
  have z36 := i32 (xs (Int32.toNatClampNeg (v3 + 1)))
  refine ⟨vp_of (a := (v3.toInt + 2)) e3 (by omega) (by omega), ?_⟩
  have z37 := i32 (xs (Int32.toNatClampNeg (v3 + 2)))
  refine ⟨⟨hF0, rfl⟩, ?_⟩
  refine kp7 rfl hR0 rfl (kpA rfl (kpnm rfl hR0 rfl (kp102 rfl hR0 rfl (kpW9 rfl hR0 rfl (kpN9 rfl (kp6 rfl hR0 rfl (kp4 rfl (kp5 rfl hR0 rfl (kp0 rfl (kp1 rfl (kp2 rfl (kp3 rfl (sp_X12_read hB8 hR0 (fun x38 y43 I39 J40 hB41 p42 kq47 kq46 kq45 kq44 k49 k48 k50 w56 w55 w54 w53 w52 w51 => ?_))))))))))))))
  have e57 : ((I39 3 1) : Int32).toInt = (I 3 1).toInt := Eq.trans (congrArg Int32.toInt (Eq.trans kq44 kq11)) rfl
  have kz58 : ((I39 3 1) : Int32).toInt = (I 3 1).toInt := e57
  have e59 : ((I39 97 8) : Int32).toInt = (I 97 8).toInt := Eq.trans (congrArg Int32.toInt (Eq.trans kq45 kq12)) rfl
  have kz60 : ((I39 97 8) : Int32).toInt = (I 97 8).toInt := e59
  have e61 : ((I39 1 13) : Int32).toInt = (I 1 13).toInt := Eq.trans (congrArg Int32.toInt (Eq.trans kq46 kq13)) rfl
  have kz62 : ((I39 1 13) : Int32).toInt = (I 1 13).toInt := e61
  have e63 : ((I39 97 23) : Int32).toInt = (I 97 23).toInt := Eq.trans (congrArg Int32.toInt (Eq.trans kq47 kq14)) rfl
  have kz64 : ((I39 97 23) : Int32).toInt = (I 97 23).toInt := e63
  exact hN _ _ R hB41 hR0 hF0 ⟨(Eq.trans (e57) (Eq.trans hL0 (Eq.symm (e59)))), (Eq.trans (e61) (Eq.trans hL1 (Eq.symm (e63)))), (RT.kp (RT.kp hL2 k15 k16) k48 k49), trivial⟩ (R3.kp (R3.kp hR3 w18 (by have ya : ((I6 3 1) : Int32).toInt = (I 3 1).toInt := e25; have yb : ((I 3 1) : Int32).toInt = (I 3 1).toInt := rfl; omega)) w51 (by have ya : ((I39 3 1) : Int32).toInt = (I 3 1).toInt := e57; have yb : ((I6 3 1) : Int32).toInt = (I 3 1).toInt := e25; omega)) (RM.kp hR0 (RM.kp hR0 hRM ⟨w19, w20, (fun j _ => congrFun w21.1 j)⟩) ⟨w52, w53, (fun j _ => congrFun w54.1 j)⟩) trivial (W9.kp hR0 (W9.kp hR0 hW9 w22 w21.1 w19.2) w55 w54.1 w52.2) (TQ9.kp hTQ (KQ9.tr w23 w56) (k49.2.trans k16.2))
set_option maxRecDepth 100000 in
set_option maxHeartbeats 2000000 in
theorem lc_6 {Q : Nat → Qt} {P : Kt} {L : Nat} {xs : Nat → Int32} (hc : Cl (AM 640) false true L xs 2 112 kL_law Q P) (hL : L ≤ 3584) {v3 : Int32} {I : Im} {J : Jm} {R : Rm} (hB0 : Bd I) (hR0 : RI R) (hF0 : Fl R) (hL0 : (I 3 1).toInt = (I 97 8).toInt) (hL1 : (I 1 13).toInt = (I 97 23).toInt) (hL2 : RT I) (hL3 : True) (hR3 : R3 I J) (hRM : RM I J R) (hFQ : True) (hW9 : W9 I R) (hTQ : TQ9 I J) (h0 : 0 ≤ v3.toInt) (h7 : v3.toInt + 7 ≤ (L : Int)) (hN : ∀ (I : Im) (J : Jm) (R : Rm), Bd I → RI R → Fl R → RLz I → R3 I J → RM I J R → True → W9 I R → TQ9 I J → P 1889 112 [(0, .ref 0), (1, .ref 1), (2, .ref 97), (3, .int v3)] [] I J R) : P 432 112 [(0, .ref 0), (1, .ref 1), (2, .ref 97), (3, .int v3)] [] I J R := by
  have i_v3 := i32 v3
  have e97 : I 97 8 = nI (fl I) := (Int32.toInt_inj.mp hL0).symm.trans (fl_bd hB0).1
  have b31 := Bd.o hB0 io9_112_3_6 bd9_6_1
  refine ls_432 hc v3 _ _ _ ?_
  have e1 : ((v3 + 1) : Int32).toInt = (v3.toInt) + (1) := ti_add rfl rfl (by omega)
  refine ⟨vp_of (a := (v3.toInt + 1)) e1 (by omega) (by omega), ?_⟩
  have z2 := i32 (xs (Int32.toNatClampNeg (v3 + 1)))
  have e3 : ((v3 + 2) : Int32).toInt = (v3.toInt) + (2) := ti_add rfl rfl (by omega)
  refine ⟨vp_of (a := (v3.toInt + 2)) e3 (by omega) (by omega), ?_⟩
  have z4 := i32 (xs (Int32.toNatClampNeg (v3 + 2)))
  have e5 : ((v3 + 3) : Int32).toInt = (v3.toInt) + (3) := ti_add rfl rfl (by omega)
  refine ⟨vp_of (a := (v3.toInt + 3)) e5 (by omega) (by omega), ?_⟩
  have z6 := i32 (xs (Int32.toNatClampNeg (v3 + 3)))
  have e7 : ((v3 + 4) : Int32).toInt = (v3.toInt) + (4) := ti_add rfl rfl (by omega)
  refine ⟨vp_of (a := (v3.toInt + 4)) e7 (by omega) (by omega), ?_⟩
  have z8 := i32 (xs (Int32.toNatClampNeg (v3 + 4)))
  have e9 : ((v3 + 5) : Int32).toInt = (v3.toInt) + (5) := ti_add rfl rfl (by omega)
  refine ⟨vp_of (a := (v3.toInt + 5)) e9 (by omega) (by omega), ?_⟩
  have z10 := i32 (xs (Int32.toNatClampNeg (v3 + 5)))
  refine ⟨⟨hF0, rfl⟩, ?_⟩
  refine kp7 rfl hR0 rfl (kpA rfl (kpnm rfl hR0 rfl (kp102 rfl hR0 rfl (kpW9 rfl hR0 rfl (kx (cx_pour9 hB0 hR0) (kp6 rfl hR0 rfl (kp4 rfl (kp5 rfl hR0 rfl (kp0 rfl (kp1 rfl (kp2 rfl (kp3 rfl (sp_X11_pour hB0 hR0 (fun x11 y16 I12 J13 hB14 p15 kq20 kq19 kq18 kq17 k22 k21 k23 w29 w28 w27 w26 w25 w24 => ?_))))))))))))))
  intro o30
  have i31 := i32 x11
  have b32 := Bd.o hB0 io9_112_3_6 bd9_6_1
  have e33 : ((I12 3 1) : Int32).toInt = (I 3 1).toInt := Eq.trans (congrArg Int32.toInt kq17) rfl
  have kz34 : ((I12 3 1) : Int32).toInt = (I 3 1).toInt := e33
  have b35 := Bd.o hB0 io9_112_97_12 bd9_12_8
  have e36 : ((I12 97 8) : Int32).toInt = (I 97 8).toInt := Eq.trans (congrArg Int32.toInt kq18) rfl
  have kz37 : ((I12 97 8) : Int32).toInt = (I 97 8).toInt := e36
  have b38 := Bd.o hB0 io9_112_1_11 bd9_11_13
  have e39 : ((I12 1 13) : Int32).toInt = (I 1 13).toInt := Eq.trans (congrArg Int32.toInt kq19) rfl
  have kz40 : ((I12 1 13) : Int32).toInt = (I 1 13).toInt := e39
  have b41 := Bd.o hB0 io9_112_97_12 bd9_12_23
  have e42 : ((I12 97 23) : Int32).toInt = (I 97 23).toInt := Eq.trans (congrArg Int32.toInt kq20) rfl
  have kz43 : ((I12 97 23) : Int32).toInt = (I 97 23).toInt := e42
  have hw44 : 0 ≤ ((xs (Int32.toNatClampNeg (v3 + 1))) : Int32).toInt → ((xs (Int32.toNatClampNeg (v3 + 1))) : Int32).toInt ≤ 3 → (I (R 2 (Int32.toNatClampNeg (xs (Int32.toNatClampNeg (v3 + 1))))) 1).toInt = (I12 99 (Int32.toNatClampNeg (xs (Int32.toNatClampNeg (v3 + 1))))).toInt := fun a b => RT.a1 hL2 hR0 k22 a b
  have hw45 : 0 ≤ ((xs (Int32.toNatClampNeg (v3 + 1))) : Int32).toInt → ((xs (Int32.toNatClampNeg (v3 + 1))) : Int32).toInt ≤ 3 → (I (R 2 (Int32.toNatClampNeg (xs (Int32.toNatClampNeg (v3 + 1))))) 0).toInt = (I12 98 (Int32.toNatClampNeg (xs (Int32.toNatClampNeg (v3 + 1))))).toInt := fun a b => RT.a0 hL2 hR0 k22 a b
  have hw46 : 0 ≤ ((xs (Int32.toNatClampNeg (v3 + 3))) : Int32).toInt → ((xs (Int32.toNatClampNeg (v3 + 3))) : Int32).toInt ≤ 3 → (I (R 2 (Int32.toNatClampNeg (xs (Int32.toNatClampNeg (v3 + 3))))) 1).toInt = (I12 99 (Int32.toNatClampNeg (xs (Int32.toNatClampNeg (v3 + 3))))).toInt := fun a b => RT.a1 hL2 hR0 k22 a b
  have hw47 : 0 ≤ ((xs (Int32.toNatClampNeg (v3 + 3))) : Int32).toInt → ((xs (Int32.toNatClampNeg (v3 + 3))) : Int32).toInt ≤ 3 → (I (R 2 (Int32.toNatClampNeg (xs (Int32.toNatClampNeg (v3 + 3))))) 0).toInt = (I12 98 (Int32.toNatClampNeg (xs (Int32.toNatClampNeg (v3 + 3))))).toInt := fun a b => RT.a0 hL2 hR0 k22 a b
  refine ⟨vp_of (a := (v3.toInt + 1)) e1 (by omega) (by omega), ?_⟩
  have z48 := i32 (xs (Int32.toNatClampNeg (v3 + 1)))
  refine ⟨vp_of (a := (v3.toInt + 2)) e3 (by omega) (by omega), ?_⟩
  have z49 := i32 (xs (Int32.toNatClampNeg (v3 + 2)))
  refine ⟨vp_of (a := (v3.toInt + 3)) e5 (by omega) (by omega), ?_⟩
  have z50 := i32 (xs (Int32.toNatClampNeg (v3 + 3)))
  refine ⟨vp_of (a := (v3.toInt + 4)) e7 (by omega) (by omega), ?_⟩
  have z51 := i32 (xs (Int32.toNatClampNeg (v3 + 4)))
  refine ⟨vp_of (a := (v3.toInt + 5)) e9 (by omega) (by omega), ?_⟩
  have z52 := i32 (xs (Int32.toNatClampNeg (v3 + 5)))
  refine ⟨⟨hF0, rfl⟩, ?_⟩
  refine kp7 rfl hR0 rfl (kpA rfl (kpnm rfl hR0 rfl (kp102 rfl hR0 rfl (kpW9 rfl hR0 rfl (kx (mx_pour9 (K9.h60 k22 (RT.h60 hB0 hL2))) (kp6 rfl hR0 rfl (kp4 rfl (kp0 rfl (kp1 rfl (kp2 rfl (kp3 rfl (sp_X12_pour hB14 hR0 (fun x53 y58 I54 J55 hB56 p57 kq62 kq61 kq60 kq59 k63 k64 w70 w69 w68 w67 w66 w65 => ?_)))))))))))))
  intro o71
  have i72 := i32 x53
  have e73 : ((I54 3 1) : Int32).toInt = (I 3 1).toInt := Eq.trans (congrArg Int32.toInt (Eq.trans kq59 kq17)) rfl
  have kz74 : ((I54 3 1) : Int32).toInt = (I 3 1).toInt := e73
  have e75 : ((I54 97 8) : Int32).toInt = (I 97 8).toInt := Eq.trans (congrArg Int32.toInt (Eq.trans kq60 kq18)) rfl
  have kz76 : ((I54 97 8) : Int32).toInt = (I 97 8).toInt := e75
  have e77 : ((I54 1 13) : Int32).toInt = (I 1 13).toInt := Eq.trans (congrArg Int32.toInt (Eq.trans kq61 kq19)) rfl
  have kz78 : ((I54 1 13) : Int32).toInt = (I 1 13).toInt := e77
  have e79 : ((I54 97 23) : Int32).toInt = (I 97 23).toInt := Eq.trans (congrArg Int32.toInt (Eq.trans kq62 kq20)) rfl
  have kz80 : ((I54 97 23) : Int32).toInt = (I 97 23).toInt := e79
  exact hN _ _ R hB56 hR0 hF0 ⟨(Eq.trans (e73) (Eq.trans hL0 (Eq.symm (e75)))), (Eq.trans (e77) (Eq.trans hL1 (Eq.symm (e79)))), (RT.kp (RT.kp hL2 k21 k22) k63 (p57.2)), trivial⟩ (R3.kp (R3.kp hR3 w24 (by have ya : ((I12 3 1) : Int32).toInt = (I 3 1).toInt := e33; have yb : ((I 3 1) : Int32).toInt = (I 3 1).toInt := rfl; omega)) w65 (by have ya : ((I54 3 1) : Int32).toInt = (I 3 1).toInt := e73; have yb : ((I12 3 1) : Int32).toInt = (I 3 1).toInt := e33; omega)) (RM.kp hR0 (RM.kp hR0 hRM ⟨w25, w26, (fun j _ => congrFun w27.1 j)⟩) ⟨w66, w67, (fun j _ => congrFun w68.1 j)⟩) trivial (W9.kp hR0 (W9.kp hR0 hW9 w28 w27.1 w25.2) w69 w68.1 w66.2) (TQ9.pour2 hL2 hTQ k22 (p57.2) (RT.h60 hB0 hL2) w29 w70)
set_option maxRecDepth 100000 in
set_option maxHeartbeats 2000000 in
theorem lc_7 {Q : Nat → Qt} {P : Kt} {L : Nat} {xs : Nat → Int32} (hc : Cl (AM 640) false true L xs 2 112 kL_law Q P) (hL : L ≤ 3584) {v3 : Int32} {I : Im} {J : Jm} {R : Rm} (hB0 : Bd I) (hR0 : RI R) (hF0 : Fl R) (hL0 : (I 3 1).toInt = (I 97 8).toInt) (hL1 : (I 1 13).toInt = (I 97 23).toInt) (hL2 : RT I) (hL3 : True) (hR3 : R3 I J) (hRM : RM I J R) (hFQ : True) (hW9 : W9 I R) (hTQ : TQ9 I J) (h0 : 0 ≤ v3.toInt) (h7 : v3.toInt + 7 ≤ (L : Int)) (hN : ∀ (I : Im) (J : Jm) (R : Rm), Bd I → RI R → Fl R → RLz I → R3 I J → RM I J R → True → W9 I R → TQ9 I J → P 1889 112 [(0, .ref 0), (1, .ref 1), (2, .ref 97), (3, .int v3)] [] I J R) : P 495 112 [(0, .ref 0), (1, .ref 1), (2, .ref 97), (3, .int v3)] [] I J R := by
  have i_v3 := i32 v3
  have e97 : I 97 8 = nI (fl I) := (Int32.toInt_inj.mp hL0).symm.trans (fl_bd hB0).1
  have b31 := Bd.o hB0 io9_112_3_6 bd9_6_1
  refine ls_495 hc v3 _ _ _ ?_
  have e1 : ((v3 + 1) : Int32).toInt = (v3.toInt) + (1) := ti_add rfl rfl (by omega)
  refine ⟨vp_of (a := (v3.toInt + 1)) e1 (by omega) (by omega), ?_⟩
  have z2 := i32 (xs (Int32.toNatClampNeg (v3 + 1)))
  have e3 : ((v3 + 2) : Int32).toInt = (v3.toInt) + (2) := ti_add rfl rfl (by omega)
  refine ⟨vp_of (a := (v3.toInt + 2)) e3 (by omega) (by omega), ?_⟩
  have z4 := i32 (xs (Int32.toNatClampNeg (v3 + 2)))
  have e5 : ((v3 + 3) : Int32).toInt = (v3.toInt) + (3) := ti_add rfl rfl (by omega)
  refine ⟨vp_of (a := (v3.toInt + 3)) e5 (by omega) (by omega), ?_⟩
  have z6 := i32 (xs (Int32.toNatClampNeg (v3 + 3)))
  have e7 : ((v3 + 4) : Int32).toInt = (v3.toInt) + (4) := ti_add rfl rfl (by omega)
  refine ⟨vp_of (a := (v3.toInt + 4)) e7 (by omega) (by omega), ?_⟩
  have z8 := i32 (xs (Int32.toNatClampNeg (v3 + 4)))
  have e9 : ((v3 + 5) : Int32).toInt = (v3.toInt) + (5) := ti_add rfl rfl (by omega)
  refine ⟨vp_of (a := (v3.toInt + 5)) e9 (by omega) (by omega), ?_⟩
  have z10 := i32 (xs (Int32.toNatClampNeg (v3 + 5)))
  refine ⟨⟨hF0, rfl⟩, ?_⟩
  refine kx (cx_feed hB0) (kpA rfl (kpnm rfl hR0 rfl (kp102 rfl hR0 rfl (kpW9 rfl hR0 rfl (kpT9 rfl hR0 rfl (kp6 rfl hR0 rfl (kp4 rfl (kp5 rfl hR0 rfl (kp1 rfl (kp2 rfl (kp3 rfl (sp_X11_feed hB0 hR0 (fun x11 y16 I12 J13 hB14 p15 kq19 kq18 kq17 k21 k20 k22 w28 w27 w26 w25 w24 w23 => ?_)))))))))))))
  have b29 := Bd.o hB0 io9_112_3_6 bd9_6_1
  have b30 := Bd.o hB14 io9_112_3_6 bd9_6_1
  have i31 := i32 x11
  have b32 := Bd.o hB0 io9_112_97_12 bd9_12_8
  have e33 : ((I12 97 8) : Int32).toInt = (I 97 8).toInt := Eq.trans (congrArg Int32.toInt kq17) rfl
  have kz34 : ((I12 97 8) : Int32).toInt = (I 97 8).toInt := e33
  have b35 := Bd.o hB0 io9_112_1_11 bd9_11_13
  have e36 : ((I12 1 13) : Int32).toInt = (I 1 13).toInt := Eq.trans (congrArg Int32.toInt kq18) rfl
  have kz37 : ((I12 1 13) : Int32).toInt = (I 1 13).toInt := e36
  have b38 := Bd.o hB0 io9_112_97_12 bd9_12_23
  have e39 : ((I12 97 23) : Int32).toInt = (I 97 23).toInt := Eq.trans (congrArg Int32.toInt kq19) rfl
  have kz40 : ((I12 97 23) : Int32).toInt = (I 97 23).toInt := e39
  refine ⟨vp_of (a := (v3.toInt + 1)) e1 (by omega) (by omega), ?_⟩
  have z41 := i32 (xs (Int32.toNatClampNeg (v3 + 1)))
  refine ⟨vp_of (a := (v3.toInt + 2)) e3 (by omega) (by omega), ?_⟩
  have z42 := i32 (xs (Int32.toNatClampNeg (v3 + 2)))
  refine ⟨vp_of (a := (v3.toInt + 3)) e5 (by omega) (by omega), ?_⟩
  have z43 := i32 (xs (Int32.toNatClampNeg (v3 + 3)))
  refine ⟨vp_of (a := (v3.toInt + 4)) e7 (by omega) (by omega), ?_⟩
  have z44 := i32 (xs (Int32.toNatClampNeg (v3 + 4)))
  refine ⟨vp_of (a := (v3.toInt + 5)) e9 (by omega) (by omega), ?_⟩
  have z45 := i32 (xs (Int32.toNatClampNeg (v3 + 5)))
  refine ⟨⟨hF0, rfl⟩, ?_⟩
  refine kx (mx_feed (f := fl I) ((w23.2.2.2).trans e97) (fl_bd hB0).2) (kpA rfl (kpnm rfl hR0 rfl (kp102 rfl hR0 rfl (kpW9 rfl hR0 rfl (kpT9 rfl hR0 rfl (kp6 rfl hR0 rfl (kp4 rfl (kp5 rfl hR0 rfl (kp0 rfl (kp2 rfl (kp3 rfl (sp_X12_feed hB14 hR0 (fun x46 y51 I47 J48 hB49 p50 kq54 kq53 kq52 k56 k55 k57 w63 w62 w61 w60 w59 w58 => ?_)))))))))))))
  have b64 := Bd.o hB49 io9_112_97_12 bd9_12_8
  have i65 := i32 x46
  have e66 : ((I47 3 1) : Int32).toInt = (I12 3 1).toInt := Eq.trans (congrArg Int32.toInt kq52) rfl
  have kz67 : ((I47 3 1) : Int32).toInt = (I12 3 1).toInt := e66
  have e68 : ((I47 1 13) : Int32).toInt = (I 1 13).toInt := Eq.trans (congrArg Int32.toInt (Eq.trans kq53 kq18)) rfl
  have kz69 : ((I47 1 13) : Int32).toInt = (I 1 13).toInt := e68
  have e70 : ((I47 97 23) : Int32).toInt = (I 97 23).toInt := Eq.trans (congrArg Int32.toInt (Eq.trans kq54 kq19)) rfl
  have kz71 : ((I47 97 23) : Int32).toInt = (I 97 23).toInt := e70
  have hr72 := R3.feed hR3 rfl w23 w58
  have hg73 : (x46 : Int32).toInt = (x11 : Int32).toInt := congrArg Int32.toInt hr72.2
  exact hN _ _ R hB49 hR0 hF0 ⟨(by have ya : ((I47 3 1) : Int32).toInt = (I12 3 1).toInt := e66; have yb : ((I47 97 8) : Int32).toInt = (I47 97 8).toInt := rfl; omega), (Eq.trans (e68) (Eq.trans hL1 (Eq.symm (e70)))), (RT.kp (RT.kp hL2 k20 k21) k55 k56), trivial⟩ (hr72.1) (RM.kp hR0 (RM.kp hR0 hRM ⟨w24, w25, (fun j _ => congrFun w26.1 j)⟩) ⟨w59, w60, (fun j _ => congrFun w61.1 j)⟩) trivial (W9.kp hR0 (W9.kp hR0 hW9 w27 w26.1 w24.2) w62 w61.1 w59.2) (TQ9.kp hTQ (KQ9.tr w28 w63) (k56.2.trans k21.2))
set_option maxRecDepth 100000 in
set_option maxHeartbeats 2000000 in
theorem lc_8 {Q : Nat → Qt} {P : Kt} {L : Nat} {xs : Nat → Int32} (hc : Cl (AM 640) false true L xs 2 112 kL_law Q P) (hL : L ≤ 3584) {v3 : Int32} {I : Im} {J : Jm} {R : Rm} (hB0 : Bd I) (hR0 : RI R) (hF0 : Fl R) (hL0 : (I 3 1).toInt = (I 97 8).toInt) (hL1 : (I 1 13).toInt = (I 97 23).toInt) (hL2 : RT I) (hL3 : True) (hR3 : R3 I J) (hRM : RM I J R) (hFQ : True) (hW9 : W9 I R) (hTQ : TQ9 I J) (h0 : 0 ≤ v3.toInt) (h7 : v3.toInt + 7 ≤ (L : Int)) (hN : ∀ (I : Im) (J : Jm) (R : Rm), Bd I → RI R → Fl R → RLz I → R3 I J → RM I J R → True → W9 I R → TQ9 I J → P 1889 112 [(0, .ref 0), (1, .ref 1), (2, .ref 97), (3, .int v3)] [] I J R) : P 558 112 [(0, .ref 0), (1, .ref 1), (2, .ref 97), (3, .int v3)] [] I J R := by
  have i_v3 := i32 v3
  have e97 : I 97 8 = nI (fl I) := (Int32.toInt_inj.mp hL0).symm.trans (fl_bd hB0).1
  have b31 := Bd.o hB0 io9_112_3_6 bd9_6_1
  refine ls_558 hc v3 _ _ _ ?_
  have e1 : ((v3 + 1) : Int32).toInt = (v3.toInt) + (1) := ti_add rfl rfl (by omega)
  refine ⟨vp_of (a := (v3.toInt + 1)) e1 (by omega) (by omega), ?_⟩
  have z2 := i32 (xs (Int32.toNatClampNeg (v3 + 1)))
  refine ⟨⟨hF0, rfl⟩, ?_⟩
  refine kx (cx_bakery hB0 hR0 hR3) (kx (cx_bakM hB0 hR0 hR3) (kpT9 rfl hR0 rfl (kx (cx_bak9 hB0 hR0 hR3) (kp6 rfl hR0 rfl (kp4 rfl (kp5 rfl hR0 rfl (kp1 rfl (kp2 rfl (kp3 rfl (sp_X11_bakery hB0 hR0 (fun x3 y4 I5 J6 R7 hB8 hR9 hL10 p11 kq14 kq13 kq12 k16 k15 k17 w21 w20 w19 w18 => ?_)))))))))))
  have b22 := Bd.o hB8 io9_112_3_6 bd9_6_1
  have b23 := Bd.o hB0 io9_112_97_12 bd9_12_8
  have e24 : ((I5 97 8) : Int32).toInt = (I 97 8).toInt := Eq.trans (congrArg Int32.toInt kq12) rfl
  have kz25 : ((I5 97 8) : Int32).toInt = (I 97 8).toInt := e24
  have b26 := Bd.o hB0 io9_112_1_11 bd9_11_13
  have e27 : ((I5 1 13) : Int32).toInt = (I 1 13).toInt := Eq.trans (congrArg Int32.toInt kq13) rfl
  have kz28 : ((I5 1 13) : Int32).toInt = (I 1 13).toInt := e27
  have b29 := Bd.o hB0 io9_112_97_12 bd9_12_23
  have e30 : ((I5 97 23) : Int32).toInt = (I 97 23).toInt := Eq.trans (congrArg Int32.toInt kq14) rfl
  have kz31 : ((I5 97 23) : Int32).toInt = (I 97 23).toInt := e30
  refine ⟨vp_of (a := (v3.toInt + 1)) e1 (by omega) (by omega), ?_⟩
  have z32 := i32 (xs (Int32.toNatClampNeg (v3 + 1)))
  refine ⟨⟨(hL10 hF0), rfl⟩, ?_⟩
  refine kx (mx_bakery (f := fl I) (T := I 4) ((kq12).trans e97) (fl_bd hB0).2 hR3.1 (fun i hi => (congrFun w18.2.2.1 i).trans (hR3.2.1 i hi).symm)) (kx (mx_bakM (f := fl I) (T := I 4) ((kq12).trans e97) (fl_bd hB0).2 hR3.1 (fun i hi => (congrFun w18.2.2.1 i).trans (hR3.2.1 i hi).symm)) (kx (mx_bak9 (f := fl I) (T := I 4) hR0 hW9 ((kq12).trans e97) (fl_bd hB0).2 hR3.1 (fun i hi => (congrFun w18.2.2.1 i).trans (hR3.2.1 i hi).symm) w21) (kpT9 rfl hR9 rfl (kp6 rfl hR9 rfl (kp4 rfl (kp5 rfl hR9 rfl (kp0 rfl (kp2 rfl (kp3 rfl (sp_X12_bakery hB8 hR9 (fun x33 y38 I34 J35 hB36 p37 kq41 kq40 kq39 k43 k42 k44 w48 w47 w46 w45 => ?_)))))))))))
  have b49 := Bd.o hB36 io9_112_97_12 bd9_12_8
  have i50 := i32 x33
  have e51 : ((I34 3 1) : Int32).toInt = (I5 3 1).toInt := Eq.trans (congrArg Int32.toInt kq39) rfl
  have kz52 : ((I34 3 1) : Int32).toInt = (I5 3 1).toInt := e51
  have e53 : ((I34 1 13) : Int32).toInt = (I 1 13).toInt := Eq.trans (congrArg Int32.toInt (Eq.trans kq40 kq13)) rfl
  have kz54 : ((I34 1 13) : Int32).toInt = (I 1 13).toInt := e53
  have e55 : ((I34 97 23) : Int32).toInt = (I 97 23).toInt := Eq.trans (congrArg Int32.toInt (Eq.trans kq41 kq14)) rfl
  have kz56 : ((I34 97 23) : Int32).toInt = (I 97 23).toInt := e55
  have hr57 := HB.eq (fl_bd hB0).2 w18.1 w45.1
  have hg58 : (x33 : Int32).toInt = (x3 : Int32).toInt := congrArg Int32.toInt hr57
  have hr59 := RM.bak (fl_bd hB0).2 hR0 hRM w19 w46
  exact hN _ _ R7 hB36 hR9 (hL10 hF0) ⟨(by have ya : ((I34 3 1) : Int32).toInt = (I5 3 1).toInt := e51; have yb : ((I34 97 8) : Int32).toInt = (I34 97 8).toInt := rfl; omega), (Eq.trans (e53) (Eq.trans hL1 (Eq.symm (e55)))), (RT.kp (RT.kp hL2 k15 k16) k42 k43), trivial⟩ (R3.kp (R3.kp hR3 w18.2 (HB.le (b31.1) w18.1)) w45.2.1 (Int.le_of_eq (congrArg Int32.toInt w45.2.2))) hr59 trivial (w47 rfl) (TQ9.kp hTQ (KQ9.tr w20 w48) (k43.2.trans k16.2))
set_option maxRecDepth 100000 in
set_option maxHeartbeats 2000000 in
theorem lc_9 {Q : Nat → Qt} {P : Kt} {L : Nat} {xs : Nat → Int32} (hc : Cl (AM 640) false true L xs 2 112 kL_law Q P) (hL : L ≤ 3584) {v3 : Int32} {I : Im} {J : Jm} {R : Rm} (hB0 : Bd I) (hR0 : RI R) (hF0 : Fl R) (hL0 : (I 3 1).toInt = (I 97 8).toInt) (hL1 : (I 1 13).toInt = (I 97 23).toInt) (hL2 : RT I) (hL3 : True) (hR3 : R3 I J) (hRM : RM I J R) (hFQ : True) (hW9 : W9 I R) (hTQ : TQ9 I J) (h0 : 0 ≤ v3.toInt) (h7 : v3.toInt + 7 ≤ (L : Int)) (hN : ∀ (I : Im) (J : Jm) (R : Rm), Bd I → RI R → Fl R → RLz I → R3 I J → RM I J R → True → W9 I R → TQ9 I J → P 1889 112 [(0, .ref 0), (1, .ref 1), (2, .ref 97), (3, .int v3)] [] I J R) : P 581 112 [(0, .ref 0), (1, .ref 1), (2, .ref 97), (3, .int v3)] [] I J R := by
  have i_v3 := i32 v3
  have e97 : I 97 8 = nI (fl I) := (Int32.toInt_inj.mp hL0).symm.trans (fl_bd hB0).1
  have b31 := Bd.o hB0 io9_112_3_6 bd9_6_1
  refine ls_581 hc v3 _ _ _ ?_
  have e1 : ((v3 + 1) : Int32).toInt = (v3.toInt) + (1) := ti_add rfl rfl (by omega)
  refine ⟨vp_of (a := (v3.toInt + 1)) e1 (by omega) (by omega), ?_⟩
  have z2 := i32 (xs (Int32.toNatClampNeg (v3 + 1)))
  refine ⟨⟨hF0, rfl⟩, ?_⟩
  refine kt7 rfl (kpA rfl (kpnm rfl hR0 rfl (kp102 rfl hR0 rfl (kpT9 rfl hR0 rfl (kx (cx_day9 hB0 hR0 hR3 (RM.mnA hB0 hRM)) (kp6 rfl hR0 rfl (kp4 rfl (kp5 rfl hR0 rfl (kp1 rfl (kp2 rfl (kp3 rfl (sp_X11_days hB0 hR0 (fun x3 y4 I5 J6 R7 hB8 hR9 hL10 p11 rr24 kq14 kq13 kq12 k16 k15 k17 w23 w22 w21 w20 w19 w18 => ?_)))))))))))))
  have b25 := Bd.o hB8 io9_112_3_6 bd9_6_1
  have b26 := Bd.o hB0 io9_112_97_12 bd9_12_8
  have e27 : ((I5 97 8) : Int32).toInt = (I 97 8).toInt := Eq.trans (congrArg Int32.toInt kq12) rfl
  have kz28 : ((I5 97 8) : Int32).toInt = (I 97 8).toInt := e27
  have b29 := Bd.o hB0 io9_112_1_11 bd9_11_13
  have e30 : ((I5 1 13) : Int32).toInt = (I 1 13).toInt := Eq.trans (congrArg Int32.toInt kq13) rfl
  have kz31 : ((I5 1 13) : Int32).toInt = (I 1 13).toInt := e30
  have b32 := Bd.o hB0 io9_112_97_12 bd9_12_23
  have e33 : ((I5 97 23) : Int32).toInt = (I 97 23).toInt := Eq.trans (congrArg Int32.toInt kq14) rfl
  have kz34 : ((I5 97 23) : Int32).toInt = (I 97 23).toInt := e33
  refine ⟨vp_of (a := (v3.toInt + 1)) e1 (by omega) (by omega), ?_⟩
  have z35 := i32 (xs (Int32.toNatClampNeg (v3 + 1)))
  refine ⟨⟨(hL10 hF0), rfl⟩, ?_⟩
  refine kt7 rfl (kpA rfl (kpnm rfl hR9 rfl (kx (mx_day9 (f := fl I) (T := I 4) hR0 hW9 ((kq12).trans e97) (fl_bd hB0).2 hR3.1 (fun i hi => (congrFun w18.2.1 i).trans (hR3.2.1 i hi).symm) (RM.mnR hB0 (congrFun w21.1 0) (w20.2.2.2.2.2)) w23) (kpN9 rfl (kp6 rfl hR9 rfl (kp4 rfl (kp5 rfl hR9 rfl (kp0 rfl (kp2 rfl (kp3 rfl (sp_X12_days hB8 hR9 (fun x36 y41 I37 J38 hB39 p40 kq44 kq43 kq42 k46 k45 k47 w52 w51 w50 w49 w48 => ?_))))))))))))
  have f53 : Fr pK I5 I37 := p40.1
  have b54 := Bd.o hB39 io9_112_97_12 bd9_12_8
  have i55 := i32 x36
  have e56 : ((I37 3 1) : Int32).toInt = (I5 3 1).toInt := Eq.trans (congrArg Int32.toInt kq42) rfl
  have kz57 : ((I37 3 1) : Int32).toInt = (I5 3 1).toInt := e56
  have e58 : ((I37 1 13) : Int32).toInt = (I 1 13).toInt := Eq.trans (congrArg Int32.toInt (Eq.trans kq43 kq13)) rfl
  have kz59 : ((I37 1 13) : Int32).toInt = (I 1 13).toInt := e58
  have e60 : ((I37 97 23) : Int32).toInt = (I 97 23).toInt := Eq.trans (congrArg Int32.toInt (Eq.trans kq44 kq14)) rfl
  have kz61 : ((I37 97 23) : Int32).toInt = (I 97 23).toInt := e60
  exact hN _ _ R7 hB39 hR9 (hL10 hF0) ⟨(by have ya : ((I37 3 1) : Int32).toInt = (I5 3 1).toInt := e56; have yb : ((I37 97 8) : Int32).toInt = (I37 97 8).toInt := rfl; omega), (Eq.trans (e58) (Eq.trans hL1 (Eq.symm (e60)))), (RT.kp (RT.kp hL2 k15 k16) k45 k46), trivial⟩ (R3.kp (R3.kp hR3 w18 (by have := p11; omega)) w48 (by have ya : ((I37 3 1) : Int32).toInt = (I5 3 1).toInt := e56; have yb : ((I5 3 1) : Int32).toInt = (I5 3 1).toInt := rfl; omega)) (RM.kp hR9 (RM.r (RM.kp hR0 hRM ⟨w19, w20, (fun j _ => congrFun w21.1 j)⟩) rr24.1) ⟨w49, w50, (fun j hj => f53.1 j hj)⟩) trivial (w51 rfl) (TQ9.kp hTQ (KQ9.tr w22 w52) (k46.2.trans k16.2))
set_option maxRecDepth 100000 in
set_option maxHeartbeats 2000000 in
theorem lc_10 {Q : Nat → Qt} {P : Kt} {L : Nat} {xs : Nat → Int32} (hc : Cl (AM 640) false true L xs 2 112 kL_law Q P) (hL : L ≤ 3584) {v3 : Int32} {I : Im} {J : Jm} {R : Rm} (hB0 : Bd I) (hR0 : RI R) (hF0 : Fl R) (hL0 : (I 3 1).toInt = (I 97 8).toInt) (hL1 : (I 1 13).toInt = (I 97 23).toInt) (hL2 : RT I) (hL3 : True) (hR3 : R3 I J) (hRM : RM I J R) (hFQ : True) (hW9 : W9 I R) (hTQ : TQ9 I J) (h0 : 0 ≤ v3.toInt) (h7 : v3.toInt + 7 ≤ (L : Int)) (hN : ∀ (I : Im) (J : Jm) (R : Rm), Bd I → RI R → Fl R → RLz I → R3 I J → RM I J R → True → W9 I R → TQ9 I J → P 1889 112 [(0, .ref 0), (1, .ref 1), (2, .ref 97), (3, .int v3)] [] I J R) : P 604 112 [(0, .ref 0), (1, .ref 1), (2, .ref 97), (3, .int v3)] [] I J R := by
  have i_v3 := i32 v3
  have e97 : I 97 8 = nI (fl I) := (Int32.toInt_inj.mp hL0).symm.trans (fl_bd hB0).1
  have b31 := Bd.o hB0 io9_112_3_6 bd9_6_1
  refine ls_604 hc v3 _ _ _ ?_
  have e1 : ((v3 + 1) : Int32).toInt = (v3.toInt) + (1) := ti_add rfl rfl (by omega)
  refine ⟨vp_of (a := (v3.toInt + 1)) e1 (by omega) (by omega), ?_⟩
  have z2 := i32 (xs (Int32.toNatClampNeg (v3 + 1)))
  refine ⟨⟨hF0, rfl⟩, ?_⟩
  refine kp7 rfl hR0 rfl (kpA rfl (kpnm rfl hR0 rfl (kp102 rfl hR0 rfl (kpW9 rfl hR0 rfl (kpN9 rfl (kp6 rfl hR0 rfl (kp4 rfl (kp5 rfl hR0 rfl (kp0 rfl (kp1 rfl (kp2 rfl (kp3 rfl (sp_X11_fault hB0 hR0 (fun x3 y8 I4 J5 hB6 p7 kq12 kq11 kq10 kq9 k14 k13 k15 w21 w20 w19 w18 w17 w16 => ?_))))))))))))))
  have i22 := i32 x3
  have b23 := Bd.o hB0 io9_112_3_6 bd9_6_1
  have e24 : ((I4 3 1) : Int32).toInt = (I 3 1).toInt := Eq.trans (congrArg Int32.toInt kq9) rfl
  have kz25 : ((I4 3 1) : Int32).toInt = (I 3 1).toInt := e24
  have b26 := Bd.o hB0 io9_112_97_12 bd9_12_8
  have e27 : ((I4 97 8) : Int32).toInt = (I 97 8).toInt := Eq.trans (congrArg Int32.toInt kq10) rfl
  have kz28 : ((I4 97 8) : Int32).toInt = (I 97 8).toInt := e27
  have b29 := Bd.o hB0 io9_112_1_11 bd9_11_13
  have e30 : ((I4 1 13) : Int32).toInt = (I 1 13).toInt := Eq.trans (congrArg Int32.toInt kq11) rfl
  have kz31 : ((I4 1 13) : Int32).toInt = (I 1 13).toInt := e30
  have b32 := Bd.o hB0 io9_112_97_12 bd9_12_23
  have e33 : ((I4 97 23) : Int32).toInt = (I 97 23).toInt := Eq.trans (congrArg Int32.toInt kq12) rfl
  have kz34 : ((I4 97 23) : Int32).toInt = (I 97 23).toInt := e33
  refine ⟨vp_of (a := (v3.toInt + 1)) e1 (by omega) (by omega), ?_⟩
  have z35 := i32 (xs (Int32.toNatClampNeg (v3 + 1)))
  refine ⟨⟨hF0, rfl⟩, ?_⟩
  refine kp7 rfl hR0 rfl (kpA rfl (kpnm rfl hR0 rfl (kp102 rfl hR0 rfl (kpW9 rfl hR0 rfl (kpN9 rfl (kp6 rfl hR0 rfl (kp4 rfl (kp5 rfl hR0 rfl (kp0 rfl (kp1 rfl (kp2 rfl (kp3 rfl (sp_X12_fault hB6 hR0 (fun x36 y41 I37 J38 hB39 p40 kq45 kq44 kq43 kq42 k47 k46 k48 w54 w53 w52 w51 w50 w49 => ?_))))))))))))))
  have i55 := i32 x36
  have e56 : ((I37 3 1) : Int32).toInt = (I 3 1).toInt := Eq.trans (congrArg Int32.toInt (Eq.trans kq42 kq9)) rfl
  have kz57 : ((I37 3 1) : Int32).toInt = (I 3 1).toInt := e56
  have e58 : ((I37 97 8) : Int32).toInt = (I 97 8).toInt := Eq.trans (congrArg Int32.toInt (Eq.trans kq43 kq10)) rfl
  have kz59 : ((I37 97 8) : Int32).toInt = (I 97 8).toInt := e58
  have e60 : ((I37 1 13) : Int32).toInt = (I 1 13).toInt := Eq.trans (congrArg Int32.toInt (Eq.trans kq44 kq11)) rfl
  have kz61 : ((I37 1 13) : Int32).toInt = (I 1 13).toInt := e60
  have e62 : ((I37 97 23) : Int32).toInt = (I 97 23).toInt := Eq.trans (congrArg Int32.toInt (Eq.trans kq45 kq12)) rfl
  have kz63 : ((I37 97 23) : Int32).toInt = (I 97 23).toInt := e62
  exact hN _ _ R hB39 hR0 hF0 ⟨(Eq.trans (e56) (Eq.trans hL0 (Eq.symm (e58)))), (Eq.trans (e60) (Eq.trans hL1 (Eq.symm (e62)))), (RT.kp (RT.kp hL2 k13 k14) k46 k47), trivial⟩ (R3.kp (R3.kp hR3 w16 (by have ya : ((I4 3 1) : Int32).toInt = (I 3 1).toInt := e24; have yb : ((I 3 1) : Int32).toInt = (I 3 1).toInt := rfl; omega)) w49 (by have ya : ((I37 3 1) : Int32).toInt = (I 3 1).toInt := e56; have yb : ((I4 3 1) : Int32).toInt = (I 3 1).toInt := e24; omega)) (RM.kp hR0 (RM.kp hR0 hRM ⟨w17, w18, (fun j _ => congrFun w19.1 j)⟩) ⟨w50, w51, (fun j _ => congrFun w52.1 j)⟩) trivial (W9.kp hR0 (W9.kp hR0 hW9 w20 w19.1 w17.2) w53 w52.1 w50.2) (TQ9.kp hTQ (KQ9.tr w21 w54) (k47.2.trans k14.2))
set_option maxRecDepth 100000 in
set_option maxHeartbeats 2000000 in
theorem lc_11 {Q : Nat → Qt} {P : Kt} {L : Nat} {xs : Nat → Int32} (hc : Cl (AM 640) false true L xs 2 112 kL_law Q P) (hL : L ≤ 3584) {v3 : Int32} {I : Im} {J : Jm} {R : Rm} (hB0 : Bd I) (hR0 : RI R) (hF0 : Fl R) (hL0 : (I 3 1).toInt = (I 97 8).toInt) (hL1 : (I 1 13).toInt = (I 97 23).toInt) (hL2 : RT I) (hL3 : True) (hR3 : R3 I J) (hRM : RM I J R) (hFQ : True) (hW9 : W9 I R) (hTQ : TQ9 I J) (h0 : 0 ≤ v3.toInt) (h7 : v3.toInt + 7 ≤ (L : Int)) (hN : ∀ (I : Im) (J : Jm) (R : Rm), Bd I → RI R → Fl R → RLz I → R3 I J → RM I J R → True → W9 I R → TQ9 I J → P 1889 112 [(0, .ref 0), (1, .ref 1), (2, .ref 97), (3, .int v3)] [] I J R) : P 627 112 [(0, .ref 0), (1, .ref 1), (2, .ref 97), (3, .int v3)] [] I J R := by
  have i_v3 := i32 v3
  have e97 : I 97 8 = nI (fl I) := (Int32.toInt_inj.mp hL0).symm.trans (fl_bd hB0).1
  have b31 := Bd.o hB0 io9_112_3_6 bd9_6_1
  refine ls_627 hc v3 _ _ _ ?_
  have e1 : ((v3 + 1) : Int32).toInt = (v3.toInt) + (1) := ti_add rfl rfl (by omega)
  refine ⟨vp_of (a := (v3.toInt + 1)) e1 (by omega) (by omega), ?_⟩
  have z2 := i32 (xs (Int32.toNatClampNeg (v3 + 1)))
  refine ⟨⟨hF0, rfl⟩, ?_⟩
  refine kp7 rfl hR0 rfl (kpA rfl (kpnm rfl hR0 rfl (kp102 rfl hR0 rfl (kpW9 rfl hR0 rfl (kpN9 rfl (kp6 rfl hR0 rfl (kp4 rfl (kp5 rfl hR0 rfl (kp0 rfl (kp1 rfl (kp2 rfl (kp3 rfl (sp_X11_many hB0 hR0 (fun x3 y8 I4 J5 hB6 p7 kq12 kq11 kq10 kq9 k14 k13 k15 w21 w20 w19 w18 w17 w16 => ?_))))))))))))))
  have i22 := i32 x3
  have b23 := Bd.o hB0 io9_112_3_6 bd9_6_1
  have e24 : ((I4 3 1) : Int32).toInt = (I 3 1).toInt := Eq.trans (congrArg Int32.toInt kq9) rfl
  have kz25 : ((I4 3 1) : Int32).toInt = (I 3 1).toInt := e24
  have b26 := Bd.o hB0 io9_112_97_12 bd9_12_8
  have e27 : ((I4 97 8) : Int32).toInt = (I 97 8).toInt := Eq.trans (congrArg Int32.toInt kq10) rfl
  have kz28 : ((I4 97 8) : Int32).toInt = (I 97 8).toInt := e27
  have b29 := Bd.o hB0 io9_112_1_11 bd9_11_13
  have e30 : ((I4 1 13) : Int32).toInt = (I 1 13).toInt := Eq.trans (congrArg Int32.toInt kq11) rfl
  have kz31 : ((I4 1 13) : Int32).toInt = (I 1 13).toInt := e30
  have b32 := Bd.o hB0 io9_112_97_12 bd9_12_23
  have e33 : ((I4 97 23) : Int32).toInt = (I 97 23).toInt := Eq.trans (congrArg Int32.toInt kq12) rfl
  have kz34 : ((I4 97 23) : Int32).toInt = (I 97 23).toInt := e33
  refine ⟨vp_of (a := (v3.toInt + 1)) e1 (by omega) (by omega), ?_⟩
  have z35 := i32 (xs (Int32.toNatClampNeg (v3 + 1)))
  refine ⟨⟨hF0, rfl⟩, ?_⟩
  refine kp7 rfl hR0 rfl (kpA rfl (kpnm rfl hR0 rfl (kti rfl (kpW9 rfl hR0 rfl (kpN9 rfl (kp6 rfl hR0 rfl (kp4 rfl (kp5 rfl hR0 rfl (kp0 rfl (kp1 rfl (kp2 rfl (kp3 rfl (sp_X12_many hB6 hR0 (fun x36 y41 I37 J38 hB39 p40 kq45 kq44 kq43 kq42 k47 k46 k48 w54 w53 w52 w51 w50 w49 => ?_))))))))))))))
  have i55 := i32 x36
  have e56 : ((I37 3 1) : Int32).toInt = (I 3 1).toInt := Eq.trans (congrArg Int32.toInt (Eq.trans kq42 kq9)) rfl
  have kz57 : ((I37 3 1) : Int32).toInt = (I 3 1).toInt := e56
  have e58 : ((I37 97 8) : Int32).toInt = (I 97 8).toInt := Eq.trans (congrArg Int32.toInt (Eq.trans kq43 kq10)) rfl
  have kz59 : ((I37 97 8) : Int32).toInt = (I 97 8).toInt := e58
  have e60 : ((I37 1 13) : Int32).toInt = (I 1 13).toInt := Eq.trans (congrArg Int32.toInt (Eq.trans kq44 kq11)) rfl
  have kz61 : ((I37 1 13) : Int32).toInt = (I 1 13).toInt := e60
  have e62 : ((I37 97 23) : Int32).toInt = (I 97 23).toInt := Eq.trans (congrArg Int32.toInt (Eq.trans kq45 kq12)) rfl
  have kz63 : ((I37 97 23) : Int32).toInt = (I 97 23).toInt := e62
  exact hN _ _ R hB39 hR0 hF0 ⟨(Eq.trans (e56) (Eq.trans hL0 (Eq.symm (e58)))), (Eq.trans (e60) (Eq.trans hL1 (Eq.symm (e62)))), (RT.kp (RT.kp hL2 k13 k14) k46 k47), trivial⟩ (R3.kp (R3.kp hR3 w16 (by have ya : ((I4 3 1) : Int32).toInt = (I 3 1).toInt := e24; have yb : ((I 3 1) : Int32).toInt = (I 3 1).toInt := rfl; omega)) w49 (by have ya : ((I37 3 1) : Int32).toInt = (I 3 1).toInt := e56; have yb : ((I4 3 1) : Int32).toInt = (I 3 1).toInt := e24; omega)) (RM.kp hR0 (RM.kp hR0 hRM ⟨w17, w18, (fun j _ => congrFun w19.1 j)⟩) ⟨w50, w51, (fun j _ => congrFun w52 j)⟩) trivial (W9.kp hR0 (W9.kp hR0 hW9 w20 w19.1 w17.2) w53 w52 w50.2) (TQ9.kp hTQ (KQ9.tr w21 w54) (k47.2.trans k14.2))
set_option maxRecDepth 100000 in
set_option maxHeartbeats 2000000 in
theorem lc_12 {Q : Nat → Qt} {P : Kt} {L : Nat} {xs : Nat → Int32} (hc : Cl (AM 640) false true L xs 2 112 kL_law Q P) (hL : L ≤ 3584) {v3 : Int32} {I : Im} {J : Jm} {R : Rm} (hB0 : Bd I) (hR0 : RI R) (hF0 : Fl R) (hL0 : (I 3 1).toInt = (I 97 8).toInt) (hL1 : (I 1 13).toInt = (I 97 23).toInt) (hL2 : RT I) (hL3 : True) (hR3 : R3 I J) (hRM : RM I J R) (hFQ : True) (hW9 : W9 I R) (hTQ : TQ9 I J) (h0 : 0 ≤ v3.toInt) (h7 : v3.toInt + 7 ≤ (L : Int)) (hN : ∀ (I : Im) (J : Jm) (R : Rm), Bd I → RI R → Fl R → RLz I → R3 I J → RM I J R → True → W9 I R → TQ9 I J → P 1889 112 [(0, .ref 0), (1, .ref 1), (2, .ref 97), (3, .int v3)] [] I J R) : P 650 112 [(0, .ref 0), (1, .ref 1), (2, .ref 97), (3, .int v3)] [] I J R := by
  have i_v3 := i32 v3
  have e97 : I 97 8 = nI (fl I) := (Int32.toInt_inj.mp hL0).symm.trans (fl_bd hB0).1
  have b31 := Bd.o hB0 io9_112_3_6 bd9_6_1
  refine ls_650 hc v3 _ _ _ ?_
  have e1 : ((v3 + 1) : Int32).toInt = (v3.toInt) + (1) := ti_add rfl rfl (by omega)
  refine ⟨vp_of (a := (v3.toInt + 1)) e1 (by omega) (by omega), ?_⟩
  have z2 := i32 (xs (Int32.toNatClampNeg (v3 + 1)))
  refine ⟨⟨hF0, rfl⟩, ?_⟩
  refine kp7 rfl hR0 rfl (kpA rfl (kpnm rfl hR0 rfl (kp102 rfl hR0 rfl (kpX9 rfl rfl (kpN9 rfl (kp6 rfl hR0 rfl (kp4 rfl (kp5 rfl hR0 rfl (kp0 rfl (kp1 rfl (kp2 rfl (kp3 rfl (sp_X11_store hB0 hR0 (fun x3 y8 I4 J5 hB6 p7 kq12 kq11 kq10 kq9 k14 k13 k15 w21 w20 w19 w18 w17 w16 => ?_))))))))))))))
  have i22 := i32 x3
  have b23 := Bd.o hB0 io9_112_3_6 bd9_6_1
  have e24 : ((I4 3 1) : Int32).toInt = (I 3 1).toInt := Eq.trans (congrArg Int32.toInt kq9) rfl
  have kz25 : ((I4 3 1) : Int32).toInt = (I 3 1).toInt := e24
  have b26 := Bd.o hB0 io9_112_97_12 bd9_12_8
  have e27 : ((I4 97 8) : Int32).toInt = (I 97 8).toInt := Eq.trans (congrArg Int32.toInt kq10) rfl
  have kz28 : ((I4 97 8) : Int32).toInt = (I 97 8).toInt := e27
  have b29 := Bd.o hB0 io9_112_1_11 bd9_11_13
  have e30 : ((I4 1 13) : Int32).toInt = (I 1 13).toInt := Eq.trans (congrArg Int32.toInt kq11) rfl
  have kz31 : ((I4 1 13) : Int32).toInt = (I 1 13).toInt := e30
  have b32 := Bd.o hB0 io9_112_97_12 bd9_12_23
  have e33 : ((I4 97 23) : Int32).toInt = (I 97 23).toInt := Eq.trans (congrArg Int32.toInt kq12) rfl
  have kz34 : ((I4 97 23) : Int32).toInt = (I 97 23).toInt := e33
  refine ⟨vp_of (a := (v3.toInt + 1)) e1 (by omega) (by omega), ?_⟩
  have z35 := i32 (xs (Int32.toNatClampNeg (v3 + 1)))
  refine ⟨⟨hF0, rfl⟩, ?_⟩
  refine kp7 rfl hR0 rfl (kpA rfl (kpnm rfl hR0 rfl (kti rfl (kpW9 rfl hR0 rfl (kpN9 rfl (kp6 rfl hR0 rfl (kp4 rfl (kp5 rfl hR0 rfl (kp0 rfl (kp1 rfl (kp2 rfl (kp3 rfl (sp_X12_store hB6 hR0 (fun x36 y41 I37 J38 hB39 p40 kq45 kq44 kq43 kq42 k47 k46 k48 w54 w53 w52 w51 w50 w49 => ?_))))))))))))))
  have i55 := i32 x36
  have e56 : ((I37 3 1) : Int32).toInt = (I 3 1).toInt := Eq.trans (congrArg Int32.toInt (Eq.trans kq42 kq9)) rfl
  have kz57 : ((I37 3 1) : Int32).toInt = (I 3 1).toInt := e56
  have e58 : ((I37 97 8) : Int32).toInt = (I 97 8).toInt := Eq.trans (congrArg Int32.toInt (Eq.trans kq43 kq10)) rfl
  have kz59 : ((I37 97 8) : Int32).toInt = (I 97 8).toInt := e58
  have e60 : ((I37 1 13) : Int32).toInt = (I 1 13).toInt := Eq.trans (congrArg Int32.toInt (Eq.trans kq44 kq11)) rfl
  have kz61 : ((I37 1 13) : Int32).toInt = (I 1 13).toInt := e60
  have e62 : ((I37 97 23) : Int32).toInt = (I 97 23).toInt := Eq.trans (congrArg Int32.toInt (Eq.trans kq45 kq12)) rfl
  have kz63 : ((I37 97 23) : Int32).toInt = (I 97 23).toInt := e62
  exact hN _ _ R hB39 hR0 hF0 ⟨(Eq.trans (e56) (Eq.trans hL0 (Eq.symm (e58)))), (Eq.trans (e60) (Eq.trans hL1 (Eq.symm (e62)))), (RT.kp (RT.kp hL2 k13 k14) k46 k47), trivial⟩ (R3.kp (R3.kp hR3 w16 (by have ya : ((I4 3 1) : Int32).toInt = (I 3 1).toInt := e24; have yb : ((I 3 1) : Int32).toInt = (I 3 1).toInt := rfl; omega)) w49 (by have ya : ((I37 3 1) : Int32).toInt = (I 3 1).toInt := e56; have yb : ((I4 3 1) : Int32).toInt = (I 3 1).toInt := e24; omega)) (RM.kp hR0 (RM.kp hR0 hRM ⟨w17, w18, (fun j _ => congrFun w19.1 j)⟩) ⟨w50, w51, (fun j _ => congrFun w52 j)⟩) trivial (W9.kp hR0 (W9.kp hR0 hW9 w20 w19.1 w17.2) w53 w52 w50.2) (TQ9.kp hTQ (KQ9.tr w21 w54) (k47.2.trans k14.2))
set_option maxRecDepth 100000 in
set_option maxHeartbeats 2000000 in
theorem lc_13 {Q : Nat → Qt} {P : Kt} {L : Nat} {xs : Nat → Int32} (hc : Cl (AM 640) false true L xs 2 112 kL_law Q P) (hL : L ≤ 3584) {v3 : Int32} {I : Im} {J : Jm} {R : Rm} (hB0 : Bd I) (hR0 : RI R) (hF0 : Fl R) (hL0 : (I 3 1).toInt = (I 97 8).toInt) (hL1 : (I 1 13).toInt = (I 97 23).toInt) (hL2 : RT I) (hL3 : True) (hR3 : R3 I J) (hRM : RM I J R) (hFQ : True) (hW9 : W9 I R) (hTQ : TQ9 I J) (h0 : 0 ≤ v3.toInt) (h7 : v3.toInt + 7 ≤ (L : Int)) (hN : ∀ (I : Im) (J : Jm) (R : Rm), Bd I → RI R → Fl R → RLz I → R3 I J → RM I J R → True → W9 I R → TQ9 I J → P 1889 112 [(0, .ref 0), (1, .ref 1), (2, .ref 97), (3, .int v3)] [] I J R) : P 673 112 [(0, .ref 0), (1, .ref 1), (2, .ref 97), (3, .int v3)] [] I J R := by
  have i_v3 := i32 v3
  have e97 : I 97 8 = nI (fl I) := (Int32.toInt_inj.mp hL0).symm.trans (fl_bd hB0).1
  have b31 := Bd.o hB0 io9_112_3_6 bd9_6_1
  refine ls_673 hc v3 _ _ _ ?_
  have e1 : ((v3 + 1) : Int32).toInt = (v3.toInt) + (1) := ti_add rfl rfl (by omega)
  refine ⟨vp_of (a := (v3.toInt + 1)) e1 (by omega) (by omega), ?_⟩
  have z2 := i32 (xs (Int32.toNatClampNeg (v3 + 1)))
  have e3 : ((v3 + 2) : Int32).toInt = (v3.toInt) + (2) := ti_add rfl rfl (by omega)
  refine ⟨vp_of (a := (v3.toInt + 2)) e3 (by omega) (by omega), ?_⟩
  have z4 := i32 (xs (Int32.toNatClampNeg (v3 + 2)))
  refine ⟨⟨hF0, rfl⟩, ?_⟩
  refine kp7 rfl hR0 rfl (kpA rfl (kpnm rfl hR0 rfl (kp102 rfl hR0 rfl (kpX9 rfl rfl (kpN9 rfl (kp6 rfl hR0 rfl (kp4 rfl (kp5 rfl hR0 rfl (kp0 rfl (kp1 rfl (kp2 rfl (kp3 rfl (sp_X11_man hB0 hR0 (fun x5 y10 I6 J7 hB8 p9 kq14 kq13 kq12 kq11 k16 k15 k17 w23 w22 w21 w20 w19 w18 => ?_))))))))))))))
  have i24 := i32 x5
  have b25 := Bd.o hB0 io9_112_3_6 bd9_6_1
  have e26 : ((I6 3 1) : Int32).toInt = (I 3 1).toInt := Eq.trans (congrArg Int32.toInt kq11) rfl
  have kz27 : ((I6 3 1) : Int32).toInt = (I 3 1).toInt := e26
  have b28 := Bd.o hB0 io9_112_97_12 bd9_12_8
  have e29 : ((I6 97 8) : Int32).toInt = (I 97 8).toInt := Eq.trans (congrArg Int32.toInt kq12) rfl
  have kz30 : ((I6 97 8) : Int32).toInt = (I 97 8).toInt := e29
  have b31 := Bd.o hB0 io9_112_1_11 bd9_11_13
  have e32 : ((I6 1 13) : Int32).toInt = (I 1 13).toInt := Eq.trans (congrArg Int32.toInt kq13) rfl
  have kz33 : ((I6 1 13) : Int32).toInt = (I 1 13).toInt := e32
  have b34 := Bd.o hB0 io9_112_97_12 bd9_12_23
  have e35 : ((I6 97 23) : Int32).toInt = (I 97 23).toInt := Eq.trans (congrArg Int32.toInt kq14) rfl
  have kz36 : ((I6 97 23) : Int32).toInt = (I 97 23).toInt := e35
  refine ⟨vp_of (a := (v3.toInt + 1)) e1 (by omega) (by omega), ?_⟩
  have z37 := i32 (xs (Int32.toNatClampNeg (v3 + 1)))
  refine ⟨vp_of (a := (v3.toInt + 2)) e3 (by omega) (by omega), ?_⟩
  have z38 := i32 (xs (Int32.toNatClampNeg (v3 + 2)))
  refine ⟨⟨hF0, rfl⟩, ?_⟩
  refine kp7 rfl hR0 rfl (kpA rfl (kpnm rfl hR0 rfl (kti rfl (kpW9 rfl hR0 rfl (kpN9 rfl (kp6 rfl hR0 rfl (kp4 rfl (kp5 rfl hR0 rfl (kp0 rfl (kp1 rfl (kp2 rfl (kp3 rfl (sp_X12_man hB8 hR0 (fun x39 y44 I40 J41 hB42 p43 kq48 kq47 kq46 kq45 k50 k49 k51 w57 w56 w55 w54 w53 w52 => ?_))))))))))))))
  have i58 := i32 x39
  have e59 : ((I40 3 1) : Int32).toInt = (I 3 1).toInt := Eq.trans (congrArg Int32.toInt (Eq.trans kq45 kq11)) rfl
  have kz60 : ((I40 3 1) : Int32).toInt = (I 3 1).toInt := e59
  have e61 : ((I40 97 8) : Int32).toInt = (I 97 8).toInt := Eq.trans (congrArg Int32.toInt (Eq.trans kq46 kq12)) rfl
  have kz62 : ((I40 97 8) : Int32).toInt = (I 97 8).toInt := e61
  have e63 : ((I40 1 13) : Int32).toInt = (I 1 13).toInt := Eq.trans (congrArg Int32.toInt (Eq.trans kq47 kq13)) rfl
  have kz64 : ((I40 1 13) : Int32).toInt = (I 1 13).toInt := e63
  have e65 : ((I40 97 23) : Int32).toInt = (I 97 23).toInt := Eq.trans (congrArg Int32.toInt (Eq.trans kq48 kq14)) rfl
  have kz66 : ((I40 97 23) : Int32).toInt = (I 97 23).toInt := e65
  exact hN _ _ R hB42 hR0 hF0 ⟨(Eq.trans (e59) (Eq.trans hL0 (Eq.symm (e61)))), (Eq.trans (e63) (Eq.trans hL1 (Eq.symm (e65)))), (RT.kp (RT.kp hL2 k15 k16) k49 k50), trivial⟩ (R3.kp (R3.kp hR3 w18 (by have ya : ((I6 3 1) : Int32).toInt = (I 3 1).toInt := e26; have yb : ((I 3 1) : Int32).toInt = (I 3 1).toInt := rfl; omega)) w52 (by have ya : ((I40 3 1) : Int32).toInt = (I 3 1).toInt := e59; have yb : ((I6 3 1) : Int32).toInt = (I 3 1).toInt := e26; omega)) (RM.kp hR0 (RM.kp hR0 hRM ⟨w19, w20, (fun j _ => congrFun w21.1 j)⟩) ⟨w53, w54, (fun j _ => congrFun w55 j)⟩) trivial (W9.kp hR0 (W9.kp hR0 hW9 w22 w21.1 w19.2) w56 w55 w53.2) (TQ9.kp hTQ (KQ9.tr w23 w57) (k50.2.trans k16.2))
set_option maxRecDepth 100000 in
set_option maxHeartbeats 2000000 in
theorem lc_14 {Q : Nat → Qt} {P : Kt} {L : Nat} {xs : Nat → Int32} (hc : Cl (AM 640) false true L xs 2 112 kL_law Q P) (hL : L ≤ 3584) {v3 : Int32} {I : Im} {J : Jm} {R : Rm} (hB0 : Bd I) (hR0 : RI R) (hF0 : Fl R) (hL0 : (I 3 1).toInt = (I 97 8).toInt) (hL1 : (I 1 13).toInt = (I 97 23).toInt) (hL2 : RT I) (hL3 : True) (hR3 : R3 I J) (hRM : RM I J R) (hFQ : True) (hW9 : W9 I R) (hTQ : TQ9 I J) (h0 : 0 ≤ v3.toInt) (h7 : v3.toInt + 7 ≤ (L : Int)) (hN : ∀ (I : Im) (J : Jm) (R : Rm), Bd I → RI R → Fl R → RLz I → R3 I J → RM I J R → True → W9 I R → TQ9 I J → P 1889 112 [(0, .ref 0), (1, .ref 1), (2, .ref 97), (3, .int v3)] [] I J R) : P 706 112 [(0, .ref 0), (1, .ref 1), (2, .ref 97), (3, .int v3)] [] I J R := by
  have i_v3 := i32 v3
  have e97 : I 97 8 = nI (fl I) := (Int32.toInt_inj.mp hL0).symm.trans (fl_bd hB0).1
  have b31 := Bd.o hB0 io9_112_3_6 bd9_6_1
  refine ls_706 hc v3 _ _ _ ?_
  have e1 : ((v3 + 1) : Int32).toInt = (v3.toInt) + (1) := ti_add rfl rfl (by omega)
  refine ⟨vp_of (a := (v3.toInt + 1)) e1 (by omega) (by omega), ?_⟩
  have z2 := i32 (xs (Int32.toNatClampNeg (v3 + 1)))
  refine ⟨⟨hF0, rfl⟩, ?_⟩
  refine kp7 rfl hR0 rfl (kpA rfl (kpnm rfl hR0 rfl (kp102 rfl hR0 rfl (kpW9 rfl hR0 rfl (kpN9 rfl (kp6 rfl hR0 rfl (kp4 rfl (kp5 rfl hR0 rfl (kp0 rfl (kp1 rfl (kp2 rfl (kp3 rfl (sp_X11_has hB0 hR0 (fun x3 y8 I4 J5 hB6 p7 kq12 kq11 kq10 kq9 k14 k13 k15 w21 w20 w19 w18 w17 w16 => ?_))))))))))))))
  intro o22
  have i23 := i32 x3
  have b24 := Bd.o hB0 io9_112_3_6 bd9_6_1
  have e25 : ((I4 3 1) : Int32).toInt = (I 3 1).toInt := Eq.trans (congrArg Int32.toInt kq9) rfl
  have kz26 : ((I4 3 1) : Int32).toInt = (I 3 1).toInt := e25
  have b27 := Bd.o hB0 io9_112_97_12 bd9_12_8
  have e28 : ((I4 97 8) : Int32).toInt = (I 97 8).toInt := Eq.trans (congrArg Int32.toInt kq10) rfl
  have kz29 : ((I4 97 8) : Int32).toInt = (I 97 8).toInt := e28
  have b30 := Bd.o hB0 io9_112_1_11 bd9_11_13
  have e31 : ((I4 1 13) : Int32).toInt = (I 1 13).toInt := Eq.trans (congrArg Int32.toInt kq11) rfl
  have kz32 : ((I4 1 13) : Int32).toInt = (I 1 13).toInt := e31
  have b33 := Bd.o hB0 io9_112_97_12 bd9_12_23
  have e34 : ((I4 97 23) : Int32).toInt = (I 97 23).toInt := Eq.trans (congrArg Int32.toInt kq12) rfl
  have kz35 : ((I4 97 23) : Int32).toInt = (I 97 23).toInt := e34
  refine ⟨vp_of (a := (v3.toInt + 1)) e1 (by omega) (by omega), ?_⟩
  have z36 := i32 (xs (Int32.toNatClampNeg (v3 + 1)))
  refine ⟨⟨hF0, rfl⟩, ?_⟩
  refine kp7 rfl hR0 rfl (kpA rfl (kpnm rfl hR0 rfl (kti rfl (kpW9 rfl hR0 rfl (kpN9 rfl (kp6 rfl hR0 rfl (kp4 rfl (kp5 rfl hR0 rfl (kp0 rfl (kp1 rfl (kp2 rfl (kp3 rfl (sp_X12_has hB6 hR0 (fun x37 y42 I38 J39 hB40 p41 kq46 kq45 kq44 kq43 k48 k47 k49 w55 w54 w53 w52 w51 w50 => ?_))))))))))))))
  intro o56
  have i57 := i32 x37
  have e58 : ((I38 3 1) : Int32).toInt = (I 3 1).toInt := Eq.trans (congrArg Int32.toInt (Eq.trans kq43 kq9)) rfl
  have kz59 : ((I38 3 1) : Int32).toInt = (I 3 1).toInt := e58
  have e60 : ((I38 97 8) : Int32).toInt = (I 97 8).toInt := Eq.trans (congrArg Int32.toInt (Eq.trans kq44 kq10)) rfl
  have kz61 : ((I38 97 8) : Int32).toInt = (I 97 8).toInt := e60
  have e62 : ((I38 1 13) : Int32).toInt = (I 1 13).toInt := Eq.trans (congrArg Int32.toInt (Eq.trans kq45 kq11)) rfl
  have kz63 : ((I38 1 13) : Int32).toInt = (I 1 13).toInt := e62
  have e64 : ((I38 97 23) : Int32).toInt = (I 97 23).toInt := Eq.trans (congrArg Int32.toInt (Eq.trans kq46 kq12)) rfl
  have kz65 : ((I38 97 23) : Int32).toInt = (I 97 23).toInt := e64
  exact hN _ _ R hB40 hR0 hF0 ⟨(Eq.trans (e58) (Eq.trans hL0 (Eq.symm (e60)))), (Eq.trans (e62) (Eq.trans hL1 (Eq.symm (e64)))), (RT.kp (RT.kp hL2 k13 k14) k47 k48), trivial⟩ (R3.kp (R3.kp hR3 w16 (by have ya : ((I4 3 1) : Int32).toInt = (I 3 1).toInt := e25; have yb : ((I 3 1) : Int32).toInt = (I 3 1).toInt := rfl; omega)) w50 (by have ya : ((I38 3 1) : Int32).toInt = (I 3 1).toInt := e58; have yb : ((I4 3 1) : Int32).toInt = (I 3 1).toInt := e25; omega)) (RM.kp hR0 (RM.kp hR0 hRM ⟨w17, w18, (fun j _ => congrFun w19.1 j)⟩) ⟨w51, w52, (fun j _ => congrFun w53 j)⟩) trivial (W9.kp hR0 (W9.kp hR0 hW9 w20 w19.1 w17.2) w54 w53 w51.2) (TQ9.kp hTQ (KQ9.tr w21 w55) (k48.2.trans k14.2))
set_option maxRecDepth 100000 in
set_option maxHeartbeats 2000000 in
theorem lc_15 {Q : Nat → Qt} {P : Kt} {L : Nat} {xs : Nat → Int32} (hc : Cl (AM 640) false true L xs 2 112 kL_law Q P) (hL : L ≤ 3584) {v3 : Int32} {I : Im} {J : Jm} {R : Rm} (hB0 : Bd I) (hR0 : RI R) (hF0 : Fl R) (hL0 : (I 3 1).toInt = (I 97 8).toInt) (hL1 : (I 1 13).toInt = (I 97 23).toInt) (hL2 : RT I) (hL3 : True) (hR3 : R3 I J) (hRM : RM I J R) (hFQ : True) (hW9 : W9 I R) (hTQ : TQ9 I J) (h0 : 0 ≤ v3.toInt) (h7 : v3.toInt + 7 ≤ (L : Int)) (hN : ∀ (I : Im) (J : Jm) (R : Rm), Bd I → RI R → Fl R → RLz I → R3 I J → RM I J R → True → W9 I R → TQ9 I J → P 1889 112 [(0, .ref 0), (1, .ref 1), (2, .ref 97), (3, .int v3)] [] I J R) : P 729 112 [(0, .ref 0), (1, .ref 1), (2, .ref 97), (3, .int v3)] [] I J R := by
  have i_v3 := i32 v3
  have e97 : I 97 8 = nI (fl I) := (Int32.toInt_inj.mp hL0).symm.trans (fl_bd hB0).1
  have b31 := Bd.o hB0 io9_112_3_6 bd9_6_1
  refine ls_729 hc v3 _ _ _ ?_
  have e1 : ((v3 + 1) : Int32).toInt = (v3.toInt) + (1) := ti_add rfl rfl (by omega)
  refine ⟨vp_of (a := (v3.toInt + 1)) e1 (by omega) (by omega), ?_⟩
  have z2 := i32 (xs (Int32.toNatClampNeg (v3 + 1)))
  refine ⟨⟨hF0, rfl⟩, ?_⟩
  refine kp7 rfl hR0 rfl (kpA rfl (kpnm rfl hR0 rfl (kp102 rfl hR0 rfl (kpW9 rfl hR0 rfl (kpN9 rfl (kp6 rfl hR0 rfl (kp4 rfl (kp5 rfl hR0 rfl (kp0 rfl (kp1 rfl (kp2 rfl (kp3 rfl (sp_X11_lacks hB0 hR0 (fun x3 y8 I4 J5 hB6 p7 kq12 kq11 kq10 kq9 k14 k13 k15 w21 w20 w19 w18 w17 w16 => ?_))))))))))))))
  intro o22
  have i23 := i32 x3
  have b24 := Bd.o hB0 io9_112_3_6 bd9_6_1
  have e25 : ((I4 3 1) : Int32).toInt = (I 3 1).toInt := Eq.trans (congrArg Int32.toInt kq9) rfl
  have kz26 : ((I4 3 1) : Int32).toInt = (I 3 1).toInt := e25
  have b27 := Bd.o hB0 io9_112_97_12 bd9_12_8
  have e28 : ((I4 97 8) : Int32).toInt = (I 97 8).toInt := Eq.trans (congrArg Int32.toInt kq10) rfl
  have kz29 : ((I4 97 8) : Int32).toInt = (I 97 8).toInt := e28
  have b30 := Bd.o hB0 io9_112_1_11 bd9_11_13
  have e31 : ((I4 1 13) : Int32).toInt = (I 1 13).toInt := Eq.trans (congrArg Int32.toInt kq11) rfl
  have kz32 : ((I4 1 13) : Int32).toInt = (I 1 13).toInt := e31
  have b33 := Bd.o hB0 io9_112_97_12 bd9_12_23
  have e34 : ((I4 97 23) : Int32).toInt = (I 97 23).toInt := Eq.trans (congrArg Int32.toInt kq12) rfl
  have kz35 : ((I4 97 23) : Int32).toInt = (I 97 23).toInt := e34
  refine ⟨vp_of (a := (v3.toInt + 1)) e1 (by omega) (by omega), ?_⟩
  have z36 := i32 (xs (Int32.toNatClampNeg (v3 + 1)))
  refine ⟨⟨hF0, rfl⟩, ?_⟩
  refine kp7 rfl hR0 rfl (kpA rfl (kpnm rfl hR0 rfl (kp102 rfl hR0 rfl (kpW9 rfl hR0 rfl (kpN9 rfl (kp6 rfl hR0 rfl (kp4 rfl (kp5 rfl hR0 rfl (kp0 rfl (kp1 rfl (kp2 rfl (kp3 rfl (sp_X12_lacks hB6 hR0 (fun x37 y42 I38 J39 hB40 p41 kq46 kq45 kq44 kq43 k48 k47 k49 w55 w54 w53 w52 w51 w50 => ?_))))))))))))))
  intro o56
  have i57 := i32 x37
  have e58 : ((I38 3 1) : Int32).toInt = (I 3 1).toInt := Eq.trans (congrArg Int32.toInt (Eq.trans kq43 kq9)) rfl
  have kz59 : ((I38 3 1) : Int32).toInt = (I 3 1).toInt := e58
  have e60 : ((I38 97 8) : Int32).toInt = (I 97 8).toInt := Eq.trans (congrArg Int32.toInt (Eq.trans kq44 kq10)) rfl
  have kz61 : ((I38 97 8) : Int32).toInt = (I 97 8).toInt := e60
  have e62 : ((I38 1 13) : Int32).toInt = (I 1 13).toInt := Eq.trans (congrArg Int32.toInt (Eq.trans kq45 kq11)) rfl
  have kz63 : ((I38 1 13) : Int32).toInt = (I 1 13).toInt := e62
  have e64 : ((I38 97 23) : Int32).toInt = (I 97 23).toInt := Eq.trans (congrArg Int32.toInt (Eq.trans kq46 kq12)) rfl
  have kz65 : ((I38 97 23) : Int32).toInt = (I 97 23).toInt := e64
  exact hN _ _ R hB40 hR0 hF0 ⟨(Eq.trans (e58) (Eq.trans hL0 (Eq.symm (e60)))), (Eq.trans (e62) (Eq.trans hL1 (Eq.symm (e64)))), (RT.kp (RT.kp hL2 k13 k14) k47 k48), trivial⟩ (R3.kp (R3.kp hR3 w16 (by have ya : ((I4 3 1) : Int32).toInt = (I 3 1).toInt := e25; have yb : ((I 3 1) : Int32).toInt = (I 3 1).toInt := rfl; omega)) w50 (by have ya : ((I38 3 1) : Int32).toInt = (I 3 1).toInt := e58; have yb : ((I4 3 1) : Int32).toInt = (I 3 1).toInt := e25; omega)) (RM.kp hR0 (RM.kp hR0 hRM ⟨w17, w18, (fun j _ => congrFun w19.1 j)⟩) ⟨w51, w52, (fun j _ => congrFun w53.1 j)⟩) trivial (W9.kp hR0 (W9.kp hR0 hW9 w20 w19.1 w17.2) w54 w53.1 w51.2) (TQ9.kp hTQ (KQ9.tr w21 w55) (k48.2.trans k14.2))
set_option maxRecDepth 100000 in
set_option maxHeartbeats 2000000 in
theorem lc_16 {Q : Nat → Qt} {P : Kt} {L : Nat} {xs : Nat → Int32} (hc : Cl (AM 640) false true L xs 2 112 kL_law Q P) (hL : L ≤ 3584) {v3 : Int32} {I : Im} {J : Jm} {R : Rm} (hB0 : Bd I) (hR0 : RI R) (hF0 : Fl R) (hL0 : (I 3 1).toInt = (I 97 8).toInt) (hL1 : (I 1 13).toInt = (I 97 23).toInt) (hL2 : RT I) (hL3 : True) (hR3 : R3 I J) (hRM : RM I J R) (hFQ : True) (hW9 : W9 I R) (hTQ : TQ9 I J) (h0 : 0 ≤ v3.toInt) (h7 : v3.toInt + 7 ≤ (L : Int)) (hN : ∀ (I : Im) (J : Jm) (R : Rm), Bd I → RI R → Fl R → RLz I → R3 I J → RM I J R → True → W9 I R → TQ9 I J → P 1889 112 [(0, .ref 0), (1, .ref 1), (2, .ref 97), (3, .int v3)] [] I J R) : P 752 112 [(0, .ref 0), (1, .ref 1), (2, .ref 97), (3, .int v3)] [] I J R := by
  have i_v3 := i32 v3
  have e97 : I 97 8 = nI (fl I) := (Int32.toInt_inj.mp hL0).symm.trans (fl_bd hB0).1
  have b31 := Bd.o hB0 io9_112_3_6 bd9_6_1
  refine ls_752 hc v3 _ _ _ ?_
  refine ⟨⟨hF0, rfl⟩, ?_⟩
  refine kp7 rfl hR0 rfl (kpA rfl (kpnm rfl hR0 rfl (kp102 rfl hR0 rfl (kpW9 rfl hR0 rfl (kpN9 rfl (kp6 rfl hR0 rfl (kp4 rfl (kp5 rfl hR0 rfl (kp0 rfl (kp1 rfl (kp2 rfl (kp3 rfl (sp_X11_worth hB0 hR0 (fun x1 y6 I2 J3 hB4 p5 kq10 kq9 kq8 kq7 k12 k11 k13 w19 w18 w17 w16 w15 w14 => ?_))))))))))))))
  intro o20
  have i21 := i32 x1
  have b22 := Bd.o hB0 io9_112_3_6 bd9_6_1
  have e23 : ((I2 3 1) : Int32).toInt = (I 3 1).toInt := Eq.trans (congrArg Int32.toInt kq7) rfl
  have kz24 : ((I2 3 1) : Int32).toInt = (I 3 1).toInt := e23
  have b25 := Bd.o hB0 io9_112_97_12 bd9_12_8
  have e26 : ((I2 97 8) : Int32).toInt = (I 97 8).toInt := Eq.trans (congrArg Int32.toInt kq8) rfl
  have kz27 : ((I2 97 8) : Int32).toInt = (I 97 8).toInt := e26
  have b28 := Bd.o hB0 io9_112_1_11 bd9_11_13
  have e29 : ((I2 1 13) : Int32).toInt = (I 1 13).toInt := Eq.trans (congrArg Int32.toInt kq9) rfl
  have kz30 : ((I2 1 13) : Int32).toInt = (I 1 13).toInt := e29
  have b31 := Bd.o hB0 io9_112_97_12 bd9_12_23
  have e32 : ((I2 97 23) : Int32).toInt = (I 97 23).toInt := Eq.trans (congrArg Int32.toInt kq10) rfl
  have kz33 : ((I2 97 23) : Int32).toInt = (I 97 23).toInt := e32
  refine ⟨⟨hF0, rfl⟩, ?_⟩
  refine kp7 rfl hR0 rfl (kpA rfl (kpnm rfl hR0 rfl (kti rfl (kpW9 rfl hR0 rfl (kpN9 rfl (kp6 rfl hR0 rfl (kp4 rfl (kp5 rfl hR0 rfl (kp0 rfl (kp1 rfl (kp2 rfl (kp3 rfl (sp_X12_worth hB4 hR0 (fun x34 y39 I35 J36 hB37 p38 kq43 kq42 kq41 kq40 k45 k44 k46 w52 w51 w50 w49 w48 w47 => ?_))))))))))))))
  intro o53
  have i54 := i32 x34
  have e55 : ((I35 3 1) : Int32).toInt = (I 3 1).toInt := Eq.trans (congrArg Int32.toInt (Eq.trans kq40 kq7)) rfl
  have kz56 : ((I35 3 1) : Int32).toInt = (I 3 1).toInt := e55
  have e57 : ((I35 97 8) : Int32).toInt = (I 97 8).toInt := Eq.trans (congrArg Int32.toInt (Eq.trans kq41 kq8)) rfl
  have kz58 : ((I35 97 8) : Int32).toInt = (I 97 8).toInt := e57
  have e59 : ((I35 1 13) : Int32).toInt = (I 1 13).toInt := Eq.trans (congrArg Int32.toInt (Eq.trans kq42 kq9)) rfl
  have kz60 : ((I35 1 13) : Int32).toInt = (I 1 13).toInt := e59
  have e61 : ((I35 97 23) : Int32).toInt = (I 97 23).toInt := Eq.trans (congrArg Int32.toInt (Eq.trans kq43 kq10)) rfl
  have kz62 : ((I35 97 23) : Int32).toInt = (I 97 23).toInt := e61
  exact hN _ _ R hB37 hR0 hF0 ⟨(Eq.trans (e55) (Eq.trans hL0 (Eq.symm (e57)))), (Eq.trans (e59) (Eq.trans hL1 (Eq.symm (e61)))), (RT.kp (RT.kp hL2 k11 k12) k44 k45), trivial⟩ (R3.kp (R3.kp hR3 w14 (by have ya : ((I2 3 1) : Int32).toInt = (I 3 1).toInt := e23; have yb : ((I 3 1) : Int32).toInt = (I 3 1).toInt := rfl; omega)) w47 (by have ya : ((I35 3 1) : Int32).toInt = (I 3 1).toInt := e55; have yb : ((I2 3 1) : Int32).toInt = (I 3 1).toInt := e23; omega)) (RM.kp hR0 (RM.kp hR0 hRM ⟨w15, w16, (fun j _ => congrFun w17.1 j)⟩) ⟨w48, w49, (fun j _ => congrFun w50 j)⟩) trivial (W9.kp hR0 (W9.kp hR0 hW9 w18 w17.1 w15.2) w51 w50 w48.2) (TQ9.kp hTQ (KQ9.tr w19 w52) (k45.2.trans k12.2))
set_option maxRecDepth 100000 in
set_option maxHeartbeats 2000000 in
theorem lc_17 {Q : Nat → Qt} {P : Kt} {L : Nat} {xs : Nat → Int32} (hc : Cl (AM 640) false true L xs 2 112 kL_law Q P) (hL : L ≤ 3584) {v3 : Int32} {I : Im} {J : Jm} {R : Rm} (hB0 : Bd I) (hR0 : RI R) (hF0 : Fl R) (hL0 : (I 3 1).toInt = (I 97 8).toInt) (hL1 : (I 1 13).toInt = (I 97 23).toInt) (hL2 : RT I) (hL3 : True) (hR3 : R3 I J) (hRM : RM I J R) (hFQ : True) (hW9 : W9 I R) (hTQ : TQ9 I J) (h0 : 0 ≤ v3.toInt) (h7 : v3.toInt + 7 ≤ (L : Int)) (hN : ∀ (I : Im) (J : Jm) (R : Rm), Bd I → RI R → Fl R → RLz I → R3 I J → RM I J R → True → W9 I R → TQ9 I J → P 1889 112 [(0, .ref 0), (1, .ref 1), (2, .ref 97), (3, .int v3)] [] I J R) : P 765 112 [(0, .ref 0), (1, .ref 1), (2, .ref 97), (3, .int v3)] [] I J R := by
  have i_v3 := i32 v3
  have e97 : I 97 8 = nI (fl I) := (Int32.toInt_inj.mp hL0).symm.trans (fl_bd hB0).1
  have b31 := Bd.o hB0 io9_112_3_6 bd9_6_1
  refine ls_765 hc v3 _ _ _ ?_
  have e1 : ((v3 + 1) : Int32).toInt = (v3.toInt) + (1) := ti_add rfl rfl (by omega)
  refine ⟨vp_of (a := (v3.toInt + 1)) e1 (by omega) (by omega), ?_⟩
  have z2 := i32 (xs (Int32.toNatClampNeg (v3 + 1)))
  have e3 : ((v3 + 2) : Int32).toInt = (v3.toInt) + (2) := ti_add rfl rfl (by omega)
  refine ⟨vp_of (a := (v3.toInt + 2)) e3 (by omega) (by omega), ?_⟩
  have z4 := i32 (xs (Int32.toNatClampNeg (v3 + 2)))
  refine ⟨⟨hF0, rfl⟩, ?_⟩
  refine kp7 rfl hR0 rfl (kpA rfl (kpnm rfl hR0 rfl (kp102 rfl hR0 rfl (kpX9 rfl rfl (kx (cx_copy9 hB0 hR0) (kp6 rfl hR0 rfl (kp4 rfl (kp5 rfl hR0 rfl (kp0 rfl (kp1 rfl (kp2 rfl (kp3 rfl (sp_X11_copyStore hB0 hR0 (fun x5 y10 I6 J7 hB8 p9 kq14 kq13 kq12 kq11 k16 k15 k17 w23 w22 w21 w20 w19 w18 => ?_))))))))))))))
  have i24 := i32 x5
  have b25 := Bd.o hB0 io9_112_3_6 bd9_6_1
  have e26 : ((I6 3 1) : Int32).toInt = (I 3 1).toInt := Eq.trans (congrArg Int32.toInt kq11) rfl
  have kz27 : ((I6 3 1) : Int32).toInt = (I 3 1).toInt := e26
  have b28 := Bd.o hB0 io9_112_97_12 bd9_12_8
  have e29 : ((I6 97 8) : Int32).toInt = (I 97 8).toInt := Eq.trans (congrArg Int32.toInt kq12) rfl
  have kz30 : ((I6 97 8) : Int32).toInt = (I 97 8).toInt := e29
  have b31 := Bd.o hB0 io9_112_1_11 bd9_11_13
  have e32 : ((I6 1 13) : Int32).toInt = (I 1 13).toInt := Eq.trans (congrArg Int32.toInt kq13) rfl
  have kz33 : ((I6 1 13) : Int32).toInt = (I 1 13).toInt := e32
  have b34 := Bd.o hB0 io9_112_97_12 bd9_12_23
  have e35 : ((I6 97 23) : Int32).toInt = (I 97 23).toInt := Eq.trans (congrArg Int32.toInt kq14) rfl
  have kz36 : ((I6 97 23) : Int32).toInt = (I 97 23).toInt := e35
  have hw37 : 0 ≤ ((xs (Int32.toNatClampNeg (v3 + 1))) : Int32).toInt → ((xs (Int32.toNatClampNeg (v3 + 1))) : Int32).toInt ≤ 3 → (I (R 2 (Int32.toNatClampNeg (xs (Int32.toNatClampNeg (v3 + 1))))) 1).toInt = (I6 99 (Int32.toNatClampNeg (xs (Int32.toNatClampNeg (v3 + 1))))).toInt := fun a b => RT.a1 hL2 hR0 k16 a b
  refine ⟨vp_of (a := (v3.toInt + 1)) e1 (by omega) (by omega), ?_⟩
  have z38 := i32 (xs (Int32.toNatClampNeg (v3 + 1)))
  refine ⟨vp_of (a := (v3.toInt + 2)) e3 (by omega) (by omega), ?_⟩
  have z39 := i32 (xs (Int32.toNatClampNeg (v3 + 2)))
  refine ⟨⟨hF0, rfl⟩, ?_⟩
  refine kp7 rfl hR0 rfl (kpA rfl (kpnm rfl hR0 rfl (kti rfl (kpW9 rfl hR0 rfl (kx (mx_copy9 (K9.h60 k16 (RT.h60 hB0 hL2))) (kp6 rfl hR0 rfl (kp4 rfl (kp0 rfl (kp1 rfl (kp2 rfl (kp3 rfl (sp_X12_copyStore hB8 hR0 (fun x40 y45 I41 J42 hB43 p44 kq49 kq48 kq47 kq46 k50 k51 w57 w56 w55 w54 w53 w52 => ?_)))))))))))))
  have i58 := i32 x40
  have e59 : ((I41 3 1) : Int32).toInt = (I 3 1).toInt := Eq.trans (congrArg Int32.toInt (Eq.trans kq46 kq11)) rfl
  have kz60 : ((I41 3 1) : Int32).toInt = (I 3 1).toInt := e59
  have e61 : ((I41 97 8) : Int32).toInt = (I 97 8).toInt := Eq.trans (congrArg Int32.toInt (Eq.trans kq47 kq12)) rfl
  have kz62 : ((I41 97 8) : Int32).toInt = (I 97 8).toInt := e61
  have e63 : ((I41 1 13) : Int32).toInt = (I 1 13).toInt := Eq.trans (congrArg Int32.toInt (Eq.trans kq48 kq13)) rfl
  have kz64 : ((I41 1 13) : Int32).toInt = (I 1 13).toInt := e63
  have e65 : ((I41 97 23) : Int32).toInt = (I 97 23).toInt := Eq.trans (congrArg Int32.toInt (Eq.trans kq49 kq14)) rfl
  have kz66 : ((I41 97 23) : Int32).toInt = (I 97 23).toInt := e65
  exact hN _ _ R hB43 hR0 hF0 ⟨(Eq.trans (e59) (Eq.trans hL0 (Eq.symm (e61)))), (Eq.trans (e63) (Eq.trans hL1 (Eq.symm (e65)))), (RT.kp (RT.kp hL2 k15 k16) k50 (p44.2)), trivial⟩ (R3.kp (R3.kp hR3 w18 (by have ya : ((I6 3 1) : Int32).toInt = (I 3 1).toInt := e26; have yb : ((I 3 1) : Int32).toInt = (I 3 1).toInt := rfl; omega)) w52 (by have ya : ((I41 3 1) : Int32).toInt = (I 3 1).toInt := e59; have yb : ((I6 3 1) : Int32).toInt = (I 3 1).toInt := e26; omega)) (RM.kp hR0 (RM.kp hR0 hRM ⟨w19, w20, (fun j _ => congrFun w21.1 j)⟩) ⟨w53, w54, (fun j _ => congrFun w55 j)⟩) trivial (W9.kp hR0 (W9.kp hR0 hW9 w22 w21.1 w19.2) w56 w55 w53.2) (TQ9.copy2 hW9 hL2 hTQ k16 (p44.2) w21.1 (RT.h60 hB0 hL2) w23 w57)
set_option maxRecDepth 100000 in
set_option maxHeartbeats 2000000 in
theorem lc_18 {Q : Nat → Qt} {P : Kt} {L : Nat} {xs : Nat → Int32} (hc : Cl (AM 640) false true L xs 2 112 kL_law Q P) (hL : L ≤ 3584) {v3 : Int32} {I : Im} {J : Jm} {R : Rm} (hB0 : Bd I) (hR0 : RI R) (hF0 : Fl R) (hL0 : (I 3 1).toInt = (I 97 8).toInt) (hL1 : (I 1 13).toInt = (I 97 23).toInt) (hL2 : RT I) (hL3 : True) (hR3 : R3 I J) (hRM : RM I J R) (hFQ : True) (hW9 : W9 I R) (hTQ : TQ9 I J) (h0 : 0 ≤ v3.toInt) (h7 : v3.toInt + 7 ≤ (L : Int)) (hN : ∀ (I : Im) (J : Jm) (R : Rm), Bd I → RI R → Fl R → RLz I → R3 I J → RM I J R → True → W9 I R → TQ9 I J → P 1889 112 [(0, .ref 0), (1, .ref 1), (2, .ref 97), (3, .int v3)] [] I J R) : P 798 112 [(0, .ref 0), (1, .ref 1), (2, .ref 97), (3, .int v3)] [] I J R := by
  have i_v3 := i32 v3
  have e97 : I 97 8 = nI (fl I) := (Int32.toInt_inj.mp hL0).symm.trans (fl_bd hB0).1
  have b31 := Bd.o hB0 io9_112_3_6 bd9_6_1
  refine ls_798 hc v3 _ _ _ ?_
  have e1 : ((v3 + 1) : Int32).toInt = (v3.toInt) + (1) := ti_add rfl rfl (by omega)
  refine ⟨vp_of (a := (v3.toInt + 1)) e1 (by omega) (by omega), ?_⟩
  have z2 := i32 (xs (Int32.toNatClampNeg (v3 + 1)))
  refine ⟨⟨hF0, rfl⟩, ?_⟩
  refine kp7 rfl hR0 rfl (kpA rfl (kpnm rfl hR0 rfl (kp102 rfl hR0 rfl (kx (cx_bake9 hR0 (W9.hs hW9)) (kpN9 rfl (kp6 rfl hR0 rfl (kp4 rfl (kp5 rfl hR0 rfl (kp0 rfl (kp1 rfl (kp2 rfl (kp3 rfl (sp_X11_bake hB0 hR0 (fun x3 y8 I4 J5 hB6 p7 kq12 kq11 kq10 kq9 k14 k13 k15 w21 w20 w19 w18 w17 w16 => ?_))))))))))))))
  have i22 := i32 x3
  have b23 := Bd.o hB0 io9_112_3_6 bd9_6_1
  have e24 : ((I4 3 1) : Int32).toInt = (I 3 1).toInt := Eq.trans (congrArg Int32.toInt kq9) rfl
  have kz25 : ((I4 3 1) : Int32).toInt = (I 3 1).toInt := e24
  have b26 := Bd.o hB0 io9_112_97_12 bd9_12_8
  have e27 : ((I4 97 8) : Int32).toInt = (I 97 8).toInt := Eq.trans (congrArg Int32.toInt kq10) rfl
  have kz28 : ((I4 97 8) : Int32).toInt = (I 97 8).toInt := e27
  have b29 := Bd.o hB0 io9_112_1_11 bd9_11_13
  have e30 : ((I4 1 13) : Int32).toInt = (I 1 13).toInt := Eq.trans (congrArg Int32.toInt kq11) rfl
  have kz31 : ((I4 1 13) : Int32).toInt = (I 1 13).toInt := e30
  have b32 := Bd.o hB0 io9_112_97_12 bd9_12_23
  have e33 : ((I4 97 23) : Int32).toInt = (I 97 23).toInt := Eq.trans (congrArg Int32.toInt kq12) rfl
  have kz34 : ((I4 97 23) : Int32).toInt = (I 97 23).toInt := e33
  refine ⟨vp_of (a := (v3.toInt + 1)) e1 (by omega) (by omega), ?_⟩
  have z35 := i32 (xs (Int32.toNatClampNeg (v3 + 1)))
  refine ⟨⟨hF0, rfl⟩, ?_⟩
  refine kp7 rfl hR0 rfl (kpA rfl (kpnm rfl hR0 rfl (kx (mx_bake9 (now_9 hR0) w20.2.1) (kpN9 rfl (kp6 rfl hR0 rfl (kp4 rfl (kp5 rfl hR0 rfl (kp0 rfl (kp1 rfl (kp2 rfl (kp3 rfl (sp_X12_bake hB6 hR0 (fun x36 y41 I37 J38 hB39 p40 kq45 kq44 kq43 kq42 k47 k46 k48 w53 w52 w51 w50 w49 => ?_)))))))))))))
  have f54 : Fr pK I4 I37 := p40
  have i55 := i32 x36
  have e56 : ((I37 3 1) : Int32).toInt = (I 3 1).toInt := Eq.trans (congrArg Int32.toInt (Eq.trans kq42 kq9)) rfl
  have kz57 : ((I37 3 1) : Int32).toInt = (I 3 1).toInt := e56
  have e58 : ((I37 97 8) : Int32).toInt = (I 97 8).toInt := Eq.trans (congrArg Int32.toInt (Eq.trans kq43 kq10)) rfl
  have kz59 : ((I37 97 8) : Int32).toInt = (I 97 8).toInt := e58
  have e60 : ((I37 1 13) : Int32).toInt = (I 1 13).toInt := Eq.trans (congrArg Int32.toInt (Eq.trans kq44 kq11)) rfl
  have kz61 : ((I37 1 13) : Int32).toInt = (I 1 13).toInt := e60
  have e62 : ((I37 97 23) : Int32).toInt = (I 97 23).toInt := Eq.trans (congrArg Int32.toInt (Eq.trans kq45 kq12)) rfl
  have kz63 : ((I37 97 23) : Int32).toInt = (I 97 23).toInt := e62
  have hg64 : (x36 : Int32).toInt = (x3 : Int32).toInt := congrArg Int32.toInt (w52.1.trans w20.1.symm)
  exact hN _ _ R hB39 hR0 hF0 ⟨(Eq.trans (e56) (Eq.trans hL0 (Eq.symm (e58)))), (Eq.trans (e60) (Eq.trans hL1 (Eq.symm (e62)))), (RT.kp (RT.kp hL2 k13 k14) k46 k47), trivial⟩ (R3.kp (R3.kp hR3 w16 (by have ya : ((I4 3 1) : Int32).toInt = (I 3 1).toInt := e24; have yb : ((I 3 1) : Int32).toInt = (I 3 1).toInt := rfl; omega)) w49 (by have ya : ((I37 3 1) : Int32).toInt = (I 3 1).toInt := e56; have yb : ((I4 3 1) : Int32).toInt = (I 3 1).toInt := e24; omega)) (RM.kp hR0 (RM.kp hR0 hRM ⟨w17, w18, (fun j _ => congrFun w19.1 j)⟩) ⟨w50, w51, (fun j hj => f54.1 j hj)⟩) trivial (W9.two hR0 hW9 w20.2.2 w52.2.2 w52.2.1) (TQ9.kp hTQ (KQ9.tr w21 w53) (k47.2.trans k14.2))
set_option maxRecDepth 100000 in
set_option maxHeartbeats 2000000 in
theorem lc_19 {Q : Nat → Qt} {P : Kt} {L : Nat} {xs : Nat → Int32} (hc : Cl (AM 640) false true L xs 2 112 kL_law Q P) (hL : L ≤ 3584) {v3 : Int32} {I : Im} {J : Jm} {R : Rm} (hB0 : Bd I) (hR0 : RI R) (hF0 : Fl R) (hL0 : (I 3 1).toInt = (I 97 8).toInt) (hL1 : (I 1 13).toInt = (I 97 23).toInt) (hL2 : RT I) (hL3 : True) (hR3 : R3 I J) (hRM : RM I J R) (hFQ : True) (hW9 : W9 I R) (hTQ : TQ9 I J) (h0 : 0 ≤ v3.toInt) (h7 : v3.toInt + 7 ≤ (L : Int)) (hN : ∀ (I : Im) (J : Jm) (R : Rm), Bd I → RI R → Fl R → RLz I → R3 I J → RM I J R → True → W9 I R → TQ9 I J → P 1889 112 [(0, .ref 0), (1, .ref 1), (2, .ref 97), (3, .int v3)] [] I J R) : P 821 112 [(0, .ref 0), (1, .ref 1), (2, .ref 97), (3, .int v3)] [] I J R := by
  have i_v3 := i32 v3
  have e97 : I 97 8 = nI (fl I) := (Int32.toInt_inj.mp hL0).symm.trans (fl_bd hB0).1
  have b31 := Bd.o hB0 io9_112_3_6 bd9_6_1
  refine ls_821 hc v3 _ _ _ ?_
  have e1 : ((v3 + 1) : Int32).toInt = (v3.toInt) + (1) := ti_add rfl rfl (by omega)
  refine ⟨vp_of (a := (v3.toInt + 1)) e1 (by omega) (by omega), ?_⟩
  have z2 := i32 (xs (Int32.toNatClampNeg (v3 + 1)))
  have e3 : ((v3 + 2) : Int32).toInt = (v3.toInt) + (2) := ti_add rfl rfl (by omega)
  refine ⟨vp_of (a := (v3.toInt + 2)) e3 (by omega) (by omega), ?_⟩
  have z4 := i32 (xs (Int32.toNatClampNeg (v3 + 2)))
  have e5 : ((v3 + 3) : Int32).toInt = (v3.toInt) + (3) := ti_add rfl rfl (by omega)
  refine ⟨vp_of (a := (v3.toInt + 3)) e5 (by omega) (by omega), ?_⟩
  have z6 := i32 (xs (Int32.toNatClampNeg (v3 + 3)))
  refine ⟨⟨hF0, rfl⟩, ?_⟩
  refine kp7 rfl hR0 rfl (kpA rfl (kpnm rfl hR0 rfl (kp102 rfl hR0 rfl (kx (cx_cut9 hR0 (W9.hs hW9)) (kpN9 rfl (kp6 rfl hR0 rfl (kp4 rfl (kp5 rfl hR0 rfl (kp0 rfl (kp1 rfl (kp2 rfl (kp3 rfl (sp_X11_cut hB0 hR0 (fun x7 y12 I8 J9 hB10 p11 kq16 kq15 kq14 kq13 k18 k17 k19 w25 w24 w23 w22 w21 w20 => ?_))))))))))))))
  have i26 := i32 x7
  have b27 := Bd.o hB0 io9_112_3_6 bd9_6_1
  have e28 : ((I8 3 1) : Int32).toInt = (I 3 1).toInt := Eq.trans (congrArg Int32.toInt kq13) rfl
  have kz29 : ((I8 3 1) : Int32).toInt = (I 3 1).toInt := e28
  have b30 := Bd.o hB0 io9_112_97_12 bd9_12_8
  have e31 : ((I8 97 8) : Int32).toInt = (I 97 8).toInt := Eq.trans (congrArg Int32.toInt kq14) rfl
  have kz32 : ((I8 97 8) : Int32).toInt = (I 97 8).toInt := e31
  have b33 := Bd.o hB0 io9_112_1_11 bd9_11_13
  have e34 : ((I8 1 13) : Int32).toInt = (I 1 13).toInt := Eq.trans (congrArg Int32.toInt kq15) rfl
  have kz35 : ((I8 1 13) : Int32).toInt = (I 1 13).toInt := e34
  have b36 := Bd.o hB0 io9_112_97_12 bd9_12_23
  have e37 : ((I8 97 23) : Int32).toInt = (I 97 23).toInt := Eq.trans (congrArg Int32.toInt kq16) rfl
  have kz38 : ((I8 97 23) : Int32).toInt = (I 97 23).toInt := e37
  refine ⟨vp_of (a := (v3.toInt + 1)) e1 (by omega) (by omega), ?_⟩
  have z39 := i32 (xs (Int32.toNatClampNeg (v3 + 1)))
  refine ⟨vp_of (a := (v3.toInt + 2)) e3 (by omega) (by omega), ?_⟩
  have z40 := i32 (xs (Int32.toNatClampNeg (v3 + 2)))
  refine ⟨vp_of (a := (v3.toInt + 3)) e5 (by omega) (by omega), ?_⟩
  have z41 := i32 (xs (Int32.toNatClampNeg (v3 + 3)))
  refine ⟨⟨hF0, rfl⟩, ?_⟩
  refine kp7 rfl hR0 rfl (kpA rfl (kpnm rfl hR0 rfl (kx (mx_cut9 (now_9 hR0) w24.2.1) (kpN9 rfl (kp6 rfl hR0 rfl (kp4 rfl (kp5 rfl hR0 rfl (kp0 rfl (kp1 rfl (kp2 rfl (kp3 rfl (sp_X12_cut hB10 hR0 (fun x42 y47 I43 J44 hB45 p46 kq51 kq50 kq49 kq48 k53 k52 k54 w59 w58 w57 w56 w55 => ?_)))))))))))))
  have f60 : Fr pK I8 I43 := p46
  have i61 := i32 x42
  have e62 : ((I43 3 1) : Int32).toInt = (I 3 1).toInt := Eq.trans (congrArg Int32.toInt (Eq.trans kq48 kq13)) rfl
  have kz63 : ((I43 3 1) : Int32).toInt = (I 3 1).toInt := e62
  have e64 : ((I43 97 8) : Int32).toInt = (I 97 8).toInt := Eq.trans (congrArg Int32.toInt (Eq.trans kq49 kq14)) rfl
  have kz65 : ((I43 97 8) : Int32).toInt = (I 97 8).toInt := e64
  have e66 : ((I43 1 13) : Int32).toInt = (I 1 13).toInt := Eq.trans (congrArg Int32.toInt (Eq.trans kq50 kq15)) rfl
  have kz67 : ((I43 1 13) : Int32).toInt = (I 1 13).toInt := e66
  have e68 : ((I43 97 23) : Int32).toInt = (I 97 23).toInt := Eq.trans (congrArg Int32.toInt (Eq.trans kq51 kq16)) rfl
  have kz69 : ((I43 97 23) : Int32).toInt = (I 97 23).toInt := e68
  have hg70 : (x42 : Int32).toInt = (x7 : Int32).toInt := congrArg Int32.toInt (w58.1.trans w24.1.symm)
  exact hN _ _ R hB45 hR0 hF0 ⟨(Eq.trans (e62) (Eq.trans hL0 (Eq.symm (e64)))), (Eq.trans (e66) (Eq.trans hL1 (Eq.symm (e68)))), (RT.kp (RT.kp hL2 k17 k18) k52 k53), trivial⟩ (R3.kp (R3.kp hR3 w20 (by have ya : ((I8 3 1) : Int32).toInt = (I 3 1).toInt := e28; have yb : ((I 3 1) : Int32).toInt = (I 3 1).toInt := rfl; omega)) w55 (by have ya : ((I43 3 1) : Int32).toInt = (I 3 1).toInt := e62; have yb : ((I8 3 1) : Int32).toInt = (I 3 1).toInt := e28; omega)) (RM.kp hR0 (RM.kp hR0 hRM ⟨w21, w22, (fun j _ => congrFun w23.1 j)⟩) ⟨w56, w57, (fun j hj => f60.1 j hj)⟩) trivial (W9.two hR0 hW9 w24.2.2 w58.2.2 w58.2.1) (TQ9.kp hTQ (KQ9.tr w25 w59) (k53.2.trans k18.2))
set_option maxRecDepth 100000 in
set_option maxHeartbeats 2000000 in
theorem lc_20 {Q : Nat → Qt} {P : Kt} {L : Nat} {xs : Nat → Int32} (hc : Cl (AM 640) false true L xs 2 112 kL_law Q P) (hL : L ≤ 3584) {v3 : Int32} {I : Im} {J : Jm} {R : Rm} (hB0 : Bd I) (hR0 : RI R) (hF0 : Fl R) (hL0 : (I 3 1).toInt = (I 97 8).toInt) (hL1 : (I 1 13).toInt = (I 97 23).toInt) (hL2 : RT I) (hL3 : True) (hR3 : R3 I J) (hRM : RM I J R) (hFQ : True) (hW9 : W9 I R) (hTQ : TQ9 I J) (h0 : 0 ≤ v3.toInt) (h7 : v3.toInt + 7 ≤ (L : Int)) (hN : ∀ (I : Im) (J : Jm) (R : Rm), Bd I → RI R → Fl R → RLz I → R3 I J → RM I J R → True → W9 I R → TQ9 I J → P 1889 112 [(0, .ref 0), (1, .ref 1), (2, .ref 97), (3, .int v3)] [] I J R) : P 864 112 [(0, .ref 0), (1, .ref 1), (2, .ref 97), (3, .int v3)] [] I J R := by
  have i_v3 := i32 v3
  have e97 : I 97 8 = nI (fl I) := (Int32.toInt_inj.mp hL0).symm.trans (fl_bd hB0).1
  have b31 := Bd.o hB0 io9_112_3_6 bd9_6_1
  refine ls_864 hc v3 _ _ _ ?_
  have e1 : ((v3 + 1) : Int32).toInt = (v3.toInt) + (1) := ti_add rfl rfl (by omega)
  refine ⟨vp_of (a := (v3.toInt + 1)) e1 (by omega) (by omega), ?_⟩
  have z2 := i32 (xs (Int32.toNatClampNeg (v3 + 1)))
  have e3 : ((v3 + 2) : Int32).toInt = (v3.toInt) + (2) := ti_add rfl rfl (by omega)
  refine ⟨vp_of (a := (v3.toInt + 2)) e3 (by omega) (by omega), ?_⟩
  have z4 := i32 (xs (Int32.toNatClampNeg (v3 + 2)))
  refine ⟨⟨hF0, rfl⟩, ?_⟩
  refine kp7 rfl hR0 rfl (kpA rfl (kpnm rfl hR0 rfl (kp102 rfl hR0 rfl (kx (cx_split9 hR0 (W9.hs hW9)) (kpN9 rfl (kp6 rfl hR0 rfl (kp4 rfl (kp5 rfl hR0 rfl (kp0 rfl (kp1 rfl (kp2 rfl (kp3 rfl (sp_X11_split hB0 hR0 (fun x5 y10 I6 J7 hB8 p9 kq14 kq13 kq12 kq11 k16 k15 k17 w23 w22 w21 w20 w19 w18 => ?_))))))))))))))
  have i24 := i32 x5
  have b25 := Bd.o hB0 io9_112_3_6 bd9_6_1
  have e26 : ((I6 3 1) : Int32).toInt = (I 3 1).toInt := Eq.trans (congrArg Int32.toInt kq11) rfl
  have kz27 : ((I6 3 1) : Int32).toInt = (I 3 1).toInt := e26
  have b28 := Bd.o hB0 io9_112_97_12 bd9_12_8
  have e29 : ((I6 97 8) : Int32).toInt = (I 97 8).toInt := Eq.trans (congrArg Int32.toInt kq12) rfl
  have kz30 : ((I6 97 8) : Int32).toInt = (I 97 8).toInt := e29
  have b31 := Bd.o hB0 io9_112_1_11 bd9_11_13
  have e32 : ((I6 1 13) : Int32).toInt = (I 1 13).toInt := Eq.trans (congrArg Int32.toInt kq13) rfl
  have kz33 : ((I6 1 13) : Int32).toInt = (I 1 13).toInt := e32
  have b34 := Bd.o hB0 io9_112_97_12 bd9_12_23
  have e35 : ((I6 97 23) : Int32).toInt = (I 97 23).toInt := Eq.trans (congrArg Int32.toInt kq14) rfl
  have kz36 : ((I6 97 23) : Int32).toInt = (I 97 23).toInt := e35
  refine ⟨vp_of (a := (v3.toInt + 1)) e1 (by omega) (by omega), ?_⟩
  have z37 := i32 (xs (Int32.toNatClampNeg (v3 + 1)))
  refine ⟨vp_of (a := (v3.toInt + 2)) e3 (by omega) (by omega), ?_⟩
  have z38 := i32 (xs (Int32.toNatClampNeg (v3 + 2)))
  refine ⟨⟨hF0, rfl⟩, ?_⟩
  refine kp7 rfl hR0 rfl (kpA rfl (kpnm rfl hR0 rfl (kx (mx_split9 (now_9 hR0) w22.2.1) (kpN9 rfl (kp6 rfl hR0 rfl (kp4 rfl (kp5 rfl hR0 rfl (kp0 rfl (kp1 rfl (kp2 rfl (kp3 rfl (sp_X12_split hB8 hR0 (fun x39 y44 I40 J41 hB42 p43 kq48 kq47 kq46 kq45 k50 k49 k51 w56 w55 w54 w53 w52 => ?_)))))))))))))
  have f57 : Fr pK I6 I40 := p43
  have i58 := i32 x39
  have e59 : ((I40 3 1) : Int32).toInt = (I 3 1).toInt := Eq.trans (congrArg Int32.toInt (Eq.trans kq45 kq11)) rfl
  have kz60 : ((I40 3 1) : Int32).toInt = (I 3 1).toInt := e59
  have e61 : ((I40 97 8) : Int32).toInt = (I 97 8).toInt := Eq.trans (congrArg Int32.toInt (Eq.trans kq46 kq12)) rfl
  have kz62 : ((I40 97 8) : Int32).toInt = (I 97 8).toInt := e61
  have e63 : ((I40 1 13) : Int32).toInt = (I 1 13).toInt := Eq.trans (congrArg Int32.toInt (Eq.trans kq47 kq13)) rfl
  have kz64 : ((I40 1 13) : Int32).toInt = (I 1 13).toInt := e63
  have e65 : ((I40 97 23) : Int32).toInt = (I 97 23).toInt := Eq.trans (congrArg Int32.toInt (Eq.trans kq48 kq14)) rfl
  have kz66 : ((I40 97 23) : Int32).toInt = (I 97 23).toInt := e65
  have hg67 : (x39 : Int32).toInt = (x5 : Int32).toInt := congrArg Int32.toInt (w55.1.trans w22.1.symm)
  exact hN _ _ R hB42 hR0 hF0 ⟨(Eq.trans (e59) (Eq.trans hL0 (Eq.symm (e61)))), (Eq.trans (e63) (Eq.trans hL1 (Eq.symm (e65)))), (RT.kp (RT.kp hL2 k15 k16) k49 k50), trivial⟩ (R3.kp (R3.kp hR3 w18 (by have ya : ((I6 3 1) : Int32).toInt = (I 3 1).toInt := e26; have yb : ((I 3 1) : Int32).toInt = (I 3 1).toInt := rfl; omega)) w52 (by have ya : ((I40 3 1) : Int32).toInt = (I 3 1).toInt := e59; have yb : ((I6 3 1) : Int32).toInt = (I 3 1).toInt := e26; omega)) (RM.kp hR0 (RM.kp hR0 hRM ⟨w19, w20, (fun j _ => congrFun w21.1 j)⟩) ⟨w53, w54, (fun j hj => f57.1 j hj)⟩) trivial (W9.two hR0 hW9 w22.2.2 w55.2.2 w55.2.1) (TQ9.kp hTQ (KQ9.tr w23 w56) (k50.2.trans k16.2))
set_option maxRecDepth 100000 in
set_option maxHeartbeats 2000000 in
theorem lc_21 {Q : Nat → Qt} {P : Kt} {L : Nat} {xs : Nat → Int32} (hc : Cl (AM 640) false true L xs 2 112 kL_law Q P) (hL : L ≤ 3584) {v3 : Int32} {I : Im} {J : Jm} {R : Rm} (hB0 : Bd I) (hR0 : RI R) (hF0 : Fl R) (hL0 : (I 3 1).toInt = (I 97 8).toInt) (hL1 : (I 1 13).toInt = (I 97 23).toInt) (hL2 : RT I) (hL3 : True) (hR3 : R3 I J) (hRM : RM I J R) (hFQ : True) (hW9 : W9 I R) (hTQ : TQ9 I J) (h0 : 0 ≤ v3.toInt) (h7 : v3.toInt + 7 ≤ (L : Int)) (hN : ∀ (I : Im) (J : Jm) (R : Rm), Bd I → RI R → Fl R → RLz I → R3 I J → RM I J R → True → W9 I R → TQ9 I J → P 1889 112 [(0, .ref 0), (1, .ref 1), (2, .ref 97), (3, .int v3)] [] I J R) : P 897 112 [(0, .ref 0), (1, .ref 1), (2, .ref 97), (3, .int v3)] [] I J R := by
  have i_v3 := i32 v3
  have e97 : I 97 8 = nI (fl I) := (Int32.toInt_inj.mp hL0).symm.trans (fl_bd hB0).1
  have b31 := Bd.o hB0 io9_112_3_6 bd9_6_1
  refine ls_897 hc v3 _ _ _ ?_
  have e1 : ((v3 + 1) : Int32).toInt = (v3.toInt) + (1) := ti_add rfl rfl (by omega)
  refine ⟨vp_of (a := (v3.toInt + 1)) e1 (by omega) (by omega), ?_⟩
  have z2 := i32 (xs (Int32.toNatClampNeg (v3 + 1)))
  have e3 : ((v3 + 2) : Int32).toInt = (v3.toInt) + (2) := ti_add rfl rfl (by omega)
  refine ⟨vp_of (a := (v3.toInt + 2)) e3 (by omega) (by omega), ?_⟩
  have z4 := i32 (xs (Int32.toNatClampNeg (v3 + 2)))
  refine ⟨⟨hF0, rfl⟩, ?_⟩
  refine kp7 rfl hR0 rfl (kpA rfl (kpnm rfl hR0 rfl (kp102 rfl hR0 rfl (kx (cx_give9 hR0 hRM.1.1 (W9.mm hW9) (W9.hs hW9)) (kpN9 rfl (kp6 rfl hR0 rfl (kp4 rfl (kp5 rfl hR0 rfl (kp0 rfl (kp1 rfl (kp2 rfl (kp3 rfl (sp_X11_give hB0 hR0 (fun x5 y10 I6 J7 hB8 p9 kq14 kq13 kq12 kq11 k16 k15 k17 w23 w22 w21 w20 w19 w18 => ?_))))))))))))))
  have i24 := i32 x5
  have b25 := Bd.o hB0 io9_112_3_6 bd9_6_1
  have e26 : ((I6 3 1) : Int32).toInt = (I 3 1).toInt := Eq.trans (congrArg Int32.toInt kq11) rfl
  have kz27 : ((I6 3 1) : Int32).toInt = (I 3 1).toInt := e26
  have b28 := Bd.o hB0 io9_112_97_12 bd9_12_8
  have e29 : ((I6 97 8) : Int32).toInt = (I 97 8).toInt := Eq.trans (congrArg Int32.toInt kq12) rfl
  have kz30 : ((I6 97 8) : Int32).toInt = (I 97 8).toInt := e29
  have b31 := Bd.o hB0 io9_112_1_11 bd9_11_13
  have e32 : ((I6 1 13) : Int32).toInt = (I 1 13).toInt := Eq.trans (congrArg Int32.toInt kq13) rfl
  have kz33 : ((I6 1 13) : Int32).toInt = (I 1 13).toInt := e32
  have b34 := Bd.o hB0 io9_112_97_12 bd9_12_23
  have e35 : ((I6 97 23) : Int32).toInt = (I 97 23).toInt := Eq.trans (congrArg Int32.toInt kq14) rfl
  have kz36 : ((I6 97 23) : Int32).toInt = (I 97 23).toInt := e35
  refine ⟨vp_of (a := (v3.toInt + 1)) e1 (by omega) (by omega), ?_⟩
  have z37 := i32 (xs (Int32.toNatClampNeg (v3 + 1)))
  refine ⟨vp_of (a := (v3.toInt + 2)) e3 (by omega) (by omega), ?_⟩
  have z38 := i32 (xs (Int32.toNatClampNeg (v3 + 2)))
  refine ⟨⟨hF0, rfl⟩, ?_⟩
  refine kp7 rfl hR0 rfl (kpA rfl (kpnm rfl hR0 rfl (kx (mx_give9 (now_9 hR0) (FrCk.z102 (now_9 hR0) w22.2.2) (W9.mm hW9) w22.2.1) (kpN9 rfl (kp6 rfl hR0 rfl (kp4 rfl (kp5 rfl hR0 rfl (kp0 rfl (kp1 rfl (kp2 rfl (kp3 rfl (sp_X12_give hB8 hR0 (fun x39 y44 I40 J41 hB42 p43 kq48 kq47 kq46 kq45 k50 k49 k51 w56 w55 w54 w53 w52 => ?_)))))))))))))
  have f57 : Fr pK I6 I40 := p43
  have i58 := i32 x39
  have e59 : ((I40 3 1) : Int32).toInt = (I 3 1).toInt := Eq.trans (congrArg Int32.toInt (Eq.trans kq45 kq11)) rfl
  have kz60 : ((I40 3 1) : Int32).toInt = (I 3 1).toInt := e59
  have e61 : ((I40 97 8) : Int32).toInt = (I 97 8).toInt := Eq.trans (congrArg Int32.toInt (Eq.trans kq46 kq12)) rfl
  have kz62 : ((I40 97 8) : Int32).toInt = (I 97 8).toInt := e61
  have e63 : ((I40 1 13) : Int32).toInt = (I 1 13).toInt := Eq.trans (congrArg Int32.toInt (Eq.trans kq47 kq13)) rfl
  have kz64 : ((I40 1 13) : Int32).toInt = (I 1 13).toInt := e63
  have e65 : ((I40 97 23) : Int32).toInt = (I 97 23).toInt := Eq.trans (congrArg Int32.toInt (Eq.trans kq48 kq14)) rfl
  have kz66 : ((I40 97 23) : Int32).toInt = (I 97 23).toInt := e65
  have hg67 : (x39 : Int32).toInt = (x5 : Int32).toInt := congrArg Int32.toInt (w55.1.trans w22.1.symm)
  exact hN _ _ R hB42 hR0 hF0 ⟨(Eq.trans (e59) (Eq.trans hL0 (Eq.symm (e61)))), (Eq.trans (e63) (Eq.trans hL1 (Eq.symm (e65)))), (RT.kp (RT.kp hL2 k15 k16) k49 k50), trivial⟩ (R3.kp (R3.kp hR3 w18 (by have ya : ((I6 3 1) : Int32).toInt = (I 3 1).toInt := e26; have yb : ((I 3 1) : Int32).toInt = (I 3 1).toInt := rfl; omega)) w52 (by have ya : ((I40 3 1) : Int32).toInt = (I 3 1).toInt := e59; have yb : ((I6 3 1) : Int32).toInt = (I 3 1).toInt := e26; omega)) (RM.kp hR0 (RM.kp hR0 hRM ⟨w19, w20, (fun j _ => congrFun w21.1 j)⟩) ⟨w53, w54, (fun j hj => f57.1 j hj)⟩) trivial (W9.two hR0 hW9 w22.2.2 w55.2.2 w55.2.1) (TQ9.kp hTQ (KQ9.tr w23 w56) (k50.2.trans k16.2))
set_option maxRecDepth 100000 in
set_option maxHeartbeats 2000000 in
theorem lc_22 {Q : Nat → Qt} {P : Kt} {L : Nat} {xs : Nat → Int32} (hc : Cl (AM 640) false true L xs 2 112 kL_law Q P) (hL : L ≤ 3584) {v3 : Int32} {I : Im} {J : Jm} {R : Rm} (hB0 : Bd I) (hR0 : RI R) (hF0 : Fl R) (hL0 : (I 3 1).toInt = (I 97 8).toInt) (hL1 : (I 1 13).toInt = (I 97 23).toInt) (hL2 : RT I) (hL3 : True) (hR3 : R3 I J) (hRM : RM I J R) (hFQ : True) (hW9 : W9 I R) (hTQ : TQ9 I J) (h0 : 0 ≤ v3.toInt) (h7 : v3.toInt + 7 ≤ (L : Int)) (hN : ∀ (I : Im) (J : Jm) (R : Rm), Bd I → RI R → Fl R → RLz I → R3 I J → RM I J R → True → W9 I R → TQ9 I J → P 1889 112 [(0, .ref 0), (1, .ref 1), (2, .ref 97), (3, .int v3)] [] I J R) : P 930 112 [(0, .ref 0), (1, .ref 1), (2, .ref 97), (3, .int v3)] [] I J R := by
  have i_v3 := i32 v3
  have e97 : I 97 8 = nI (fl I) := (Int32.toInt_inj.mp hL0).symm.trans (fl_bd hB0).1
  have b31 := Bd.o hB0 io9_112_3_6 bd9_6_1
  refine ls_930 hc v3 _ _ _ ?_
  have e1 : ((v3 + 1) : Int32).toInt = (v3.toInt) + (1) := ti_add rfl rfl (by omega)
  refine ⟨vp_of (a := (v3.toInt + 1)) e1 (by omega) (by omega), ?_⟩
  have z2 := i32 (xs (Int32.toNatClampNeg (v3 + 1)))
  have e3 : ((v3 + 2) : Int32).toInt = (v3.toInt) + (2) := ti_add rfl rfl (by omega)
  refine ⟨vp_of (a := (v3.toInt + 2)) e3 (by omega) (by omega), ?_⟩
  have z4 := i32 (xs (Int32.toNatClampNeg (v3 + 2)))
  refine ⟨⟨hF0, rfl⟩, ?_⟩
  refine kp7 rfl hR0 rfl (kpA rfl (kpnm rfl hR0 rfl (kp102 rfl hR0 rfl (kx (cx_take9 hR0 hRM.1.1 (W9.mm hW9) (W9.hs hW9)) (kpN9 rfl (kp6 rfl hR0 rfl (kp4 rfl (kp5 rfl hR0 rfl (kp0 rfl (kp1 rfl (kp2 rfl (kp3 rfl (sp_X11_take hB0 hR0 (fun x5 y10 I6 J7 hB8 p9 kq14 kq13 kq12 kq11 k16 k15 k17 w23 w22 w21 w20 w19 w18 => ?_))))))))))))))
  have i24 := i32 x5
  have b25 := Bd.o hB0 io9_112_3_6 bd9_6_1
  have e26 : ((I6 3 1) : Int32).toInt = (I 3 1).toInt := Eq.trans (congrArg Int32.toInt kq11) rfl
  have kz27 : ((I6 3 1) : Int32).toInt = (I 3 1).toInt := e26
  have b28 := Bd.o hB0 io9_112_97_12 bd9_12_8
  have e29 : ((I6 97 8) : Int32).toInt = (I 97 8).toInt := Eq.trans (congrArg Int32.toInt kq12) rfl
  have kz30 : ((I6 97 8) : Int32).toInt = (I 97 8).toInt := e29
  have b31 := Bd.o hB0 io9_112_1_11 bd9_11_13
  have e32 : ((I6 1 13) : Int32).toInt = (I 1 13).toInt := Eq.trans (congrArg Int32.toInt kq13) rfl
  have kz33 : ((I6 1 13) : Int32).toInt = (I 1 13).toInt := e32
  have b34 := Bd.o hB0 io9_112_97_12 bd9_12_23
  have e35 : ((I6 97 23) : Int32).toInt = (I 97 23).toInt := Eq.trans (congrArg Int32.toInt kq14) rfl
  have kz36 : ((I6 97 23) : Int32).toInt = (I 97 23).toInt := e35
  refine ⟨vp_of (a := (v3.toInt + 1)) e1 (by omega) (by omega), ?_⟩
  have z37 := i32 (xs (Int32.toNatClampNeg (v3 + 1)))
  refine ⟨vp_of (a := (v3.toInt + 2)) e3 (by omega) (by omega), ?_⟩
  have z38 := i32 (xs (Int32.toNatClampNeg (v3 + 2)))
  refine ⟨⟨hF0, rfl⟩, ?_⟩
  refine kp7 rfl hR0 rfl (kpA rfl (kpnm rfl hR0 rfl (kx (mx_take9 (now_9 hR0) (FrCk.z102 (now_9 hR0) w22.2.2) (W9.mm hW9) w22.2.1) (kpN9 rfl (kp6 rfl hR0 rfl (kp4 rfl (kp5 rfl hR0 rfl (kp0 rfl (kp1 rfl (kp2 rfl (kp3 rfl (sp_X12_take hB8 hR0 (fun x39 y44 I40 J41 hB42 p43 kq48 kq47 kq46 kq45 k50 k49 k51 w56 w55 w54 w53 w52 => ?_)))))))))))))
  have f57 : Fr pK I6 I40 := p43
  have i58 := i32 x39
  have e59 : ((I40 3 1) : Int32).toInt = (I 3 1).toInt := Eq.trans (congrArg Int32.toInt (Eq.trans kq45 kq11)) rfl
  have kz60 : ((I40 3 1) : Int32).toInt = (I 3 1).toInt := e59
  have e61 : ((I40 97 8) : Int32).toInt = (I 97 8).toInt := Eq.trans (congrArg Int32.toInt (Eq.trans kq46 kq12)) rfl
  have kz62 : ((I40 97 8) : Int32).toInt = (I 97 8).toInt := e61
  have e63 : ((I40 1 13) : Int32).toInt = (I 1 13).toInt := Eq.trans (congrArg Int32.toInt (Eq.trans kq47 kq13)) rfl
  have kz64 : ((I40 1 13) : Int32).toInt = (I 1 13).toInt := e63
  have e65 : ((I40 97 23) : Int32).toInt = (I 97 23).toInt := Eq.trans (congrArg Int32.toInt (Eq.trans kq48 kq14)) rfl
  have kz66 : ((I40 97 23) : Int32).toInt = (I 97 23).toInt := e65
  have hg67 : (x39 : Int32).toInt = (x5 : Int32).toInt := congrArg Int32.toInt (w55.1.trans w22.1.symm)
  exact hN _ _ R hB42 hR0 hF0 ⟨(Eq.trans (e59) (Eq.trans hL0 (Eq.symm (e61)))), (Eq.trans (e63) (Eq.trans hL1 (Eq.symm (e65)))), (RT.kp (RT.kp hL2 k15 k16) k49 k50), trivial⟩ (R3.kp (R3.kp hR3 w18 (by have ya : ((I6 3 1) : Int32).toInt = (I 3 1).toInt := e26; have yb : ((I 3 1) : Int32).toInt = (I 3 1).toInt := rfl; omega)) w52 (by have ya : ((I40 3 1) : Int32).toInt = (I 3 1).toInt := e59; have yb : ((I6 3 1) : Int32).toInt = (I 3 1).toInt := e26; omega)) (RM.kp hR0 (RM.kp hR0 hRM ⟨w19, w20, (fun j _ => congrFun w21.1 j)⟩) ⟨w53, w54, (fun j hj => f57.1 j hj)⟩) trivial (W9.two hR0 hW9 w22.2.2 w55.2.2 w55.2.1) (TQ9.kp hTQ (KQ9.tr w23 w56) (k50.2.trans k16.2))
set_option maxRecDepth 100000 in
set_option maxHeartbeats 2000000 in
theorem lc_23 {Q : Nat → Qt} {P : Kt} {L : Nat} {xs : Nat → Int32} (hc : Cl (AM 640) false true L xs 2 112 kL_law Q P) (hL : L ≤ 3584) {v3 : Int32} {I : Im} {J : Jm} {R : Rm} (hB0 : Bd I) (hR0 : RI R) (hF0 : Fl R) (hL0 : (I 3 1).toInt = (I 97 8).toInt) (hL1 : (I 1 13).toInt = (I 97 23).toInt) (hL2 : RT I) (hL3 : True) (hR3 : R3 I J) (hRM : RM I J R) (hFQ : True) (hW9 : W9 I R) (hTQ : TQ9 I J) (h0 : 0 ≤ v3.toInt) (h7 : v3.toInt + 7 ≤ (L : Int)) (hN : ∀ (I : Im) (J : Jm) (R : Rm), Bd I → RI R → Fl R → RLz I → R3 I J → RM I J R → True → W9 I R → TQ9 I J → P 1889 112 [(0, .ref 0), (1, .ref 1), (2, .ref 97), (3, .int v3)] [] I J R) : P 963 112 [(0, .ref 0), (1, .ref 1), (2, .ref 97), (3, .int v3)] [] I J R := by
  have i_v3 := i32 v3
  have e97 : I 97 8 = nI (fl I) := (Int32.toInt_inj.mp hL0).symm.trans (fl_bd hB0).1
  have b31 := Bd.o hB0 io9_112_3_6 bd9_6_1
  refine ls_963 hc v3 _ _ _ ?_
  have e1 : ((v3 + 1) : Int32).toInt = (v3.toInt) + (1) := ti_add rfl rfl (by omega)
  refine ⟨vp_of (a := (v3.toInt + 1)) e1 (by omega) (by omega), ?_⟩
  have z2 := i32 (xs (Int32.toNatClampNeg (v3 + 1)))
  have e3 : ((v3 + 2) : Int32).toInt = (v3.toInt) + (2) := ti_add rfl rfl (by omega)
  refine ⟨vp_of (a := (v3.toInt + 2)) e3 (by omega) (by omega), ?_⟩
  have z4 := i32 (xs (Int32.toNatClampNeg (v3 + 2)))
  have e5 : ((v3 + 3) : Int32).toInt = (v3.toInt) + (3) := ti_add rfl rfl (by omega)
  refine ⟨vp_of (a := (v3.toInt + 3)) e5 (by omega) (by omega), ?_⟩
  have z6 := i32 (xs (Int32.toNatClampNeg (v3 + 3)))
  refine ⟨⟨hF0, rfl⟩, ?_⟩
  refine kp7 rfl hR0 rfl (kpA rfl (kpnm rfl hR0 rfl (kp102 rfl hR0 rfl (kx (cx_owe9 hB0 hR0) (kpN9 rfl (kp6 rfl hR0 rfl (kp4 rfl (kp5 rfl hR0 rfl (kp0 rfl (kp1 rfl (kp2 rfl (kp3 rfl (sp_X11_owe hB0 hR0 (fun x7 y12 I8 J9 hB10 p11 kq16 kq15 kq14 kq13 k18 k17 k19 w25 w24 w23 w22 w21 w20 => ?_))))))))))))))
  intro o26
  have i27 := i32 x7
  have b28 := Bd.o hB0 io9_112_3_6 bd9_6_1
  have e29 : ((I8 3 1) : Int32).toInt = (I 3 1).toInt := Eq.trans (congrArg Int32.toInt kq13) rfl
  have kz30 : ((I8 3 1) : Int32).toInt = (I 3 1).toInt := e29
  have b31 := Bd.o hB0 io9_112_97_12 bd9_12_8
  have e32 : ((I8 97 8) : Int32).toInt = (I 97 8).toInt := Eq.trans (congrArg Int32.toInt kq14) rfl
  have kz33 : ((I8 97 8) : Int32).toInt = (I 97 8).toInt := e32
  have b34 := Bd.o hB0 io9_112_1_11 bd9_11_13
  have e35 : ((I8 1 13) : Int32).toInt = (I 1 13).toInt := Eq.trans (congrArg Int32.toInt kq15) rfl
  have kz36 : ((I8 1 13) : Int32).toInt = (I 1 13).toInt := e35
  have b37 := Bd.o hB0 io9_112_97_12 bd9_12_23
  have e38 : ((I8 97 23) : Int32).toInt = (I 97 23).toInt := Eq.trans (congrArg Int32.toInt kq16) rfl
  have kz39 : ((I8 97 23) : Int32).toInt = (I 97 23).toInt := e38
  refine ⟨vp_of (a := (v3.toInt + 1)) e1 (by omega) (by omega), ?_⟩
  have z40 := i32 (xs (Int32.toNatClampNeg (v3 + 1)))
  refine ⟨vp_of (a := (v3.toInt + 2)) e3 (by omega) (by omega), ?_⟩
  have z41 := i32 (xs (Int32.toNatClampNeg (v3 + 2)))
  refine ⟨vp_of (a := (v3.toInt + 3)) e5 (by omega) (by omega), ?_⟩
  have z42 := i32 (xs (Int32.toNatClampNeg (v3 + 3)))
  refine ⟨⟨hF0, rfl⟩, ?_⟩
  refine kp7 rfl hR0 rfl (kpA rfl (kpnm rfl hR0 rfl (kx (mx_owe9 hR0 hRM.1.1 hW9 w24) (kpN9 rfl (kp6 rfl hR0 rfl (kp4 rfl (kp5 rfl hR0 rfl (kp0 rfl (kp1 rfl (kp2 rfl (kp3 rfl (sp_X12_owe hB10 hR0 (fun x43 y48 I44 J45 hB46 p47 kq52 kq51 kq50 kq49 k54 k53 k55 w60 w59 w58 w57 w56 => ?_)))))))))))))
  intro o61
  have f62 : Fr pK I8 I44 := p47
  have i63 := i32 x43
  have e64 : ((I44 3 1) : Int32).toInt = (I 3 1).toInt := Eq.trans (congrArg Int32.toInt (Eq.trans kq49 kq13)) rfl
  have kz65 : ((I44 3 1) : Int32).toInt = (I 3 1).toInt := e64
  have e66 : ((I44 97 8) : Int32).toInt = (I 97 8).toInt := Eq.trans (congrArg Int32.toInt (Eq.trans kq50 kq14)) rfl
  have kz67 : ((I44 97 8) : Int32).toInt = (I 97 8).toInt := e66
  have e68 : ((I44 1 13) : Int32).toInt = (I 1 13).toInt := Eq.trans (congrArg Int32.toInt (Eq.trans kq51 kq15)) rfl
  have kz69 : ((I44 1 13) : Int32).toInt = (I 1 13).toInt := e68
  have e70 : ((I44 97 23) : Int32).toInt = (I 97 23).toInt := Eq.trans (congrArg Int32.toInt (Eq.trans kq52 kq16)) rfl
  have kz71 : ((I44 97 23) : Int32).toInt = (I 97 23).toInt := e70
  have hg72 : (x43 : Int32).toInt = (x7 : Int32).toInt := congrArg Int32.toInt (w59.1)
  exact hN _ _ R hB46 hR0 hF0 ⟨(Eq.trans (e64) (Eq.trans hL0 (Eq.symm (e66)))), (Eq.trans (e68) (Eq.trans hL1 (Eq.symm (e70)))), (RT.kp (RT.kp hL2 k17 k18) k53 k54), trivial⟩ (R3.kp (R3.kp hR3 w20 (by have ya : ((I8 3 1) : Int32).toInt = (I 3 1).toInt := e29; have yb : ((I 3 1) : Int32).toInt = (I 3 1).toInt := rfl; omega)) w56 (by have ya : ((I44 3 1) : Int32).toInt = (I 3 1).toInt := e64; have yb : ((I8 3 1) : Int32).toInt = (I 3 1).toInt := e29; omega)) (RM.kp hR0 (RM.kp hR0 hRM ⟨w21, w22, (fun j _ => congrFun w23.1 j)⟩) ⟨w57, w58, (fun j hj => f62.1 j hj)⟩) trivial (w59.2) (TQ9.kp hTQ (KQ9.tr w25 w60) (k54.2.trans k18.2))
set_option maxRecDepth 100000 in
set_option maxHeartbeats 2000000 in
theorem lc_24 {Q : Nat → Qt} {P : Kt} {L : Nat} {xs : Nat → Int32} (hc : Cl (AM 640) false true L xs 2 112 kL_law Q P) (hL : L ≤ 3584) {v3 : Int32} {I : Im} {J : Jm} {R : Rm} (hB0 : Bd I) (hR0 : RI R) (hF0 : Fl R) (hL0 : (I 3 1).toInt = (I 97 8).toInt) (hL1 : (I 1 13).toInt = (I 97 23).toInt) (hL2 : RT I) (hL3 : True) (hR3 : R3 I J) (hRM : RM I J R) (hFQ : True) (hW9 : W9 I R) (hTQ : TQ9 I J) (h0 : 0 ≤ v3.toInt) (h7 : v3.toInt + 7 ≤ (L : Int)) (hN : ∀ (I : Im) (J : Jm) (R : Rm), Bd I → RI R → Fl R → RLz I → R3 I J → RM I J R → True → W9 I R → TQ9 I J → P 1889 112 [(0, .ref 0), (1, .ref 1), (2, .ref 97), (3, .int v3)] [] I J R) : P 1006 112 [(0, .ref 0), (1, .ref 1), (2, .ref 97), (3, .int v3)] [] I J R := by
  have i_v3 := i32 v3
  have e97 : I 97 8 = nI (fl I) := (Int32.toInt_inj.mp hL0).symm.trans (fl_bd hB0).1
  have b31 := Bd.o hB0 io9_112_3_6 bd9_6_1
  refine ls_1006 hc v3 _ _ _ ?_
  have e1 : ((v3 + 1) : Int32).toInt = (v3.toInt) + (1) := ti_add rfl rfl (by omega)
  refine ⟨vp_of (a := (v3.toInt + 1)) e1 (by omega) (by omega), ?_⟩
  have z2 := i32 (xs (Int32.toNatClampNeg (v3 + 1)))
  have e3 : ((v3 + 2) : Int32).toInt = (v3.toInt) + (2) := ti_add rfl rfl (by omega)
  refine ⟨vp_of (a := (v3.toInt + 2)) e3 (by omega) (by omega), ?_⟩
  have z4 := i32 (xs (Int32.toNatClampNeg (v3 + 2)))
  refine ⟨⟨hF0, rfl⟩, ?_⟩
  refine kp7 rfl hR0 rfl (kx (cx_come hB0 hR0) (kx (cx_come9 hB0 hR0) (kpT9 rfl hR0 rfl (kp6 rfl hR0 rfl (kp4 rfl (kp5 rfl hR0 rfl (kp0 rfl (kp1 rfl (kp2 rfl (kp3 rfl (sp_X11_come hB0 hR0 (fun x5 y10 I6 J7 hB8 p9 kq14 kq13 kq12 kq11 k16 k15 k17 w21 w20 w19 w18 => ?_))))))))))))
  have i22 := i32 x5
  have b23 := Bd.o hB0 io9_112_3_6 bd9_6_1
  have e24 : ((I6 3 1) : Int32).toInt = (I 3 1).toInt := Eq.trans (congrArg Int32.toInt kq11) rfl
  have kz25 : ((I6 3 1) : Int32).toInt = (I 3 1).toInt := e24
  have b26 := Bd.o hB0 io9_112_97_12 bd9_12_8
  have e27 : ((I6 97 8) : Int32).toInt = (I 97 8).toInt := Eq.trans (congrArg Int32.toInt kq12) rfl
  have kz28 : ((I6 97 8) : Int32).toInt = (I 97 8).toInt := e27
  have b29 := Bd.o hB0 io9_112_1_11 bd9_11_13
  have e30 : ((I6 1 13) : Int32).toInt = (I 1 13).toInt := Eq.trans (congrArg Int32.toInt kq13) rfl
  have kz31 : ((I6 1 13) : Int32).toInt = (I 1 13).toInt := e30
  have b32 := Bd.o hB0 io9_112_97_12 bd9_12_23
  have e33 : ((I6 97 23) : Int32).toInt = (I 97 23).toInt := Eq.trans (congrArg Int32.toInt kq14) rfl
  have kz34 : ((I6 97 23) : Int32).toInt = (I 97 23).toInt := e33
  refine ⟨vp_of (a := (v3.toInt + 1)) e1 (by omega) (by omega), ?_⟩
  have z35 := i32 (xs (Int32.toNatClampNeg (v3 + 1)))
  refine ⟨vp_of (a := (v3.toInt + 2)) e3 (by omega) (by omega), ?_⟩
  have z36 := i32 (xs (Int32.toNatClampNeg (v3 + 2)))
  refine ⟨⟨hF0, rfl⟩, ?_⟩
  refine kp7 rfl hR0 rfl (kx (mx_come hB8) (kx (mx_come9 (J := J) hR0 hRM.1.1 hW9 w20) (kpT9 rfl hR0 rfl (kp6 rfl hR0 rfl (kp4 rfl (kp5 rfl hR0 rfl (kp0 rfl (kp1 rfl (kp2 rfl (kp3 rfl (sp_X12_come hB8 hR0 (fun x37 y42 I38 J39 hB40 p41 kq46 kq45 kq44 kq43 k48 k47 k49 w53 w52 w51 w50 => ?_))))))))))))
  have i54 := i32 x37
  have e55 : ((I38 3 1) : Int32).toInt = (I 3 1).toInt := Eq.trans (congrArg Int32.toInt (Eq.trans kq43 kq11)) rfl
  have kz56 : ((I38 3 1) : Int32).toInt = (I 3 1).toInt := e55
  have e57 : ((I38 97 8) : Int32).toInt = (I 97 8).toInt := Eq.trans (congrArg Int32.toInt (Eq.trans kq44 kq12)) rfl
  have kz58 : ((I38 97 8) : Int32).toInt = (I 97 8).toInt := e57
  have e59 : ((I38 1 13) : Int32).toInt = (I 1 13).toInt := Eq.trans (congrArg Int32.toInt (Eq.trans kq45 kq13)) rfl
  have kz60 : ((I38 1 13) : Int32).toInt = (I 1 13).toInt := e59
  have e61 : ((I38 97 23) : Int32).toInt = (I 97 23).toInt := Eq.trans (congrArg Int32.toInt (Eq.trans kq46 kq14)) rfl
  have kz62 : ((I38 97 23) : Int32).toInt = (I 97 23).toInt := e61
  have hg63 : (x37 : Int32).toInt = (x5 : Int32).toInt := congrArg Int32.toInt (w52.1)
  have hr64 := RM.come hB0 hR0 hRM w19 w51
  have hg65 : (x37 : Int32).toInt = (x5 : Int32).toInt := congrArg Int32.toInt hr64.2
  exact hN _ _ R hB40 hR0 hF0 ⟨(Eq.trans (e55) (Eq.trans hL0 (Eq.symm (e57)))), (Eq.trans (e59) (Eq.trans hL1 (Eq.symm (e61)))), (RT.kp (RT.kp hL2 k15 k16) k47 k48), trivial⟩ (R3.kp (R3.kp hR3 w18 (by have ya : ((I6 3 1) : Int32).toInt = (I 3 1).toInt := e24; have yb : ((I 3 1) : Int32).toInt = (I 3 1).toInt := rfl; omega)) w50 (by have ya : ((I38 3 1) : Int32).toInt = (I 3 1).toInt := e55; have yb : ((I6 3 1) : Int32).toInt = (I 3 1).toInt := e24; omega)) (hr64.1) trivial (w52.2) (TQ9.kp hTQ (KQ9.tr w21 w53) (k48.2.trans k16.2))
set_option maxRecDepth 100000 in
set_option maxHeartbeats 2000000 in
theorem lc_25 {Q : Nat → Qt} {P : Kt} {L : Nat} {xs : Nat → Int32} (hc : Cl (AM 640) false true L xs 2 112 kL_law Q P) (hL : L ≤ 3584) {v3 : Int32} {I : Im} {J : Jm} {R : Rm} (hB0 : Bd I) (hR0 : RI R) (hF0 : Fl R) (hL0 : (I 3 1).toInt = (I 97 8).toInt) (hL1 : (I 1 13).toInt = (I 97 23).toInt) (hL2 : RT I) (hL3 : True) (hR3 : R3 I J) (hRM : RM I J R) (hFQ : True) (hW9 : W9 I R) (hTQ : TQ9 I J) (h0 : 0 ≤ v3.toInt) (h7 : v3.toInt + 7 ≤ (L : Int)) (hN : ∀ (I : Im) (J : Jm) (R : Rm), Bd I → RI R → Fl R → RLz I → R3 I J → RM I J R → True → W9 I R → TQ9 I J → P 1889 112 [(0, .ref 0), (1, .ref 1), (2, .ref 97), (3, .int v3)] [] I J R) : P 1039 112 [(0, .ref 0), (1, .ref 1), (2, .ref 97), (3, .int v3)] [] I J R := by
  have i_v3 := i32 v3
  have e97 : I 97 8 = nI (fl I) := (Int32.toInt_inj.mp hL0).symm.trans (fl_bd hB0).1
  have b31 := Bd.o hB0 io9_112_3_6 bd9_6_1
  refine ls_1039 hc v3 _ _ _ ?_
  have e1 : ((v3 + 1) : Int32).toInt = (v3.toInt) + (1) := ti_add rfl rfl (by omega)
  refine ⟨vp_of (a := (v3.toInt + 1)) e1 (by omega) (by omega), ?_⟩
  have z2 := i32 (xs (Int32.toNatClampNeg (v3 + 1)))
  have e3 : ((v3 + 2) : Int32).toInt = (v3.toInt) + (2) := ti_add rfl rfl (by omega)
  refine ⟨vp_of (a := (v3.toInt + 2)) e3 (by omega) (by omega), ?_⟩
  have z4 := i32 (xs (Int32.toNatClampNeg (v3 + 2)))
  refine ⟨fun c5 => ?_, fun c5 => ?_⟩
  · skip
    have d6 : (((xs (Int32.toNatClampNeg (v3 + 2))).toInt) : Int) = (0) := ci_eq rfl rfl c5
    refine ⟨⟨hF0, rfl⟩, ?_⟩
    refine kp7 rfl hR0 rfl (kx (cx_learn (Or.inl rfl) hR0) (kx (cx_learn9 hR0) (kpN9 rfl (kp6 rfl hR0 rfl (kp4 rfl (kp5 rfl hR0 rfl (kp0 rfl (kp1 rfl (kp2 rfl (kp3 rfl (sp_X11_learn hB0 hR0 (fun x7 y12 I8 J9 hB10 p11 kq16 kq15 kq14 kq13 k18 k17 k19 w23 w22 w21 w20 => ?_))))))))))))
    intro o24
    have i25 := i32 x7
    have b26 := Bd.o hB0 io9_112_3_6 bd9_6_1
    have e27 : ((I8 3 1) : Int32).toInt = (I 3 1).toInt := Eq.trans (congrArg Int32.toInt kq13) rfl
    have kz28 : ((I8 3 1) : Int32).toInt = (I 3 1).toInt := e27
    have b29 := Bd.o hB0 io9_112_97_12 bd9_12_8
    have e30 : ((I8 97 8) : Int32).toInt = (I 97 8).toInt := Eq.trans (congrArg Int32.toInt kq14) rfl
    have kz31 : ((I8 97 8) : Int32).toInt = (I 97 8).toInt := e30
    have b32 := Bd.o hB0 io9_112_1_11 bd9_11_13
    have e33 : ((I8 1 13) : Int32).toInt = (I 1 13).toInt := Eq.trans (congrArg Int32.toInt kq15) rfl
    have kz34 : ((I8 1 13) : Int32).toInt = (I 1 13).toInt := e33
    have b35 := Bd.o hB0 io9_112_97_12 bd9_12_23
    have e36 : ((I8 97 23) : Int32).toInt = (I 97 23).toInt := Eq.trans (congrArg Int32.toInt kq16) rfl
    have kz37 : ((I8 97 23) : Int32).toInt = (I 97 23).toInt := e36
    refine ⟨vp_of (a := (v3.toInt + 1)) e1 (by omega) (by omega), ?_⟩
    have z38 := i32 (xs (Int32.toNatClampNeg (v3 + 1)))
    refine ⟨vp_of (a := (v3.toInt + 2)) e3 (by omega) (by omega), ?_⟩
    have z39 := i32 (xs (Int32.toNatClampNeg (v3 + 2)))
    refine ⟨fun c40 => ?_, fun c40 => ?_⟩
    · skip
      have d41 : (((xs (Int32.toNatClampNeg (v3 + 2))).toInt) : Int) = (0) := ci_eq rfl rfl c40
      refine ⟨⟨hF0, rfl⟩, ?_⟩
      refine kp7 rfl hR0 rfl (kx (mx_learn hB10 (Or.inl rfl)) (kx (mx_learn9 hB10) (kpN9 rfl (kp6 rfl hR0 rfl (kp4 rfl (kp5 rfl hR0 rfl (kp0 rfl (kp1 rfl (kp2 rfl (kp3 rfl (sp_X12_learn hB10 hR0 (fun x42 y47 I43 J44 hB45 p46 kq51 kq50 kq49 kq48 k53 k52 k54 w58 w57 w56 w55 => ?_))))))))))))
      intro o59
      have i60 := i32 x42
      have e61 : ((I43 3 1) : Int32).toInt = (I 3 1).toInt := Eq.trans (congrArg Int32.toInt (Eq.trans kq48 kq13)) rfl
      have kz62 : ((I43 3 1) : Int32).toInt = (I 3 1).toInt := e61
      have e63 : ((I43 97 8) : Int32).toInt = (I 97 8).toInt := Eq.trans (congrArg Int32.toInt (Eq.trans kq49 kq14)) rfl
      have kz64 : ((I43 97 8) : Int32).toInt = (I 97 8).toInt := e63
      have e65 : ((I43 1 13) : Int32).toInt = (I 1 13).toInt := Eq.trans (congrArg Int32.toInt (Eq.trans kq50 kq15)) rfl
      have kz66 : ((I43 1 13) : Int32).toInt = (I 1 13).toInt := e65
      have e67 : ((I43 97 23) : Int32).toInt = (I 97 23).toInt := Eq.trans (congrArg Int32.toInt (Eq.trans kq51 kq16)) rfl
      have kz68 : ((I43 97 23) : Int32).toInt = (I 97 23).toInt := e67
      have hr69 := RM.learn hR0 hRM w21 w56
      have hg70 : (x42 : Int32).toInt = (x7 : Int32).toInt := congrArg Int32.toInt hr69.2
      exact hN _ _ R hB45 hR0 hF0 ⟨(Eq.trans (e61) (Eq.trans hL0 (Eq.symm (e63)))), (Eq.trans (e65) (Eq.trans hL1 (Eq.symm (e67)))), (RT.kp (RT.kp hL2 k17 k18) k52 k53), trivial⟩ (R3.kp (R3.kp hR3 w20 (by have ya : ((I8 3 1) : Int32).toInt = (I 3 1).toInt := e27; have yb : ((I 3 1) : Int32).toInt = (I 3 1).toInt := rfl; omega)) w55 (by have ya : ((I43 3 1) : Int32).toInt = (I 3 1).toInt := e61; have yb : ((I8 3 1) : Int32).toInt = (I 3 1).toInt := e27; omega)) (hr69.1) trivial (W9.learn hR0 hW9 w22 w57) (TQ9.kp hTQ (KQ9.tr w23 w58) (k53.2.trans k18.2))
    · skip
      have d71 : ¬ (((xs (Int32.toNatClampNeg (v3 + 2))).toInt) : Int) = (0) := ci_ne rfl rfl c40
      refine ⟨⟨hF0, rfl⟩, ?_⟩
      refine kp7 rfl hR0 rfl (kx (mx_learn hB10 (Or.inr rfl)) (kx (mx_learn9 hB10) (kpN9 rfl (kp6 rfl hR0 rfl (kp4 rfl (kp5 rfl hR0 rfl (kp0 rfl (kp1 rfl (kp2 rfl (kp3 rfl (sp_X12_learn hB10 hR0 (fun x72 y77 I73 J74 hB75 p76 kq81 kq80 kq79 kq78 k83 k82 k84 w88 w87 w86 w85 => ?_))))))))))))
      intro o89
      have i90 := i32 x72
      have e91 : ((I73 3 1) : Int32).toInt = (I 3 1).toInt := Eq.trans (congrArg Int32.toInt (Eq.trans kq78 kq13)) rfl
      have kz92 : ((I73 3 1) : Int32).toInt = (I 3 1).toInt := e91
      have e93 : ((I73 97 8) : Int32).toInt = (I 97 8).toInt := Eq.trans (congrArg Int32.toInt (Eq.trans kq79 kq14)) rfl
      have kz94 : ((I73 97 8) : Int32).toInt = (I 97 8).toInt := e93
      have e95 : ((I73 1 13) : Int32).toInt = (I 1 13).toInt := Eq.trans (congrArg Int32.toInt (Eq.trans kq80 kq15)) rfl
      have kz96 : ((I73 1 13) : Int32).toInt = (I 1 13).toInt := e95
      have e97 : ((I73 97 23) : Int32).toInt = (I 97 23).toInt := Eq.trans (congrArg Int32.toInt (Eq.trans kq81 kq16)) rfl
      have kz98 : ((I73 97 23) : Int32).toInt = (I 97 23).toInt := e97
      have hr99 : RM I73 J74 R ∧ x72 = x7 := False.elim (by omega)
      have hg100 : (x72 : Int32).toInt = (x7 : Int32).toInt := congrArg Int32.toInt hr99.2
      exact hN _ _ R hB75 hR0 hF0 ⟨(Eq.trans (e91) (Eq.trans hL0 (Eq.symm (e93)))), (Eq.trans (e95) (Eq.trans hL1 (Eq.symm (e97)))), (RT.kp (RT.kp hL2 k17 k18) k82 k83), trivial⟩ (R3.kp (R3.kp hR3 w20 (by have ya : ((I8 3 1) : Int32).toInt = (I 3 1).toInt := e27; have yb : ((I 3 1) : Int32).toInt = (I 3 1).toInt := rfl; omega)) w85 (by have ya : ((I73 3 1) : Int32).toInt = (I 3 1).toInt := e91; have yb : ((I8 3 1) : Int32).toInt = (I 3 1).toInt := e27; omega)) (hr99.1) trivial (W9.learn hR0 hW9 w22 w87) (TQ9.kp hTQ (KQ9.tr w23 w88) (k83.2.trans k18.2))
  · skip
    have d101 : ¬ (((xs (Int32.toNatClampNeg (v3 + 2))).toInt) : Int) = (0) := ci_ne rfl rfl c5
    refine ⟨⟨hF0, rfl⟩, ?_⟩
    refine kp7 rfl hR0 rfl (kx (cx_learn (Or.inr rfl) hR0) (kx (cx_learn9 hR0) (kpN9 rfl (kp6 rfl hR0 rfl (kp4 rfl (kp5 rfl hR0 rfl (kp0 rfl (kp1 rfl (kp2 rfl (kp3 rfl (sp_X11_learn hB0 hR0 (fun x102 y107 I103 J104 hB105 p106 kq111 kq110 kq109 kq108 k113 k112 k114 w118 w117 w116 w115 => ?_))))))))))))
    intro o119
    have i120 := i32 x102
    have b121 := Bd.o hB0 io9_112_3_6 bd9_6_1
    have e122 : ((I103 3 1) : Int32).toInt = (I 3 1).toInt := Eq.trans (congrArg Int32.toInt kq108) rfl
    have kz123 : ((I103 3 1) : Int32).toInt = (I 3 1).toInt := e122
    have b124 := Bd.o hB0 io9_112_97_12 bd9_12_8
    have e125 : ((I103 97 8) : Int32).toInt = (I 97 8).toInt := Eq.trans (congrArg Int32.toInt kq109) rfl
    have kz126 : ((I103 97 8) : Int32).toInt = (I 97 8).toInt := e125
    have b127 := Bd.o hB0 io9_112_1_11 bd9_11_13
    have e128 : ((I103 1 13) : Int32).toInt = (I 1 13).toInt := Eq.trans (congrArg Int32.toInt kq110) rfl
    have kz129 : ((I103 1 13) : Int32).toInt = (I 1 13).toInt := e128
    have b130 := Bd.o hB0 io9_112_97_12 bd9_12_23
    have e131 : ((I103 97 23) : Int32).toInt = (I 97 23).toInt := Eq.trans (congrArg Int32.toInt kq111) rfl
    have kz132 : ((I103 97 23) : Int32).toInt = (I 97 23).toInt := e131
    refine ⟨vp_of (a := (v3.toInt + 1)) e1 (by omega) (by omega), ?_⟩
    have z133 := i32 (xs (Int32.toNatClampNeg (v3 + 1)))
    refine ⟨vp_of (a := (v3.toInt + 2)) e3 (by omega) (by omega), ?_⟩
    have z134 := i32 (xs (Int32.toNatClampNeg (v3 + 2)))
    refine ⟨fun c135 => ?_, fun c135 => ?_⟩
    · skip
      have d136 : (((xs (Int32.toNatClampNeg (v3 + 2))).toInt) : Int) = (0) := ci_eq rfl rfl c135
      refine ⟨⟨hF0, rfl⟩, ?_⟩
      refine kp7 rfl hR0 rfl (kx (mx_learn hB105 (Or.inl rfl)) (kx (mx_learn9 hB105) (kpN9 rfl (kp6 rfl hR0 rfl (kp4 rfl (kp5 rfl hR0 rfl (kp0 rfl (kp1 rfl (kp2 rfl (kp3 rfl (sp_X12_learn hB105 hR0 (fun x137 y142 I138 J139 hB140 p141 kq146 kq145 kq144 kq143 k148 k147 k149 w153 w152 w151 w150 => ?_))))))))))))
      intro o154
      have i155 := i32 x137
      have e156 : ((I138 3 1) : Int32).toInt = (I 3 1).toInt := Eq.trans (congrArg Int32.toInt (Eq.trans kq143 kq108)) rfl
      have kz157 : ((I138 3 1) : Int32).toInt = (I 3 1).toInt := e156
      have e158 : ((I138 97 8) : Int32).toInt = (I 97 8).toInt := Eq.trans (congrArg Int32.toInt (Eq.trans kq144 kq109)) rfl
      have kz159 : ((I138 97 8) : Int32).toInt = (I 97 8).toInt := e158
      have e160 : ((I138 1 13) : Int32).toInt = (I 1 13).toInt := Eq.trans (congrArg Int32.toInt (Eq.trans kq145 kq110)) rfl
      have kz161 : ((I138 1 13) : Int32).toInt = (I 1 13).toInt := e160
      have e162 : ((I138 97 23) : Int32).toInt = (I 97 23).toInt := Eq.trans (congrArg Int32.toInt (Eq.trans kq146 kq111)) rfl
      have kz163 : ((I138 97 23) : Int32).toInt = (I 97 23).toInt := e162
      have hr164 : RM I138 J139 R ∧ x137 = x102 := False.elim (by omega)
      have hg165 : (x137 : Int32).toInt = (x102 : Int32).toInt := congrArg Int32.toInt hr164.2
      exact hN _ _ R hB140 hR0 hF0 ⟨(Eq.trans (e156) (Eq.trans hL0 (Eq.symm (e158)))), (Eq.trans (e160) (Eq.trans hL1 (Eq.symm (e162)))), (RT.kp (RT.kp hL2 k112 k113) k147 k148), trivial⟩ (R3.kp (R3.kp hR3 w115 (by have ya : ((I103 3 1) : Int32).toInt = (I 3 1).toInt := e122; have yb : ((I 3 1) : Int32).toInt = (I 3 1).toInt := rfl; omega)) w150 (by have ya : ((I138 3 1) : Int32).toInt = (I 3 1).toInt := e156; have yb : ((I103 3 1) : Int32).toInt = (I 3 1).toInt := e122; omega)) (hr164.1) trivial (W9.learn hR0 hW9 w117 w152) (TQ9.kp hTQ (KQ9.tr w118 w153) (k148.2.trans k113.2))
    · skip
      have d166 : ¬ (((xs (Int32.toNatClampNeg (v3 + 2))).toInt) : Int) = (0) := ci_ne rfl rfl c135
      refine ⟨⟨hF0, rfl⟩, ?_⟩
      refine kp7 rfl hR0 rfl (kx (mx_learn hB105 (Or.inr rfl)) (kx (mx_learn9 hB105) (kpN9 rfl (kp6 rfl hR0 rfl (kp4 rfl (kp5 rfl hR0 rfl (kp0 rfl (kp1 rfl (kp2 rfl (kp3 rfl (sp_X12_learn hB105 hR0 (fun x167 y172 I168 J169 hB170 p171 kq176 kq175 kq174 kq173 k178 k177 k179 w183 w182 w181 w180 => ?_))))))))))))
      intro o184
      have i185 := i32 x167
      have e186 : ((I168 3 1) : Int32).toInt = (I 3 1).toInt := Eq.trans (congrArg Int32.toInt (Eq.trans kq173 kq108)) rfl
      have kz187 : ((I168 3 1) : Int32).toInt = (I 3 1).toInt := e186
      have e188 : ((I168 97 8) : Int32).toInt = (I 97 8).toInt := Eq.trans (congrArg Int32.toInt (Eq.trans kq174 kq109)) rfl
      have kz189 : ((I168 97 8) : Int32).toInt = (I 97 8).toInt := e188
      have e190 : ((I168 1 13) : Int32).toInt = (I 1 13).toInt := Eq.trans (congrArg Int32.toInt (Eq.trans kq175 kq110)) rfl
      have kz191 : ((I168 1 13) : Int32).toInt = (I 1 13).toInt := e190
      have e192 : ((I168 97 23) : Int32).toInt = (I 97 23).toInt := Eq.trans (congrArg Int32.toInt (Eq.trans kq176 kq111)) rfl
      have kz193 : ((I168 97 23) : Int32).toInt = (I 97 23).toInt := e192
      have hr194 := RM.learn hR0 hRM w116 w181
      have hg195 : (x167 : Int32).toInt = (x102 : Int32).toInt := congrArg Int32.toInt hr194.2
      exact hN _ _ R hB170 hR0 hF0 ⟨(Eq.trans (e186) (Eq.trans hL0 (Eq.symm (e188)))), (Eq.trans (e190) (Eq.trans hL1 (Eq.symm (e192)))), (RT.kp (RT.kp hL2 k112 k113) k177 k178), trivial⟩ (R3.kp (R3.kp hR3 w115 (by have ya : ((I103 3 1) : Int32).toInt = (I 3 1).toInt := e122; have yb : ((I 3 1) : Int32).toInt = (I 3 1).toInt := rfl; omega)) w180 (by have ya : ((I168 3 1) : Int32).toInt = (I 3 1).toInt := e186; have yb : ((I103 3 1) : Int32).toInt = (I 3 1).toInt := e122; omega)) (hr194.1) trivial (W9.learn hR0 hW9 w117 w182) (TQ9.kp hTQ (KQ9.tr w118 w183) (k178.2.trans k113.2))
set_option maxRecDepth 100000 in
set_option maxHeartbeats 2000000 in
theorem lc_26 {Q : Nat → Qt} {P : Kt} {L : Nat} {xs : Nat → Int32} (hc : Cl (AM 640) false true L xs 2 112 kL_law Q P) (hL : L ≤ 3584) {v3 : Int32} {I : Im} {J : Jm} {R : Rm} (hB0 : Bd I) (hR0 : RI R) (hF0 : Fl R) (hL0 : (I 3 1).toInt = (I 97 8).toInt) (hL1 : (I 1 13).toInt = (I 97 23).toInt) (hL2 : RT I) (hL3 : True) (hR3 : R3 I J) (hRM : RM I J R) (hFQ : True) (hW9 : W9 I R) (hTQ : TQ9 I J) (h0 : 0 ≤ v3.toInt) (h7 : v3.toInt + 7 ≤ (L : Int)) (hN : ∀ (I : Im) (J : Jm) (R : Rm), Bd I → RI R → Fl R → RLz I → R3 I J → RM I J R → True → W9 I R → TQ9 I J → P 1889 112 [(0, .ref 0), (1, .ref 1), (2, .ref 97), (3, .int v3)] [] I J R) : P 1088 112 [(0, .ref 0), (1, .ref 1), (2, .ref 97), (3, .int v3)] [] I J R := by
  have i_v3 := i32 v3
  have e97 : I 97 8 = nI (fl I) := (Int32.toInt_inj.mp hL0).symm.trans (fl_bd hB0).1
  have b31 := Bd.o hB0 io9_112_3_6 bd9_6_1
  refine ls_1088 hc v3 _ _ _ ?_
  have e1 : ((v3 + 1) : Int32).toInt = (v3.toInt) + (1) := ti_add rfl rfl (by omega)
  refine ⟨vp_of (a := (v3.toInt + 1)) e1 (by omega) (by omega), ?_⟩
  have z2 := i32 (xs (Int32.toNatClampNeg (v3 + 1)))
  refine ⟨⟨hF0, rfl⟩, ?_⟩
  refine kp7 rfl hR0 rfl (kpA rfl (kpnm rfl hR0 rfl (kp102 rfl hR0 rfl (kx (cx_rule9 hR0) (kpN9 rfl (kp6 rfl hR0 rfl (kp4 rfl (kp5 rfl hR0 rfl (kp0 rfl (kp1 rfl (kp2 rfl (kp3 rfl (sp_X11_rule hB0 hR0 (fun x3 y8 I4 J5 hB6 p7 kq12 kq11 kq10 kq9 k14 k13 k15 w21 w20 w19 w18 w17 w16 => ?_))))))))))))))
  intro o22
  have i23 := i32 x3
  have b24 := Bd.o hB0 io9_112_3_6 bd9_6_1
  have e25 : ((I4 3 1) : Int32).toInt = (I 3 1).toInt := Eq.trans (congrArg Int32.toInt kq9) rfl
  have kz26 : ((I4 3 1) : Int32).toInt = (I 3 1).toInt := e25
  have b27 := Bd.o hB0 io9_112_97_12 bd9_12_8
  have e28 : ((I4 97 8) : Int32).toInt = (I 97 8).toInt := Eq.trans (congrArg Int32.toInt kq10) rfl
  have kz29 : ((I4 97 8) : Int32).toInt = (I 97 8).toInt := e28
  have b30 := Bd.o hB0 io9_112_1_11 bd9_11_13
  have e31 : ((I4 1 13) : Int32).toInt = (I 1 13).toInt := Eq.trans (congrArg Int32.toInt kq11) rfl
  have kz32 : ((I4 1 13) : Int32).toInt = (I 1 13).toInt := e31
  have b33 := Bd.o hB0 io9_112_97_12 bd9_12_23
  have e34 : ((I4 97 23) : Int32).toInt = (I 97 23).toInt := Eq.trans (congrArg Int32.toInt kq12) rfl
  have kz35 : ((I4 97 23) : Int32).toInt = (I 97 23).toInt := e34
  refine ⟨vp_of (a := (v3.toInt + 1)) e1 (by omega) (by omega), ?_⟩
  have z36 := i32 (xs (Int32.toNatClampNeg (v3 + 1)))
  refine ⟨⟨hF0, rfl⟩, ?_⟩
  refine kp7 rfl hR0 rfl (kpA rfl (kpnm rfl hR0 rfl (kx (mx_rule9 hR0 hW9 w20) (kpN9 rfl (kp6 rfl hR0 rfl (kp4 rfl (kp5 rfl hR0 rfl (kp0 rfl (kp1 rfl (kp2 rfl (kp3 rfl (sp_X12_rule hB6 hR0 (fun x37 y42 I38 J39 hB40 p41 kq46 kq45 kq44 kq43 k48 k47 k49 w54 w53 w52 w51 w50 => ?_)))))))))))))
  intro o55
  have f56 : Fr pK I4 I38 := p41.1
  have i57 := i32 x37
  have e58 : ((I38 3 1) : Int32).toInt = (I 3 1).toInt := Eq.trans (congrArg Int32.toInt (Eq.trans kq43 kq9)) rfl
  have kz59 : ((I38 3 1) : Int32).toInt = (I 3 1).toInt := e58
  have e60 : ((I38 97 8) : Int32).toInt = (I 97 8).toInt := Eq.trans (congrArg Int32.toInt (Eq.trans kq44 kq10)) rfl
  have kz61 : ((I38 97 8) : Int32).toInt = (I 97 8).toInt := e60
  have e62 : ((I38 1 13) : Int32).toInt = (I 1 13).toInt := Eq.trans (congrArg Int32.toInt (Eq.trans kq45 kq11)) rfl
  have kz63 : ((I38 1 13) : Int32).toInt = (I 1 13).toInt := e62
  have e64 : ((I38 97 23) : Int32).toInt = (I 97 23).toInt := Eq.trans (congrArg Int32.toInt (Eq.trans kq46 kq12)) rfl
  have kz65 : ((I38 97 23) : Int32).toInt = (I 97 23).toInt := e64
  have hg66 : (x37 : Int32).toInt = (x3 : Int32).toInt := congrArg Int32.toInt (w53.1)
  exact hN _ _ R hB40 hR0 hF0 ⟨(Eq.trans (e58) (Eq.trans hL0 (Eq.symm (e60)))), (Eq.trans (e62) (Eq.trans hL1 (Eq.symm (e64)))), (RT.kp (RT.kp hL2 k13 k14) k47 k48), trivial⟩ (R3.kp (R3.kp hR3 w16 (by have ya : ((I4 3 1) : Int32).toInt = (I 3 1).toInt := e25; have yb : ((I 3 1) : Int32).toInt = (I 3 1).toInt := rfl; omega)) w50 (by have ya : ((I38 3 1) : Int32).toInt = (I 3 1).toInt := e58; have yb : ((I4 3 1) : Int32).toInt = (I 3 1).toInt := e25; omega)) (RM.kp hR0 (RM.kp hR0 hRM ⟨w17, w18, (fun j _ => congrFun w19.1 j)⟩) ⟨w51, w52, (fun j hj => f56.1 j hj)⟩) trivial (w53.2) (TQ9.kp hTQ (KQ9.tr w21 w54) (k48.2.trans k14.2))
set_option maxRecDepth 100000 in
set_option maxHeartbeats 2000000 in
theorem lc_27 {Q : Nat → Qt} {P : Kt} {L : Nat} {xs : Nat → Int32} (hc : Cl (AM 640) false true L xs 2 112 kL_law Q P) (hL : L ≤ 3584) {v3 : Int32} {I : Im} {J : Jm} {R : Rm} (hB0 : Bd I) (hR0 : RI R) (hF0 : Fl R) (hL0 : (I 3 1).toInt = (I 97 8).toInt) (hL1 : (I 1 13).toInt = (I 97 23).toInt) (hL2 : RT I) (hL3 : True) (hR3 : R3 I J) (hRM : RM I J R) (hFQ : True) (hW9 : W9 I R) (hTQ : TQ9 I J) (h0 : 0 ≤ v3.toInt) (h7 : v3.toInt + 7 ≤ (L : Int)) (hN : ∀ (I : Im) (J : Jm) (R : Rm), Bd I → RI R → Fl R → RLz I → R3 I J → RM I J R → True → W9 I R → TQ9 I J → P 1889 112 [(0, .ref 0), (1, .ref 1), (2, .ref 97), (3, .int v3)] [] I J R) : P 1111 112 [(0, .ref 0), (1, .ref 1), (2, .ref 97), (3, .int v3)] [] I J R := by
  have i_v3 := i32 v3
  have e97 : I 97 8 = nI (fl I) := (Int32.toInt_inj.mp hL0).symm.trans (fl_bd hB0).1
  have b31 := Bd.o hB0 io9_112_3_6 bd9_6_1
  refine ls_1111 hc v3 _ _ _ ?_
  have e1 : ((v3 + 1) : Int32).toInt = (v3.toInt) + (1) := ti_add rfl rfl (by omega)
  refine ⟨vp_of (a := (v3.toInt + 1)) e1 (by omega) (by omega), ?_⟩
  have z2 := i32 (xs (Int32.toNatClampNeg (v3 + 1)))
  have e3 : ((v3 + 2) : Int32).toInt = (v3.toInt) + (2) := ti_add rfl rfl (by omega)
  refine ⟨vp_of (a := (v3.toInt + 2)) e3 (by omega) (by omega), ?_⟩
  have z4 := i32 (xs (Int32.toNatClampNeg (v3 + 2)))
  refine ⟨⟨hF0, rfl⟩, ?_⟩
  refine kp7 rfl hR0 rfl (kpA rfl (kpnm rfl hR0 rfl (kp102 rfl hR0 rfl (kpW9 rfl hR0 rfl (kpN9 rfl (kp6 rfl hR0 rfl (kp4 rfl (kp5 rfl hR0 rfl (kp0 rfl (kp1 rfl (kp2 rfl (kp3 rfl (sp_X11_fewest hB0 hR0 (fun x5 y10 I6 J7 hB8 p9 kq14 kq13 kq12 kq11 k16 k15 k17 w23 w22 w21 w20 w19 w18 => ?_))))))))))))))
  have i24 := i32 x5
  have b25 := Bd.o hB0 io9_112_3_6 bd9_6_1
  have e26 : ((I6 3 1) : Int32).toInt = (I 3 1).toInt := Eq.trans (congrArg Int32.toInt kq11) rfl
  have kz27 : ((I6 3 1) : Int32).toInt = (I 3 1).toInt := e26
  have b28 := Bd.o hB0 io9_112_97_12 bd9_12_8
  have e29 : ((I6 97 8) : Int32).toInt = (I 97 8).toInt := Eq.trans (congrArg Int32.toInt kq12) rfl
  have kz30 : ((I6 97 8) : Int32).toInt = (I 97 8).toInt := e29
  have b31 := Bd.o hB0 io9_112_1_11 bd9_11_13
  have e32 : ((I6 1 13) : Int32).toInt = (I 1 13).toInt := Eq.trans (congrArg Int32.toInt kq13) rfl
  have kz33 : ((I6 1 13) : Int32).toInt = (I 1 13).toInt := e32
  have b34 := Bd.o hB0 io9_112_97_12 bd9_12_23
  have e35 : ((I6 97 23) : Int32).toInt = (I 97 23).toInt := Eq.trans (congrArg Int32.toInt kq14) rfl
  have kz36 : ((I6 97 23) : Int32).toInt = (I 97 23).toInt := e35
  refine ⟨vp_of (a := (v3.toInt + 1)) e1 (by omega) (by omega), ?_⟩
  have z37 := i32 (xs (Int32.toNatClampNeg (v3 + 1)))
  refine ⟨vp_of (a := (v3.toInt + 2)) e3 (by omega) (by omega), ?_⟩
  have z38 := i32 (xs (Int32.toNatClampNeg (v3 + 2)))
  refine ⟨⟨hF0, rfl⟩, ?_⟩
  refine kp7 rfl hR0 rfl (kpA rfl (kpnm rfl hR0 rfl (kpW9 rfl hR0 rfl (kpN9 rfl (kp6 rfl hR0 rfl (kp4 rfl (kp5 rfl hR0 rfl (kp0 rfl (kp1 rfl (kp2 rfl (kp3 rfl (sp_X12_fewest hB8 hR0 (fun x39 y44 I40 J41 hB42 p43 kq48 kq47 kq46 kq45 k50 k49 k51 w56 w55 w54 w53 w52 => ?_)))))))))))))
  have f57 : Fr pT I6 I40 := p43
  have i58 := i32 x39
  have e59 : ((I40 3 1) : Int32).toInt = (I 3 1).toInt := Eq.trans (congrArg Int32.toInt (Eq.trans kq45 kq11)) rfl
  have kz60 : ((I40 3 1) : Int32).toInt = (I 3 1).toInt := e59
  have e61 : ((I40 97 8) : Int32).toInt = (I 97 8).toInt := Eq.trans (congrArg Int32.toInt (Eq.trans kq46 kq12)) rfl
  have kz62 : ((I40 97 8) : Int32).toInt = (I 97 8).toInt := e61
  have e63 : ((I40 1 13) : Int32).toInt = (I 1 13).toInt := Eq.trans (congrArg Int32.toInt (Eq.trans kq47 kq13)) rfl
  have kz64 : ((I40 1 13) : Int32).toInt = (I 1 13).toInt := e63
  have e65 : ((I40 97 23) : Int32).toInt = (I 97 23).toInt := Eq.trans (congrArg Int32.toInt (Eq.trans kq48 kq14)) rfl
  have kz66 : ((I40 97 23) : Int32).toInt = (I 97 23).toInt := e65
  exact hN _ _ R hB42 hR0 hF0 ⟨(Eq.trans (e59) (Eq.trans hL0 (Eq.symm (e61)))), (Eq.trans (e63) (Eq.trans hL1 (Eq.symm (e65)))), (RT.kp (RT.kp hL2 k15 k16) k49 k50), trivial⟩ (R3.kp (R3.kp hR3 w18 (by have ya : ((I6 3 1) : Int32).toInt = (I 3 1).toInt := e26; have yb : ((I 3 1) : Int32).toInt = (I 3 1).toInt := rfl; omega)) w52 (by have ya : ((I40 3 1) : Int32).toInt = (I 3 1).toInt := e59; have yb : ((I6 3 1) : Int32).toInt = (I 3 1).toInt := e26; omega)) (RM.kp hR0 (RM.kp hR0 hRM ⟨w19, w20, (fun j _ => congrFun w21.1 j)⟩) ⟨w53, w54, (fun j _ => f57.1 j trivial)⟩) trivial (W9.kp hR0 (W9.kp hR0 hW9 w22 w21.1 w19.2) w55 (funext fun j => f57.1 j trivial) w53.2) (TQ9.kp hTQ (KQ9.tr w23 w56) (k50.2.trans k16.2))
set_option maxRecDepth 100000 in
set_option maxHeartbeats 2000000 in
theorem lc_28 {Q : Nat → Qt} {P : Kt} {L : Nat} {xs : Nat → Int32} (hc : Cl (AM 640) false true L xs 2 112 kL_law Q P) (hL : L ≤ 3584) {v3 : Int32} {I : Im} {J : Jm} {R : Rm} (hB0 : Bd I) (hR0 : RI R) (hF0 : Fl R) (hL0 : (I 3 1).toInt = (I 97 8).toInt) (hL1 : (I 1 13).toInt = (I 97 23).toInt) (hL2 : RT I) (hL3 : True) (hR3 : R3 I J) (hRM : RM I J R) (hFQ : True) (hW9 : W9 I R) (hTQ : TQ9 I J) (h0 : 0 ≤ v3.toInt) (h7 : v3.toInt + 7 ≤ (L : Int)) (hN : ∀ (I : Im) (J : Jm) (R : Rm), Bd I → RI R → Fl R → RLz I → R3 I J → RM I J R → True → W9 I R → TQ9 I J → P 1889 112 [(0, .ref 0), (1, .ref 1), (2, .ref 97), (3, .int v3)] [] I J R) : P 1144 112 [(0, .ref 0), (1, .ref 1), (2, .ref 97), (3, .int v3)] [] I J R := by
  have i_v3 := i32 v3
  have e97 : I 97 8 = nI (fl I) := (Int32.toInt_inj.mp hL0).symm.trans (fl_bd hB0).1
  have b31 := Bd.o hB0 io9_112_3_6 bd9_6_1
  refine ls_1144 hc v3 _ _ _ ?_
  have e1 : ((v3 + 1) : Int32).toInt = (v3.toInt) + (1) := ti_add rfl rfl (by omega)
  refine ⟨vp_of (a := (v3.toInt + 1)) e1 (by omega) (by omega), ?_⟩
  have z2 := i32 (xs (Int32.toNatClampNeg (v3 + 1)))
  have e3 : ((v3 + 2) : Int32).toInt = (v3.toInt) + (2) := ti_add rfl rfl (by omega)
  refine ⟨vp_of (a := (v3.toInt + 2)) e3 (by omega) (by omega), ?_⟩
  have z4 := i32 (xs (Int32.toNatClampNeg (v3 + 2)))
  have e5 : ((v3 + 3) : Int32).toInt = (v3.toInt) + (3) := ti_add rfl rfl (by omega)
  refine ⟨vp_of (a := (v3.toInt + 3)) e5 (by omega) (by omega), ?_⟩
  have z6 := i32 (xs (Int32.toNatClampNeg (v3 + 3)))
  refine ⟨⟨hF0, rfl⟩, ?_⟩
  refine kp7 rfl hR0 rfl (kpA rfl (kpnm rfl hR0 rfl (kp102 rfl hR0 rfl (kpW9 rfl hR0 rfl (kpN9 rfl (kp6 rfl hR0 rfl (kp4 rfl (kp5 rfl hR0 rfl (kp0 rfl (kp1 rfl (kp2 rfl (kp3 rfl (sp_X11_fewestAt hB0 hR0 (fun x7 y12 I8 J9 hB10 p11 kq16 kq15 kq14 kq13 k18 k17 k19 w25 w24 w23 w22 w21 w20 => ?_))))))))))))))
  have i26 := i32 x7
  have b27 := Bd.o hB0 io9_112_3_6 bd9_6_1
  have e28 : ((I8 3 1) : Int32).toInt = (I 3 1).toInt := Eq.trans (congrArg Int32.toInt kq13) rfl
  have kz29 : ((I8 3 1) : Int32).toInt = (I 3 1).toInt := e28
  have b30 := Bd.o hB0 io9_112_97_12 bd9_12_8
  have e31 : ((I8 97 8) : Int32).toInt = (I 97 8).toInt := Eq.trans (congrArg Int32.toInt kq14) rfl
  have kz32 : ((I8 97 8) : Int32).toInt = (I 97 8).toInt := e31
  have b33 := Bd.o hB0 io9_112_1_11 bd9_11_13
  have e34 : ((I8 1 13) : Int32).toInt = (I 1 13).toInt := Eq.trans (congrArg Int32.toInt kq15) rfl
  have kz35 : ((I8 1 13) : Int32).toInt = (I 1 13).toInt := e34
  have b36 := Bd.o hB0 io9_112_97_12 bd9_12_23
  have e37 : ((I8 97 23) : Int32).toInt = (I 97 23).toInt := Eq.trans (congrArg Int32.toInt kq16) rfl
  have kz38 : ((I8 97 23) : Int32).toInt = (I 97 23).toInt := e37
  refine ⟨vp_of (a := (v3.toInt + 1)) e1 (by omega) (by omega), ?_⟩
  have z39 := i32 (xs (Int32.toNatClampNeg (v3 + 1)))
  refine ⟨vp_of (a := (v3.toInt + 2)) e3 (by omega) (by omega), ?_⟩
  have z40 := i32 (xs (Int32.toNatClampNeg (v3 + 2)))
  refine ⟨vp_of (a := (v3.toInt + 3)) e5 (by omega) (by omega), ?_⟩
  have z41 := i32 (xs (Int32.toNatClampNeg (v3 + 3)))
  refine ⟨⟨hF0, rfl⟩, ?_⟩
  refine kp7 rfl hR0 rfl (kpA rfl (kpnm rfl hR0 rfl (kpW9 rfl hR0 rfl (kpN9 rfl (kp6 rfl hR0 rfl (kp4 rfl (kp5 rfl hR0 rfl (kp0 rfl (kp1 rfl (kp2 rfl (kp3 rfl (sp_X12_fewestAt hB10 hR0 (fun x42 y47 I43 J44 hB45 p46 kq51 kq50 kq49 kq48 k53 k52 k54 w59 w58 w57 w56 w55 => ?_)))))))))))))
  have f60 : Fr pT I8 I43 := p46
  have i61 := i32 x42
  have e62 : ((I43 3 1) : Int32).toInt = (I 3 1).toInt := Eq.trans (congrArg Int32.toInt (Eq.trans kq48 kq13)) rfl
  have kz63 : ((I43 3 1) : Int32).toInt = (I 3 1).toInt := e62
  have e64 : ((I43 97 8) : Int32).toInt = (I 97 8).toInt := Eq.trans (congrArg Int32.toInt (Eq.trans kq49 kq14)) rfl
  have kz65 : ((I43 97 8) : Int32).toInt = (I 97 8).toInt := e64
  have e66 : ((I43 1 13) : Int32).toInt = (I 1 13).toInt := Eq.trans (congrArg Int32.toInt (Eq.trans kq50 kq15)) rfl
  have kz67 : ((I43 1 13) : Int32).toInt = (I 1 13).toInt := e66
  have e68 : ((I43 97 23) : Int32).toInt = (I 97 23).toInt := Eq.trans (congrArg Int32.toInt (Eq.trans kq51 kq16)) rfl
  have kz69 : ((I43 97 23) : Int32).toInt = (I 97 23).toInt := e68
  exact hN _ _ R hB45 hR0 hF0 ⟨(Eq.trans (e62) (Eq.trans hL0 (Eq.symm (e64)))), (Eq.trans (e66) (Eq.trans hL1 (Eq.symm (e68)))), (RT.kp (RT.kp hL2 k17 k18) k52 k53), trivial⟩ (R3.kp (R3.kp hR3 w20 (by have ya : ((I8 3 1) : Int32).toInt = (I 3 1).toInt := e28; have yb : ((I 3 1) : Int32).toInt = (I 3 1).toInt := rfl; omega)) w55 (by have ya : ((I43 3 1) : Int32).toInt = (I 3 1).toInt := e62; have yb : ((I8 3 1) : Int32).toInt = (I 3 1).toInt := e28; omega)) (RM.kp hR0 (RM.kp hR0 hRM ⟨w21, w22, (fun j _ => congrFun w23.1 j)⟩) ⟨w56, w57, (fun j _ => f60.1 j trivial)⟩) trivial (W9.kp hR0 (W9.kp hR0 hW9 w24 w23.1 w21.2) w58 (funext fun j => f60.1 j trivial) w56.2) (TQ9.kp hTQ (KQ9.tr w25 w59) (k53.2.trans k18.2))
set_option maxRecDepth 100000 in
set_option maxHeartbeats 2000000 in
theorem lc_29 {Q : Nat → Qt} {P : Kt} {L : Nat} {xs : Nat → Int32} (hc : Cl (AM 640) false true L xs 2 112 kL_law Q P) (hL : L ≤ 3584) {v3 : Int32} {I : Im} {J : Jm} {R : Rm} (hB0 : Bd I) (hR0 : RI R) (hF0 : Fl R) (hL0 : (I 3 1).toInt = (I 97 8).toInt) (hL1 : (I 1 13).toInt = (I 97 23).toInt) (hL2 : RT I) (hL3 : True) (hR3 : R3 I J) (hRM : RM I J R) (hFQ : True) (hW9 : W9 I R) (hTQ : TQ9 I J) (h0 : 0 ≤ v3.toInt) (h7 : v3.toInt + 7 ≤ (L : Int)) (hN : ∀ (I : Im) (J : Jm) (R : Rm), Bd I → RI R → Fl R → RLz I → R3 I J → RM I J R → True → W9 I R → TQ9 I J → P 1889 112 [(0, .ref 0), (1, .ref 1), (2, .ref 97), (3, .int v3)] [] I J R) : P 1187 112 [(0, .ref 0), (1, .ref 1), (2, .ref 97), (3, .int v3)] [] I J R := by
  have i_v3 := i32 v3
  have e97 : I 97 8 = nI (fl I) := (Int32.toInt_inj.mp hL0).symm.trans (fl_bd hB0).1
  have b31 := Bd.o hB0 io9_112_3_6 bd9_6_1
  refine ls_1187 hc v3 _ _ _ ?_
  have e1 : ((v3 + 1) : Int32).toInt = (v3.toInt) + (1) := ti_add rfl rfl (by omega)
  refine ⟨vp_of (a := (v3.toInt + 1)) e1 (by omega) (by omega), ?_⟩
  have z2 := i32 (xs (Int32.toNatClampNeg (v3 + 1)))
  have e3 : ((v3 + 2) : Int32).toInt = (v3.toInt) + (2) := ti_add rfl rfl (by omega)
  refine ⟨vp_of (a := (v3.toInt + 2)) e3 (by omega) (by omega), ?_⟩
  have z4 := i32 (xs (Int32.toNatClampNeg (v3 + 2)))
  have e5 : ((v3 + 3) : Int32).toInt = (v3.toInt) + (3) := ti_add rfl rfl (by omega)
  refine ⟨vp_of (a := (v3.toInt + 3)) e5 (by omega) (by omega), ?_⟩
  have z6 := i32 (xs (Int32.toNatClampNeg (v3 + 3)))
  refine ⟨⟨hF0, rfl⟩, ?_⟩
  refine kp7 rfl hR0 rfl (kpA rfl (kpnm rfl hR0 rfl (kp102 rfl hR0 rfl (kpW9 rfl hR0 rfl (kpN9 rfl (kp6 rfl hR0 rfl (kp4 rfl (kp5 rfl hR0 rfl (kp0 rfl (kp1 rfl (kp2 rfl (kp3 rfl (sp_X11_ways hB0 hR0 (fun x7 y12 I8 J9 hB10 p11 kq16 kq15 kq14 kq13 k18 k17 k19 w25 w24 w23 w22 w21 w20 => ?_))))))))))))))
  have i26 := i32 x7
  have b27 := Bd.o hB0 io9_112_3_6 bd9_6_1
  have e28 : ((I8 3 1) : Int32).toInt = (I 3 1).toInt := Eq.trans (congrArg Int32.toInt kq13) rfl
  have kz29 : ((I8 3 1) : Int32).toInt = (I 3 1).toInt := e28
  have b30 := Bd.o hB0 io9_112_97_12 bd9_12_8
  have e31 : ((I8 97 8) : Int32).toInt = (I 97 8).toInt := Eq.trans (congrArg Int32.toInt kq14) rfl
  have kz32 : ((I8 97 8) : Int32).toInt = (I 97 8).toInt := e31
  have b33 := Bd.o hB0 io9_112_1_11 bd9_11_13
  have e34 : ((I8 1 13) : Int32).toInt = (I 1 13).toInt := Eq.trans (congrArg Int32.toInt kq15) rfl
  have kz35 : ((I8 1 13) : Int32).toInt = (I 1 13).toInt := e34
  have b36 := Bd.o hB0 io9_112_97_12 bd9_12_23
  have e37 : ((I8 97 23) : Int32).toInt = (I 97 23).toInt := Eq.trans (congrArg Int32.toInt kq16) rfl
  have kz38 : ((I8 97 23) : Int32).toInt = (I 97 23).toInt := e37
  refine ⟨vp_of (a := (v3.toInt + 1)) e1 (by omega) (by omega), ?_⟩
  have z39 := i32 (xs (Int32.toNatClampNeg (v3 + 1)))
  refine ⟨vp_of (a := (v3.toInt + 2)) e3 (by omega) (by omega), ?_⟩
  have z40 := i32 (xs (Int32.toNatClampNeg (v3 + 2)))
  refine ⟨vp_of (a := (v3.toInt + 3)) e5 (by omega) (by omega), ?_⟩
  have z41 := i32 (xs (Int32.toNatClampNeg (v3 + 3)))
  refine ⟨⟨hF0, rfl⟩, ?_⟩
  refine kp7 rfl hR0 rfl (kpA rfl (kpnm rfl hR0 rfl (kpW9 rfl hR0 rfl (kpN9 rfl (kp6 rfl hR0 rfl (kp4 rfl (kp5 rfl hR0 rfl (kp0 rfl (kp1 rfl (kp2 rfl (kp3 rfl (sp_X12_ways hB10 hR0 (fun x42 y47 I43 J44 hB45 p46 kq51 kq50 kq49 kq48 k53 k52 k54 w59 w58 w57 w56 w55 => ?_)))))))))))))
  have f60 : Fr pT I8 I43 := p46
  have i61 := i32 x42
  have e62 : ((I43 3 1) : Int32).toInt = (I 3 1).toInt := Eq.trans (congrArg Int32.toInt (Eq.trans kq48 kq13)) rfl
  have kz63 : ((I43 3 1) : Int32).toInt = (I 3 1).toInt := e62
  have e64 : ((I43 97 8) : Int32).toInt = (I 97 8).toInt := Eq.trans (congrArg Int32.toInt (Eq.trans kq49 kq14)) rfl
  have kz65 : ((I43 97 8) : Int32).toInt = (I 97 8).toInt := e64
  have e66 : ((I43 1 13) : Int32).toInt = (I 1 13).toInt := Eq.trans (congrArg Int32.toInt (Eq.trans kq50 kq15)) rfl
  have kz67 : ((I43 1 13) : Int32).toInt = (I 1 13).toInt := e66
  have e68 : ((I43 97 23) : Int32).toInt = (I 97 23).toInt := Eq.trans (congrArg Int32.toInt (Eq.trans kq51 kq16)) rfl
  have kz69 : ((I43 97 23) : Int32).toInt = (I 97 23).toInt := e68
  exact hN _ _ R hB45 hR0 hF0 ⟨(Eq.trans (e62) (Eq.trans hL0 (Eq.symm (e64)))), (Eq.trans (e66) (Eq.trans hL1 (Eq.symm (e68)))), (RT.kp (RT.kp hL2 k17 k18) k52 k53), trivial⟩ (R3.kp (R3.kp hR3 w20 (by have ya : ((I8 3 1) : Int32).toInt = (I 3 1).toInt := e28; have yb : ((I 3 1) : Int32).toInt = (I 3 1).toInt := rfl; omega)) w55 (by have ya : ((I43 3 1) : Int32).toInt = (I 3 1).toInt := e62; have yb : ((I8 3 1) : Int32).toInt = (I 3 1).toInt := e28; omega)) (RM.kp hR0 (RM.kp hR0 hRM ⟨w21, w22, (fun j _ => congrFun w23.1 j)⟩) ⟨w56, w57, (fun j _ => f60.1 j trivial)⟩) trivial (W9.kp hR0 (W9.kp hR0 hW9 w24 w23.1 w21.2) w58 (funext fun j => f60.1 j trivial) w56.2) (TQ9.kp hTQ (KQ9.tr w25 w59) (k53.2.trans k18.2))
set_option maxRecDepth 100000 in
set_option maxHeartbeats 2000000 in
theorem lc_30 {Q : Nat → Qt} {P : Kt} {L : Nat} {xs : Nat → Int32} (hc : Cl (AM 640) false true L xs 2 112 kL_law Q P) (hL : L ≤ 3584) {v3 : Int32} {I : Im} {J : Jm} {R : Rm} (hB0 : Bd I) (hR0 : RI R) (hF0 : Fl R) (hL0 : (I 3 1).toInt = (I 97 8).toInt) (hL1 : (I 1 13).toInt = (I 97 23).toInt) (hL2 : RT I) (hL3 : True) (hR3 : R3 I J) (hRM : RM I J R) (hFQ : True) (hW9 : W9 I R) (hTQ : TQ9 I J) (h0 : 0 ≤ v3.toInt) (h7 : v3.toInt + 7 ≤ (L : Int)) (hN : ∀ (I : Im) (J : Jm) (R : Rm), Bd I → RI R → Fl R → RLz I → R3 I J → RM I J R → True → W9 I R → TQ9 I J → P 1889 112 [(0, .ref 0), (1, .ref 1), (2, .ref 97), (3, .int v3)] [] I J R) : P 1230 112 [(0, .ref 0), (1, .ref 1), (2, .ref 97), (3, .int v3)] [] I J R := by
  have i_v3 := i32 v3
  have e97 : I 97 8 = nI (fl I) := (Int32.toInt_inj.mp hL0).symm.trans (fl_bd hB0).1
  have b31 := Bd.o hB0 io9_112_3_6 bd9_6_1
  refine ls_1230 hc v3 _ _ _ ?_
  have e1 : ((v3 + 1) : Int32).toInt = (v3.toInt) + (1) := ti_add rfl rfl (by omega)
  refine ⟨vp_of (a := (v3.toInt + 1)) e1 (by omega) (by omega), ?_⟩
  have z2 := i32 (xs (Int32.toNatClampNeg (v3 + 1)))
  have e3 : ((v3 + 2) : Int32).toInt = (v3.toInt) + (2) := ti_add rfl rfl (by omega)
  refine ⟨vp_of (a := (v3.toInt + 2)) e3 (by omega) (by omega), ?_⟩
  have z4 := i32 (xs (Int32.toNatClampNeg (v3 + 2)))
  have e5 : ((v3 + 3) : Int32).toInt = (v3.toInt) + (3) := ti_add rfl rfl (by omega)
  refine ⟨vp_of (a := (v3.toInt + 3)) e5 (by omega) (by omega), ?_⟩
  have z6 := i32 (xs (Int32.toNatClampNeg (v3 + 3)))
  have e7 : ((v3 + 4) : Int32).toInt = (v3.toInt) + (4) := ti_add rfl rfl (by omega)
  refine ⟨vp_of (a := (v3.toInt + 4)) e7 (by omega) (by omega), ?_⟩
  have z8 := i32 (xs (Int32.toNatClampNeg (v3 + 4)))
  refine ⟨⟨hF0, rfl⟩, ?_⟩
  refine kp7 rfl hR0 rfl (kpA rfl (kpnm rfl hR0 rfl (kp102 rfl hR0 rfl (kpW9 rfl hR0 rfl (kpN9 rfl (kp6 rfl hR0 rfl (kp4 rfl (kp5 rfl hR0 rfl (kp0 rfl (kp1 rfl (kp2 rfl (kp3 rfl (sp_X11_oddsThat hB0 hR0 (fun x9 y14 I10 J11 hB12 p13 kq18 kq17 kq16 kq15 k20 k19 k21 w27 w26 w25 w24 w23 w22 => ?_))))))))))))))
  intro o28
  have i29 := i32 x9
  have b30 := Bd.o hB0 io9_112_3_6 bd9_6_1
  have e31 : ((I10 3 1) : Int32).toInt = (I 3 1).toInt := Eq.trans (congrArg Int32.toInt kq15) rfl
  have kz32 : ((I10 3 1) : Int32).toInt = (I 3 1).toInt := e31
  have b33 := Bd.o hB0 io9_112_97_12 bd9_12_8
  have e34 : ((I10 97 8) : Int32).toInt = (I 97 8).toInt := Eq.trans (congrArg Int32.toInt kq16) rfl
  have kz35 : ((I10 97 8) : Int32).toInt = (I 97 8).toInt := e34
  have b36 := Bd.o hB0 io9_112_1_11 bd9_11_13
  have e37 : ((I10 1 13) : Int32).toInt = (I 1 13).toInt := Eq.trans (congrArg Int32.toInt kq17) rfl
  have kz38 : ((I10 1 13) : Int32).toInt = (I 1 13).toInt := e37
  have b39 := Bd.o hB0 io9_112_97_12 bd9_12_23
  have e40 : ((I10 97 23) : Int32).toInt = (I 97 23).toInt := Eq.trans (congrArg Int32.toInt kq18) rfl
  have kz41 : ((I10 97 23) : Int32).toInt = (I 97 23).toInt := e40
  refine ⟨vp_of (a := (v3.toInt + 1)) e1 (by omega) (by omega), ?_⟩
  have z42 := i32 (xs (Int32.toNatClampNeg (v3 + 1)))
  refine ⟨vp_of (a := (v3.toInt + 2)) e3 (by omega) (by omega), ?_⟩
  have z43 := i32 (xs (Int32.toNatClampNeg (v3 + 2)))
  refine ⟨vp_of (a := (v3.toInt + 3)) e5 (by omega) (by omega), ?_⟩
  have z44 := i32 (xs (Int32.toNatClampNeg (v3 + 3)))
  refine ⟨vp_of (a := (v3.toInt + 4)) e7 (by omega) (by omega), ?_⟩
  have z45 := i32 (xs (Int32.toNatClampNeg (v3 + 4)))
  refine ⟨⟨hF0, rfl⟩, ?_⟩
  refine kp7 rfl hR0 rfl (kpA rfl (kpnm rfl hR0 rfl (kpW9 rfl hR0 rfl (kpN9 rfl (kp6 rfl hR0 rfl (kp4 rfl (kp5 rfl hR0 rfl (kp0 rfl (kp1 rfl (kp2 rfl (kp3 rfl (sp_X12_oddsThat hB12 hR0 (fun x46 y51 I47 J48 hB49 p50 kq55 kq54 kq53 kq52 k57 k56 k58 w63 w62 w61 w60 w59 => ?_)))))))))))))
  intro o64
  have f65 : Fr pT I10 I47 := p50
  have i66 := i32 x46
  have e67 : ((I47 3 1) : Int32).toInt = (I 3 1).toInt := Eq.trans (congrArg Int32.toInt (Eq.trans kq52 kq15)) rfl
  have kz68 : ((I47 3 1) : Int32).toInt = (I 3 1).toInt := e67
  have e69 : ((I47 97 8) : Int32).toInt = (I 97 8).toInt := Eq.trans (congrArg Int32.toInt (Eq.trans kq53 kq16)) rfl
  have kz70 : ((I47 97 8) : Int32).toInt = (I 97 8).toInt := e69
  have e71 : ((I47 1 13) : Int32).toInt = (I 1 13).toInt := Eq.trans (congrArg Int32.toInt (Eq.trans kq54 kq17)) rfl
  have kz72 : ((I47 1 13) : Int32).toInt = (I 1 13).toInt := e71
  have e73 : ((I47 97 23) : Int32).toInt = (I 97 23).toInt := Eq.trans (congrArg Int32.toInt (Eq.trans kq55 kq18)) rfl
  have kz74 : ((I47 97 23) : Int32).toInt = (I 97 23).toInt := e73
  exact hN _ _ R hB49 hR0 hF0 ⟨(Eq.trans (e67) (Eq.trans hL0 (Eq.symm (e69)))), (Eq.trans (e71) (Eq.trans hL1 (Eq.symm (e73)))), (RT.kp (RT.kp hL2 k19 k20) k56 k57), trivial⟩ (R3.kp (R3.kp hR3 w22 (by have ya : ((I10 3 1) : Int32).toInt = (I 3 1).toInt := e31; have yb : ((I 3 1) : Int32).toInt = (I 3 1).toInt := rfl; omega)) w59 (by have ya : ((I47 3 1) : Int32).toInt = (I 3 1).toInt := e67; have yb : ((I10 3 1) : Int32).toInt = (I 3 1).toInt := e31; omega)) (RM.kp hR0 (RM.kp hR0 hRM ⟨w23, w24, (fun j _ => congrFun w25.1 j)⟩) ⟨w60, w61, (fun j _ => f65.1 j trivial)⟩) trivial (W9.kp hR0 (W9.kp hR0 hW9 w26 w25.1 w23.2) w62 (funext fun j => f65.1 j trivial) w60.2) (TQ9.kp hTQ (KQ9.tr w27 w63) (k57.2.trans k20.2))
set_option maxRecDepth 100000 in
set_option maxHeartbeats 2000000 in
theorem lc_31 {Q : Nat → Qt} {P : Kt} {L : Nat} {xs : Nat → Int32} (hc : Cl (AM 640) false true L xs 2 112 kL_law Q P) (hL : L ≤ 3584) {v3 : Int32} {I : Im} {J : Jm} {R : Rm} (hB0 : Bd I) (hR0 : RI R) (hF0 : Fl R) (hL0 : (I 3 1).toInt = (I 97 8).toInt) (hL1 : (I 1 13).toInt = (I 97 23).toInt) (hL2 : RT I) (hL3 : True) (hR3 : R3 I J) (hRM : RM I J R) (hFQ : True) (hW9 : W9 I R) (hTQ : TQ9 I J) (h0 : 0 ≤ v3.toInt) (h7 : v3.toInt + 7 ≤ (L : Int)) (hN : ∀ (I : Im) (J : Jm) (R : Rm), Bd I → RI R → Fl R → RLz I → R3 I J → RM I J R → True → W9 I R → TQ9 I J → P 1889 112 [(0, .ref 0), (1, .ref 1), (2, .ref 97), (3, .int v3)] [] I J R) : P 1283 112 [(0, .ref 0), (1, .ref 1), (2, .ref 97), (3, .int v3)] [] I J R := by
  have i_v3 := i32 v3
  have e97 : I 97 8 = nI (fl I) := (Int32.toInt_inj.mp hL0).symm.trans (fl_bd hB0).1
  have b31 := Bd.o hB0 io9_112_3_6 bd9_6_1
  refine ls_1283 hc v3 _ _ _ ?_
  have e1 : ((v3 + 1) : Int32).toInt = (v3.toInt) + (1) := ti_add rfl rfl (by omega)
  refine ⟨vp_of (a := (v3.toInt + 1)) e1 (by omega) (by omega), ?_⟩
  have z2 := i32 (xs (Int32.toNatClampNeg (v3 + 1)))
  have e3 : ((v3 + 2) : Int32).toInt = (v3.toInt) + (2) := ti_add rfl rfl (by omega)
  refine ⟨vp_of (a := (v3.toInt + 2)) e3 (by omega) (by omega), ?_⟩
  have z4 := i32 (xs (Int32.toNatClampNeg (v3 + 2)))
  have e5 : ((v3 + 3) : Int32).toInt = (v3.toInt) + (3) := ti_add rfl rfl (by omega)
  refine ⟨vp_of (a := (v3.toInt + 3)) e5 (by omega) (by omega), ?_⟩
  have z6 := i32 (xs (Int32.toNatClampNeg (v3 + 3)))
  refine ⟨⟨hF0, rfl⟩, ?_⟩
  refine kp7 rfl hR0 rfl (kpA rfl (kpnm rfl hR0 rfl (kp102 rfl hR0 rfl (kpW9 rfl hR0 rfl (kpN9 rfl (kp6 rfl hR0 rfl (kp4 rfl (kp5 rfl hR0 rfl (kp0 rfl (kp1 rfl (kp2 rfl (kp3 rfl (sp_X11_ask hB0 hR0 (fun x7 y12 I8 J9 hB10 p11 kq16 kq15 kq14 kq13 k18 k17 k19 w25 w24 w23 w22 w21 w20 => ?_))))))))))))))
  have i26 := i32 x7
  have b27 := Bd.o hB0 io9_112_3_6 bd9_6_1
  have e28 : ((I8 3 1) : Int32).toInt = (I 3 1).toInt := Eq.trans (congrArg Int32.toInt kq13) rfl
  have kz29 : ((I8 3 1) : Int32).toInt = (I 3 1).toInt := e28
  have b30 := Bd.o hB0 io9_112_97_12 bd9_12_8
  have e31 : ((I8 97 8) : Int32).toInt = (I 97 8).toInt := Eq.trans (congrArg Int32.toInt kq14) rfl
  have kz32 : ((I8 97 8) : Int32).toInt = (I 97 8).toInt := e31
  have b33 := Bd.o hB0 io9_112_1_11 bd9_11_13
  have e34 : ((I8 1 13) : Int32).toInt = (I 1 13).toInt := Eq.trans (congrArg Int32.toInt kq15) rfl
  have kz35 : ((I8 1 13) : Int32).toInt = (I 1 13).toInt := e34
  have b36 := Bd.o hB0 io9_112_97_12 bd9_12_23
  have e37 : ((I8 97 23) : Int32).toInt = (I 97 23).toInt := Eq.trans (congrArg Int32.toInt kq16) rfl
  have kz38 : ((I8 97 23) : Int32).toInt = (I 97 23).toInt := e37
  refine ⟨vp_of (a := (v3.toInt + 1)) e1 (by omega) (by omega), ?_⟩
  have z39 := i32 (xs (Int32.toNatClampNeg (v3 + 1)))
  refine ⟨vp_of (a := (v3.toInt + 2)) e3 (by omega) (by omega), ?_⟩
  have z40 := i32 (xs (Int32.toNatClampNeg (v3 + 2)))
  refine ⟨vp_of (a := (v3.toInt + 3)) e5 (by omega) (by omega), ?_⟩
  have z41 := i32 (xs (Int32.toNatClampNeg (v3 + 3)))
  refine ⟨⟨hF0, rfl⟩, ?_⟩
  refine kp7 rfl hR0 rfl (kpA rfl (kpnm rfl hR0 rfl (kpW9 rfl hR0 rfl (kpN9 rfl (kp6 rfl hR0 rfl (kp4 rfl (kp5 rfl hR0 rfl (kp0 rfl (kp1 rfl (kp2 rfl (kp3 rfl (sp_X12_ask hB10 hR0 (fun x42 y47 I43 J44 hB45 p46 kq51 kq50 kq49 kq48 k53 k52 k54 w59 w58 w57 w56 w55 => ?_)))))))))))))
  have f60 : Fr pT I8 I43 := p46
  have i61 := i32 x42
  have e62 : ((I43 3 1) : Int32).toInt = (I 3 1).toInt := Eq.trans (congrArg Int32.toInt (Eq.trans kq48 kq13)) rfl
  have kz63 : ((I43 3 1) : Int32).toInt = (I 3 1).toInt := e62
  have e64 : ((I43 97 8) : Int32).toInt = (I 97 8).toInt := Eq.trans (congrArg Int32.toInt (Eq.trans kq49 kq14)) rfl
  have kz65 : ((I43 97 8) : Int32).toInt = (I 97 8).toInt := e64
  have e66 : ((I43 1 13) : Int32).toInt = (I 1 13).toInt := Eq.trans (congrArg Int32.toInt (Eq.trans kq50 kq15)) rfl
  have kz67 : ((I43 1 13) : Int32).toInt = (I 1 13).toInt := e66
  have e68 : ((I43 97 23) : Int32).toInt = (I 97 23).toInt := Eq.trans (congrArg Int32.toInt (Eq.trans kq51 kq16)) rfl
  have kz69 : ((I43 97 23) : Int32).toInt = (I 97 23).toInt := e68
  exact hN _ _ R hB45 hR0 hF0 ⟨(Eq.trans (e62) (Eq.trans hL0 (Eq.symm (e64)))), (Eq.trans (e66) (Eq.trans hL1 (Eq.symm (e68)))), (RT.kp (RT.kp hL2 k17 k18) k52 k53), trivial⟩ (R3.kp (R3.kp hR3 w20 (by have ya : ((I8 3 1) : Int32).toInt = (I 3 1).toInt := e28; have yb : ((I 3 1) : Int32).toInt = (I 3 1).toInt := rfl; omega)) w55 (by have ya : ((I43 3 1) : Int32).toInt = (I 3 1).toInt := e62; have yb : ((I8 3 1) : Int32).toInt = (I 3 1).toInt := e28; omega)) (RM.kp hR0 (RM.kp hR0 hRM ⟨w21, w22, (fun j _ => congrFun w23.1 j)⟩) ⟨w56, w57, (fun j _ => f60.1 j trivial)⟩) trivial (W9.kp hR0 (W9.kp hR0 hW9 w24 w23.1 w21.2) w58 (funext fun j => f60.1 j trivial) w56.2) (TQ9.kp hTQ (KQ9.tr w25 w59) (k53.2.trans k18.2))
set_option maxRecDepth 100000 in
set_option maxHeartbeats 2000000 in
theorem lc_32 {Q : Nat → Qt} {P : Kt} {L : Nat} {xs : Nat → Int32} (hc : Cl (AM 640) false true L xs 2 112 kL_law Q P) (hL : L ≤ 3584) {v3 : Int32} {I : Im} {J : Jm} {R : Rm} (hB0 : Bd I) (hR0 : RI R) (hF0 : Fl R) (hL0 : (I 3 1).toInt = (I 97 8).toInt) (hL1 : (I 1 13).toInt = (I 97 23).toInt) (hL2 : RT I) (hL3 : True) (hR3 : R3 I J) (hRM : RM I J R) (hFQ : True) (hW9 : W9 I R) (hTQ : TQ9 I J) (h0 : 0 ≤ v3.toInt) (h7 : v3.toInt + 7 ≤ (L : Int)) (hN : ∀ (I : Im) (J : Jm) (R : Rm), Bd I → RI R → Fl R → RLz I → R3 I J → RM I J R → True → W9 I R → TQ9 I J → P 1889 112 [(0, .ref 0), (1, .ref 1), (2, .ref 97), (3, .int v3)] [] I J R) : P 1326 112 [(0, .ref 0), (1, .ref 1), (2, .ref 97), (3, .int v3)] [] I J R := by
  have i_v3 := i32 v3
  have e97 : I 97 8 = nI (fl I) := (Int32.toInt_inj.mp hL0).symm.trans (fl_bd hB0).1
  have b31 := Bd.o hB0 io9_112_3_6 bd9_6_1
  refine ls_1326 hc v3 _ _ _ ?_
  have e1 : ((v3 + 1) : Int32).toInt = (v3.toInt) + (1) := ti_add rfl rfl (by omega)
  refine ⟨vp_of (a := (v3.toInt + 1)) e1 (by omega) (by omega), ?_⟩
  have z2 := i32 (xs (Int32.toNatClampNeg (v3 + 1)))
  have e3 : ((v3 + 2) : Int32).toInt = (v3.toInt) + (2) := ti_add rfl rfl (by omega)
  refine ⟨vp_of (a := (v3.toInt + 2)) e3 (by omega) (by omega), ?_⟩
  have z4 := i32 (xs (Int32.toNatClampNeg (v3 + 2)))
  have e5 : ((v3 + 3) : Int32).toInt = (v3.toInt) + (3) := ti_add rfl rfl (by omega)
  refine ⟨vp_of (a := (v3.toInt + 3)) e5 (by omega) (by omega), ?_⟩
  have z6 := i32 (xs (Int32.toNatClampNeg (v3 + 3)))
  refine ⟨⟨hF0, rfl⟩, ?_⟩
  refine kp7 rfl hR0 rfl (kpA rfl (kpnm rfl hR0 rfl (kp102 rfl hR0 rfl (kpW9 rfl hR0 rfl (kpN9 rfl (kp6 rfl hR0 rfl (kp4 rfl (kp5 rfl hR0 rfl (kp0 rfl (kp1 rfl (kp2 rfl (kp3 rfl (sp_X11_kindestAt hB0 hR0 (fun x7 y12 I8 J9 hB10 p11 kq16 kq15 kq14 kq13 k18 k17 k19 w25 w24 w23 w22 w21 w20 => ?_))))))))))))))
  have i26 := i32 x7
  have b27 := Bd.o hB0 io9_112_3_6 bd9_6_1
  have e28 : ((I8 3 1) : Int32).toInt = (I 3 1).toInt := Eq.trans (congrArg Int32.toInt kq13) rfl
  have kz29 : ((I8 3 1) : Int32).toInt = (I 3 1).toInt := e28
  have b30 := Bd.o hB0 io9_112_97_12 bd9_12_8
  have e31 : ((I8 97 8) : Int32).toInt = (I 97 8).toInt := Eq.trans (congrArg Int32.toInt kq14) rfl
  have kz32 : ((I8 97 8) : Int32).toInt = (I 97 8).toInt := e31
  have b33 := Bd.o hB0 io9_112_1_11 bd9_11_13
  have e34 : ((I8 1 13) : Int32).toInt = (I 1 13).toInt := Eq.trans (congrArg Int32.toInt kq15) rfl
  have kz35 : ((I8 1 13) : Int32).toInt = (I 1 13).toInt := e34
  have b36 := Bd.o hB0 io9_112_97_12 bd9_12_23
  have e37 : ((I8 97 23) : Int32).toInt = (I 97 23).toInt := Eq.trans (congrArg Int32.toInt kq16) rfl
  have kz38 : ((I8 97 23) : Int32).toInt = (I 97 23).toInt := e37
  refine ⟨vp_of (a := (v3.toInt + 1)) e1 (by omega) (by omega), ?_⟩
  have z39 := i32 (xs (Int32.toNatClampNeg (v3 + 1)))
  refine ⟨vp_of (a := (v3.toInt + 2)) e3 (by omega) (by omega), ?_⟩
  have z40 := i32 (xs (Int32.toNatClampNeg (v3 + 2)))
  refine ⟨vp_of (a := (v3.toInt + 3)) e5 (by omega) (by omega), ?_⟩
  have z41 := i32 (xs (Int32.toNatClampNeg (v3 + 3)))
  refine ⟨⟨hF0, rfl⟩, ?_⟩
  refine kp7 rfl hR0 rfl (kpA rfl (kpnm rfl hR0 rfl (kpW9 rfl hR0 rfl (kpN9 rfl (kp6 rfl hR0 rfl (kp4 rfl (kp5 rfl hR0 rfl (kp0 rfl (kp1 rfl (kp2 rfl (kp3 rfl (sp_X12_kindestAt hB10 hR0 (fun x42 y47 I43 J44 hB45 p46 kq51 kq50 kq49 kq48 k53 k52 k54 w59 w58 w57 w56 w55 => ?_)))))))))))))
  have f60 : Fr pT I8 I43 := p46
  have i61 := i32 x42
  have e62 : ((I43 3 1) : Int32).toInt = (I 3 1).toInt := Eq.trans (congrArg Int32.toInt (Eq.trans kq48 kq13)) rfl
  have kz63 : ((I43 3 1) : Int32).toInt = (I 3 1).toInt := e62
  have e64 : ((I43 97 8) : Int32).toInt = (I 97 8).toInt := Eq.trans (congrArg Int32.toInt (Eq.trans kq49 kq14)) rfl
  have kz65 : ((I43 97 8) : Int32).toInt = (I 97 8).toInt := e64
  have e66 : ((I43 1 13) : Int32).toInt = (I 1 13).toInt := Eq.trans (congrArg Int32.toInt (Eq.trans kq50 kq15)) rfl
  have kz67 : ((I43 1 13) : Int32).toInt = (I 1 13).toInt := e66
  have e68 : ((I43 97 23) : Int32).toInt = (I 97 23).toInt := Eq.trans (congrArg Int32.toInt (Eq.trans kq51 kq16)) rfl
  have kz69 : ((I43 97 23) : Int32).toInt = (I 97 23).toInt := e68
  exact hN _ _ R hB45 hR0 hF0 ⟨(Eq.trans (e62) (Eq.trans hL0 (Eq.symm (e64)))), (Eq.trans (e66) (Eq.trans hL1 (Eq.symm (e68)))), (RT.kp (RT.kp hL2 k17 k18) k52 k53), trivial⟩ (R3.kp (R3.kp hR3 w20 (by have ya : ((I8 3 1) : Int32).toInt = (I 3 1).toInt := e28; have yb : ((I 3 1) : Int32).toInt = (I 3 1).toInt := rfl; omega)) w55 (by have ya : ((I43 3 1) : Int32).toInt = (I 3 1).toInt := e62; have yb : ((I8 3 1) : Int32).toInt = (I 3 1).toInt := e28; omega)) (RM.kp hR0 (RM.kp hR0 hRM ⟨w21, w22, (fun j _ => congrFun w23.1 j)⟩) ⟨w56, w57, (fun j _ => f60.1 j trivial)⟩) trivial (W9.kp hR0 (W9.kp hR0 hW9 w24 w23.1 w21.2) w58 (funext fun j => f60.1 j trivial) w56.2) (TQ9.kp hTQ (KQ9.tr w25 w59) (k53.2.trans k18.2))
set_option maxRecDepth 100000 in
set_option maxHeartbeats 2000000 in
theorem lc_33 {Q : Nat → Qt} {P : Kt} {L : Nat} {xs : Nat → Int32} (hc : Cl (AM 640) false true L xs 2 112 kL_law Q P) (hL : L ≤ 3584) {v3 : Int32} {I : Im} {J : Jm} {R : Rm} (hB0 : Bd I) (hR0 : RI R) (hF0 : Fl R) (hL0 : (I 3 1).toInt = (I 97 8).toInt) (hL1 : (I 1 13).toInt = (I 97 23).toInt) (hL2 : RT I) (hL3 : True) (hR3 : R3 I J) (hRM : RM I J R) (hFQ : True) (hW9 : W9 I R) (hTQ : TQ9 I J) (h0 : 0 ≤ v3.toInt) (h7 : v3.toInt + 7 ≤ (L : Int)) (hN : ∀ (I : Im) (J : Jm) (R : Rm), Bd I → RI R → Fl R → RLz I → R3 I J → RM I J R → True → W9 I R → TQ9 I J → P 1889 112 [(0, .ref 0), (1, .ref 1), (2, .ref 97), (3, .int v3)] [] I J R) : P 1369 112 [(0, .ref 0), (1, .ref 1), (2, .ref 97), (3, .int v3)] [] I J R := by
  have i_v3 := i32 v3
  have e97 : I 97 8 = nI (fl I) := (Int32.toInt_inj.mp hL0).symm.trans (fl_bd hB0).1
  have b31 := Bd.o hB0 io9_112_3_6 bd9_6_1
  refine ls_1369 hc v3 _ _ _ ?_
  have e1 : ((v3 + 1) : Int32).toInt = (v3.toInt) + (1) := ti_add rfl rfl (by omega)
  refine ⟨vp_of (a := (v3.toInt + 1)) e1 (by omega) (by omega), ?_⟩
  have z2 := i32 (xs (Int32.toNatClampNeg (v3 + 1)))
  have e3 : ((v3 + 2) : Int32).toInt = (v3.toInt) + (2) := ti_add rfl rfl (by omega)
  refine ⟨vp_of (a := (v3.toInt + 2)) e3 (by omega) (by omega), ?_⟩
  have z4 := i32 (xs (Int32.toNatClampNeg (v3 + 2)))
  have e5 : ((v3 + 3) : Int32).toInt = (v3.toInt) + (3) := ti_add rfl rfl (by omega)
  refine ⟨vp_of (a := (v3.toInt + 3)) e5 (by omega) (by omega), ?_⟩
  have z6 := i32 (xs (Int32.toNatClampNeg (v3 + 3)))
  refine ⟨⟨hF0, rfl⟩, ?_⟩
  refine kp7 rfl hR0 rfl (kpA rfl (kpnm rfl hR0 rfl (kp102 rfl hR0 rfl (kpW9 rfl hR0 rfl (kpN9 rfl (kp6 rfl hR0 rfl (kp4 rfl (kp5 rfl hR0 rfl (kp0 rfl (kp1 rfl (kp2 rfl (kp3 rfl (sp_X11_greedyAt hB0 hR0 (fun x7 y12 I8 J9 hB10 p11 kq16 kq15 kq14 kq13 k18 k17 k19 w25 w24 w23 w22 w21 w20 => ?_))))))))))))))
  have i26 := i32 x7
  have b27 := Bd.o hB0 io9_112_3_6 bd9_6_1
  have e28 : ((I8 3 1) : Int32).toInt = (I 3 1).toInt := Eq.trans (congrArg Int32.toInt kq13) rfl
  have kz29 : ((I8 3 1) : Int32).toInt = (I 3 1).toInt := e28
  have b30 := Bd.o hB0 io9_112_97_12 bd9_12_8
  have e31 : ((I8 97 8) : Int32).toInt = (I 97 8).toInt := Eq.trans (congrArg Int32.toInt kq14) rfl
  have kz32 : ((I8 97 8) : Int32).toInt = (I 97 8).toInt := e31
  have b33 := Bd.o hB0 io9_112_1_11 bd9_11_13
  have e34 : ((I8 1 13) : Int32).toInt = (I 1 13).toInt := Eq.trans (congrArg Int32.toInt kq15) rfl
  have kz35 : ((I8 1 13) : Int32).toInt = (I 1 13).toInt := e34
  have b36 := Bd.o hB0 io9_112_97_12 bd9_12_23
  have e37 : ((I8 97 23) : Int32).toInt = (I 97 23).toInt := Eq.trans (congrArg Int32.toInt kq16) rfl
  have kz38 : ((I8 97 23) : Int32).toInt = (I 97 23).toInt := e37
  refine ⟨vp_of (a := (v3.toInt + 1)) e1 (by omega) (by omega), ?_⟩
  have z39 := i32 (xs (Int32.toNatClampNeg (v3 + 1)))
  refine ⟨vp_of (a := (v3.toInt + 2)) e3 (by omega) (by omega), ?_⟩
  have z40 := i32 (xs (Int32.toNatClampNeg (v3 + 2)))
  refine ⟨vp_of (a := (v3.toInt + 3)) e5 (by omega) (by omega), ?_⟩
  have z41 := i32 (xs (Int32.toNatClampNeg (v3 + 3)))
  refine ⟨⟨hF0, rfl⟩, ?_⟩
  refine kp7 rfl hR0 rfl (kpA rfl (kpnm rfl hR0 rfl (kp102 rfl hR0 rfl (kpW9 rfl hR0 rfl (kpN9 rfl (kp6 rfl hR0 rfl (kp4 rfl (kp5 rfl hR0 rfl (kp0 rfl (kp1 rfl (kp2 rfl (kp3 rfl (sp_X12_greedyAt hB10 hR0 (fun x42 y47 I43 J44 hB45 p46 kq51 kq50 kq49 kq48 k53 k52 k54 w60 w59 w58 w57 w56 w55 => ?_))))))))))))))
  have i61 := i32 x42
  have e62 : ((I43 3 1) : Int32).toInt = (I 3 1).toInt := Eq.trans (congrArg Int32.toInt (Eq.trans kq48 kq13)) rfl
  have kz63 : ((I43 3 1) : Int32).toInt = (I 3 1).toInt := e62
  have e64 : ((I43 97 8) : Int32).toInt = (I 97 8).toInt := Eq.trans (congrArg Int32.toInt (Eq.trans kq49 kq14)) rfl
  have kz65 : ((I43 97 8) : Int32).toInt = (I 97 8).toInt := e64
  have e66 : ((I43 1 13) : Int32).toInt = (I 1 13).toInt := Eq.trans (congrArg Int32.toInt (Eq.trans kq50 kq15)) rfl
  have kz67 : ((I43 1 13) : Int32).toInt = (I 1 13).toInt := e66
  have e68 : ((I43 97 23) : Int32).toInt = (I 97 23).toInt := Eq.trans (congrArg Int32.toInt (Eq.trans kq51 kq16)) rfl
  have kz69 : ((I43 97 23) : Int32).toInt = (I 97 23).toInt := e68
  exact hN _ _ R hB45 hR0 hF0 ⟨(Eq.trans (e62) (Eq.trans hL0 (Eq.symm (e64)))), (Eq.trans (e66) (Eq.trans hL1 (Eq.symm (e68)))), (RT.kp (RT.kp hL2 k17 k18) k52 k53), trivial⟩ (R3.kp (R3.kp hR3 w20 (by have ya : ((I8 3 1) : Int32).toInt = (I 3 1).toInt := e28; have yb : ((I 3 1) : Int32).toInt = (I 3 1).toInt := rfl; omega)) w55 (by have ya : ((I43 3 1) : Int32).toInt = (I 3 1).toInt := e62; have yb : ((I8 3 1) : Int32).toInt = (I 3 1).toInt := e28; omega)) (RM.kp hR0 (RM.kp hR0 hRM ⟨w21, w22, (fun j _ => congrFun w23.1 j)⟩) ⟨w56, w57, (fun j _ => congrFun w58.1 j)⟩) trivial (W9.kp hR0 (W9.kp hR0 hW9 w24 w23.1 w21.2) w59 w58.1 w56.2) (TQ9.kp hTQ (KQ9.tr w25 w60) (k53.2.trans k18.2))
set_option maxRecDepth 100000 in
set_option maxHeartbeats 2000000 in
theorem lc_34 {Q : Nat → Qt} {P : Kt} {L : Nat} {xs : Nat → Int32} (hc : Cl (AM 640) false true L xs 2 112 kL_law Q P) (hL : L ≤ 3584) {v3 : Int32} {I : Im} {J : Jm} {R : Rm} (hB0 : Bd I) (hR0 : RI R) (hF0 : Fl R) (hL0 : (I 3 1).toInt = (I 97 8).toInt) (hL1 : (I 1 13).toInt = (I 97 23).toInt) (hL2 : RT I) (hL3 : True) (hR3 : R3 I J) (hRM : RM I J R) (hFQ : True) (hW9 : W9 I R) (hTQ : TQ9 I J) (h0 : 0 ≤ v3.toInt) (h7 : v3.toInt + 7 ≤ (L : Int)) (hN : ∀ (I : Im) (J : Jm) (R : Rm), Bd I → RI R → Fl R → RLz I → R3 I J → RM I J R → True → W9 I R → TQ9 I J → P 1889 112 [(0, .ref 0), (1, .ref 1), (2, .ref 97), (3, .int v3)] [] I J R) : P 1412 112 [(0, .ref 0), (1, .ref 1), (2, .ref 97), (3, .int v3)] [] I J R := by
  have i_v3 := i32 v3
  have e97 : I 97 8 = nI (fl I) := (Int32.toInt_inj.mp hL0).symm.trans (fl_bd hB0).1
  have b31 := Bd.o hB0 io9_112_3_6 bd9_6_1
  refine ls_1412 hc v3 _ _ _ ?_
  have e1 : ((v3 + 1) : Int32).toInt = (v3.toInt) + (1) := ti_add rfl rfl (by omega)
  refine ⟨vp_of (a := (v3.toInt + 1)) e1 (by omega) (by omega), ?_⟩
  have z2 := i32 (xs (Int32.toNatClampNeg (v3 + 1)))
  have e3 : ((v3 + 2) : Int32).toInt = (v3.toInt) + (2) := ti_add rfl rfl (by omega)
  refine ⟨vp_of (a := (v3.toInt + 2)) e3 (by omega) (by omega), ?_⟩
  have z4 := i32 (xs (Int32.toNatClampNeg (v3 + 2)))
  have e5 : ((v3 + 3) : Int32).toInt = (v3.toInt) + (3) := ti_add rfl rfl (by omega)
  refine ⟨vp_of (a := (v3.toInt + 3)) e5 (by omega) (by omega), ?_⟩
  have z6 := i32 (xs (Int32.toNatClampNeg (v3 + 3)))
  have e7 : ((v3 + 4) : Int32).toInt = (v3.toInt) + (4) := ti_add rfl rfl (by omega)
  refine ⟨vp_of (a := (v3.toInt + 4)) e7 (by omega) (by omega), ?_⟩
  have z8 := i32 (xs (Int32.toNatClampNeg (v3 + 4)))
  refine ⟨⟨hF0, rfl⟩, ?_⟩
  refine kp7 rfl hR0 rfl (kpA rfl (kpnm rfl hR0 rfl (kp102 rfl hR0 rfl (kpW9 rfl hR0 rfl (kpN9 rfl (kp6 rfl hR0 rfl (kp4 rfl (kp5 rfl hR0 rfl (kp0 rfl (kp1 rfl (kp2 rfl (kp3 rfl (sp_X11_slips hB0 hR0 (fun x9 y14 I10 J11 hB12 p13 kq18 kq17 kq16 kq15 k20 k19 k21 w27 w26 w25 w24 w23 w22 => ?_))))))))))))))
  have i28 := i32 x9
  have b29 := Bd.o hB0 io9_112_3_6 bd9_6_1
  have e30 : ((I10 3 1) : Int32).toInt = (I 3 1).toInt := Eq.trans (congrArg Int32.toInt kq15) rfl
  have kz31 : ((I10 3 1) : Int32).toInt = (I 3 1).toInt := e30
  have b32 := Bd.o hB0 io9_112_97_12 bd9_12_8
  have e33 : ((I10 97 8) : Int32).toInt = (I 97 8).toInt := Eq.trans (congrArg Int32.toInt kq16) rfl
  have kz34 : ((I10 97 8) : Int32).toInt = (I 97 8).toInt := e33
  have b35 := Bd.o hB0 io9_112_1_11 bd9_11_13
  have e36 : ((I10 1 13) : Int32).toInt = (I 1 13).toInt := Eq.trans (congrArg Int32.toInt kq17) rfl
  have kz37 : ((I10 1 13) : Int32).toInt = (I 1 13).toInt := e36
  have b38 := Bd.o hB0 io9_112_97_12 bd9_12_23
  have e39 : ((I10 97 23) : Int32).toInt = (I 97 23).toInt := Eq.trans (congrArg Int32.toInt kq18) rfl
  have kz40 : ((I10 97 23) : Int32).toInt = (I 97 23).toInt := e39
  refine ⟨vp_of (a := (v3.toInt + 1)) e1 (by omega) (by omega), ?_⟩
  have z41 := i32 (xs (Int32.toNatClampNeg (v3 + 1)))
  refine ⟨vp_of (a := (v3.toInt + 2)) e3 (by omega) (by omega), ?_⟩
  have z42 := i32 (xs (Int32.toNatClampNeg (v3 + 2)))
  refine ⟨vp_of (a := (v3.toInt + 3)) e5 (by omega) (by omega), ?_⟩
  have z43 := i32 (xs (Int32.toNatClampNeg (v3 + 3)))
  refine ⟨vp_of (a := (v3.toInt + 4)) e7 (by omega) (by omega), ?_⟩
  have z44 := i32 (xs (Int32.toNatClampNeg (v3 + 4)))
  refine ⟨⟨hF0, rfl⟩, ?_⟩
  refine kp7 rfl hR0 rfl (kpA rfl (kpnm rfl hR0 rfl (kp102 rfl hR0 rfl (kpW9 rfl hR0 rfl (kpN9 rfl (kp6 rfl hR0 rfl (kp4 rfl (kp5 rfl hR0 rfl (kp0 rfl (kp1 rfl (kp2 rfl (kp3 rfl (sp_X12_slips hB12 hR0 (fun x45 y50 I46 J47 hB48 p49 kq54 kq53 kq52 kq51 k56 k55 k57 w63 w62 w61 w60 w59 w58 => ?_))))))))))))))
  have i64 := i32 x45
  have e65 : ((I46 3 1) : Int32).toInt = (I 3 1).toInt := Eq.trans (congrArg Int32.toInt (Eq.trans kq51 kq15)) rfl
  have kz66 : ((I46 3 1) : Int32).toInt = (I 3 1).toInt := e65
  have e67 : ((I46 97 8) : Int32).toInt = (I 97 8).toInt := Eq.trans (congrArg Int32.toInt (Eq.trans kq52 kq16)) rfl
  have kz68 : ((I46 97 8) : Int32).toInt = (I 97 8).toInt := e67
  have e69 : ((I46 1 13) : Int32).toInt = (I 1 13).toInt := Eq.trans (congrArg Int32.toInt (Eq.trans kq53 kq17)) rfl
  have kz70 : ((I46 1 13) : Int32).toInt = (I 1 13).toInt := e69
  have e71 : ((I46 97 23) : Int32).toInt = (I 97 23).toInt := Eq.trans (congrArg Int32.toInt (Eq.trans kq54 kq18)) rfl
  have kz72 : ((I46 97 23) : Int32).toInt = (I 97 23).toInt := e71
  exact hN _ _ R hB48 hR0 hF0 ⟨(Eq.trans (e65) (Eq.trans hL0 (Eq.symm (e67)))), (Eq.trans (e69) (Eq.trans hL1 (Eq.symm (e71)))), (RT.kp (RT.kp hL2 k19 k20) k55 k56), trivial⟩ (R3.kp (R3.kp hR3 w22 (by have ya : ((I10 3 1) : Int32).toInt = (I 3 1).toInt := e30; have yb : ((I 3 1) : Int32).toInt = (I 3 1).toInt := rfl; omega)) w58 (by have ya : ((I46 3 1) : Int32).toInt = (I 3 1).toInt := e65; have yb : ((I10 3 1) : Int32).toInt = (I 3 1).toInt := e30; omega)) (RM.kp hR0 (RM.kp hR0 hRM ⟨w23, w24, (fun j _ => congrFun w25.1 j)⟩) ⟨w59, w60, (fun j _ => congrFun w61.1 j)⟩) trivial (W9.kp hR0 (W9.kp hR0 hW9 w26 w25.1 w23.2) w62 w61.1 w59.2) (TQ9.kp hTQ (KQ9.tr w27 w63) (k56.2.trans k20.2))
set_option maxRecDepth 100000 in
set_option maxHeartbeats 2000000 in
theorem lc_35 {Q : Nat → Qt} {P : Kt} {L : Nat} {xs : Nat → Int32} (hc : Cl (AM 640) false true L xs 2 112 kL_law Q P) (hL : L ≤ 3584) {v3 : Int32} {I : Im} {J : Jm} {R : Rm} (hB0 : Bd I) (hR0 : RI R) (hF0 : Fl R) (hL0 : (I 3 1).toInt = (I 97 8).toInt) (hL1 : (I 1 13).toInt = (I 97 23).toInt) (hL2 : RT I) (hL3 : True) (hR3 : R3 I J) (hRM : RM I J R) (hFQ : True) (hW9 : W9 I R) (hTQ : TQ9 I J) (h0 : 0 ≤ v3.toInt) (h7 : v3.toInt + 7 ≤ (L : Int)) (hN : ∀ (I : Im) (J : Jm) (R : Rm), Bd I → RI R → Fl R → RLz I → R3 I J → RM I J R → True → W9 I R → TQ9 I J → P 1889 112 [(0, .ref 0), (1, .ref 1), (2, .ref 97), (3, .int v3)] [] I J R) : P 1465 112 [(0, .ref 0), (1, .ref 1), (2, .ref 97), (3, .int v3)] [] I J R := by
  have i_v3 := i32 v3
  have e97 : I 97 8 = nI (fl I) := (Int32.toInt_inj.mp hL0).symm.trans (fl_bd hB0).1
  have b31 := Bd.o hB0 io9_112_3_6 bd9_6_1
  refine ls_1465 hc v3 _ _ _ ?_
  have e1 : ((v3 + 1) : Int32).toInt = (v3.toInt) + (1) := ti_add rfl rfl (by omega)
  refine ⟨vp_of (a := (v3.toInt + 1)) e1 (by omega) (by omega), ?_⟩
  have z2 := i32 (xs (Int32.toNatClampNeg (v3 + 1)))
  have e3 : ((v3 + 2) : Int32).toInt = (v3.toInt) + (2) := ti_add rfl rfl (by omega)
  refine ⟨vp_of (a := (v3.toInt + 2)) e3 (by omega) (by omega), ?_⟩
  have z4 := i32 (xs (Int32.toNatClampNeg (v3 + 2)))
  have e5 : ((v3 + 3) : Int32).toInt = (v3.toInt) + (3) := ti_add rfl rfl (by omega)
  refine ⟨vp_of (a := (v3.toInt + 3)) e5 (by omega) (by omega), ?_⟩
  have z6 := i32 (xs (Int32.toNatClampNeg (v3 + 3)))
  have e7 : ((v3 + 4) : Int32).toInt = (v3.toInt) + (4) := ti_add rfl rfl (by omega)
  refine ⟨vp_of (a := (v3.toInt + 4)) e7 (by omega) (by omega), ?_⟩
  have z8 := i32 (xs (Int32.toNatClampNeg (v3 + 4)))
  have e9 : ((v3 + 5) : Int32).toInt = (v3.toInt) + (5) := ti_add rfl rfl (by omega)
  refine ⟨vp_of (a := (v3.toInt + 5)) e9 (by omega) (by omega), ?_⟩
  have z10 := i32 (xs (Int32.toNatClampNeg (v3 + 5)))
  have e11 : ((v3 + 6) : Int32).toInt = (v3.toInt) + (6) := ti_add rfl rfl (by omega)
  refine ⟨vp_of (a := (v3.toInt + 6)) e11 (by omega) (by omega), ?_⟩
  have z12 := i32 (xs (Int32.toNatClampNeg (v3 + 6)))
  refine ⟨⟨hF0, rfl⟩, ?_⟩
  refine kp7 rfl hR0 rfl (kpA rfl (kpnm rfl hR0 rfl (kp102 rfl hR0 rfl (kpW9 rfl hR0 rfl (kpN9 rfl (kx (cx_slipAt9 hB0 hR0 (kn9 hRM.1.2.1 hB0)) (kp6 rfl hR0 rfl (kp4 rfl (kp5 rfl hR0 rfl (kp0 rfl (kp1 rfl (kp2 rfl (kp3 rfl (sp_X11_slipAt hB0 hR0 (fun x13 y18 I14 J15 hB16 p17 kq22 kq21 kq20 kq19 k24 k23 k25 w32 w31 w30 w29 w28 w27 w26 => ?_)))))))))))))))
  have i33 := i32 x13
  have b34 := Bd.o hB0 io9_112_3_6 bd9_6_1
  have e35 : ((I14 3 1) : Int32).toInt = (I 3 1).toInt := Eq.trans (congrArg Int32.toInt kq19) rfl
  have kz36 : ((I14 3 1) : Int32).toInt = (I 3 1).toInt := e35
  have b37 := Bd.o hB0 io9_112_97_12 bd9_12_8
  have e38 : ((I14 97 8) : Int32).toInt = (I 97 8).toInt := Eq.trans (congrArg Int32.toInt kq20) rfl
  have kz39 : ((I14 97 8) : Int32).toInt = (I 97 8).toInt := e38
  have b40 := Bd.o hB0 io9_112_1_11 bd9_11_13
  have e41 : ((I14 1 13) : Int32).toInt = (I 1 13).toInt := Eq.trans (congrArg Int32.toInt kq21) rfl
  have kz42 : ((I14 1 13) : Int32).toInt = (I 1 13).toInt := e41
  have b43 := Bd.o hB0 io9_112_97_12 bd9_12_23
  have e44 : ((I14 97 23) : Int32).toInt = (I 97 23).toInt := Eq.trans (congrArg Int32.toInt kq22) rfl
  have kz45 : ((I14 97 23) : Int32).toInt = (I 97 23).toInt := e44
  refine ⟨vp_of (a := (v3.toInt + 1)) e1 (by omega) (by omega), ?_⟩
  have z46 := i32 (xs (Int32.toNatClampNeg (v3 + 1)))
  refine ⟨vp_of (a := (v3.toInt + 2)) e3 (by omega) (by omega), ?_⟩
  have z47 := i32 (xs (Int32.toNatClampNeg (v3 + 2)))
  refine ⟨vp_of (a := (v3.toInt + 3)) e5 (by omega) (by omega), ?_⟩
  have z48 := i32 (xs (Int32.toNatClampNeg (v3 + 3)))
  refine ⟨vp_of (a := (v3.toInt + 4)) e7 (by omega) (by omega), ?_⟩
  have z49 := i32 (xs (Int32.toNatClampNeg (v3 + 4)))
  refine ⟨vp_of (a := (v3.toInt + 5)) e9 (by omega) (by omega), ?_⟩
  have z50 := i32 (xs (Int32.toNatClampNeg (v3 + 5)))
  refine ⟨vp_of (a := (v3.toInt + 6)) e11 (by omega) (by omega), ?_⟩
  have z51 := i32 (xs (Int32.toNatClampNeg (v3 + 6)))
  refine ⟨⟨hF0, rfl⟩, ?_⟩
  refine kp7 rfl hR0 rfl (kpA rfl (kpnm rfl hR0 rfl (kp102 rfl hR0 rfl (kpW9 rfl hR0 rfl (kpN9 rfl (kx (mx_slipAt9 (K9.h60 k24 (RT.h60 hB0 hL2)) (Bd.known0 hB16)) (kp6 rfl hR0 rfl (kp4 rfl (kp5 rfl hR0 rfl (kp0 rfl (kp1 rfl (kp2 rfl (kp3 rfl (sp_X12_slipAt hB16 hR0 (fun x52 y57 I53 J54 hB55 p56 kq61 kq60 kq59 kq58 k63 k62 k64 w71 w70 w69 w68 w67 w66 w65 => ?_)))))))))))))))
  have i72 := i32 x52
  have e73 : ((I53 3 1) : Int32).toInt = (I 3 1).toInt := Eq.trans (congrArg Int32.toInt (Eq.trans kq58 kq19)) rfl
  have kz74 : ((I53 3 1) : Int32).toInt = (I 3 1).toInt := e73
  have e75 : ((I53 97 8) : Int32).toInt = (I 97 8).toInt := Eq.trans (congrArg Int32.toInt (Eq.trans kq59 kq20)) rfl
  have kz76 : ((I53 97 8) : Int32).toInt = (I 97 8).toInt := e75
  have e77 : ((I53 1 13) : Int32).toInt = (I 1 13).toInt := Eq.trans (congrArg Int32.toInt (Eq.trans kq60 kq21)) rfl
  have kz78 : ((I53 1 13) : Int32).toInt = (I 1 13).toInt := e77
  have e79 : ((I53 97 23) : Int32).toInt = (I 97 23).toInt := Eq.trans (congrArg Int32.toInt (Eq.trans kq61 kq22)) rfl
  have kz80 : ((I53 97 23) : Int32).toInt = (I 97 23).toInt := e79
  have hg81 : (x52 : Int32).toInt = (x13 : Int32).toInt := congrArg Int32.toInt (TQ9.slipAt hL2 hTQ k24 w31 (hRM.1.2.1.trans (congrFun w29.1 3).symm) w32 w71)
  refine ⟨fun c82 => ?_, fun c82 => ?_⟩
  · skip
    have d83 : ((x13.toInt) : Int) = (x52.toInt) := ci_eq rfl rfl c82
    exact hN _ _ R hB55 hR0 hF0 ⟨(Eq.trans (e73) (Eq.trans hL0 (Eq.symm (e75)))), (Eq.trans (e77) (Eq.trans hL1 (Eq.symm (e79)))), (RT.kp (RT.kp hL2 k23 k24) k62 k63), trivial⟩ (R3.kp (R3.kp hR3 w26 (by have ya : ((I14 3 1) : Int32).toInt = (I 3 1).toInt := e35; have yb : ((I 3 1) : Int32).toInt = (I 3 1).toInt := rfl; omega)) w65 (by have ya : ((I53 3 1) : Int32).toInt = (I 3 1).toInt := e73; have yb : ((I14 3 1) : Int32).toInt = (I 3 1).toInt := e35; omega)) (RM.kp hR0 (RM.kp hR0 hRM ⟨w27, w28, (fun j _ => congrFun w29.1 j)⟩) ⟨w66, w67, (fun j _ => congrFun w68.1 j)⟩) trivial (W9.kp hR0 (W9.kp hR0 hW9 w30 w29.1 w27.2) w69 w68.1 w66.2) (TQ9.kp hTQ (KQ9.tr w31 w70) (k63.2.trans k24.2))
  · skip
    have d84 : ¬ ((x13.toInt) : Int) = (x52.toInt) := ci_ne rfl rfl c82
    exfalso
    omega
set_option maxRecDepth 100000 in
set_option maxHeartbeats 2000000 in
theorem lc_36 {Q : Nat → Qt} {P : Kt} {L : Nat} {xs : Nat → Int32} (hc : Cl (AM 640) false true L xs 2 112 kL_law Q P) (hL : L ≤ 3584) {v3 : Int32} {I : Im} {J : Jm} {R : Rm} (hB0 : Bd I) (hR0 : RI R) (hF0 : Fl R) (hL0 : (I 3 1).toInt = (I 97 8).toInt) (hL1 : (I 1 13).toInt = (I 97 23).toInt) (hL2 : RT I) (hL3 : True) (hR3 : R3 I J) (hRM : RM I J R) (hFQ : True) (hW9 : W9 I R) (hTQ : TQ9 I J) (h0 : 0 ≤ v3.toInt) (h7 : v3.toInt + 7 ≤ (L : Int)) (hN : ∀ (I : Im) (J : Jm) (R : Rm), Bd I → RI R → Fl R → RLz I → R3 I J → RM I J R → True → W9 I R → TQ9 I J → P 1889 112 [(0, .ref 0), (1, .ref 1), (2, .ref 97), (3, .int v3)] [] I J R) : P 1540 112 [(0, .ref 0), (1, .ref 1), (2, .ref 97), (3, .int v3)] [] I J R := by
  have i_v3 := i32 v3
  have e97 : I 97 8 = nI (fl I) := (Int32.toInt_inj.mp hL0).symm.trans (fl_bd hB0).1
  have b31 := Bd.o hB0 io9_112_3_6 bd9_6_1
  refine ls_1540 hc v3 _ _ _ ?_
  have e1 : ((v3 + 1) : Int32).toInt = (v3.toInt) + (1) := ti_add rfl rfl (by omega)
  refine ⟨vp_of (a := (v3.toInt + 1)) e1 (by omega) (by omega), ?_⟩
  have z2 := i32 (xs (Int32.toNatClampNeg (v3 + 1)))
  refine ⟨⟨hF0, rfl⟩, ?_⟩
  refine kp7 rfl hR0 rfl (kpA rfl (kpnm rfl hR0 rfl (kp102 rfl hR0 rfl (kpW9 rfl hR0 rfl (kpN9 rfl (kp6 rfl hR0 rfl (kp4 rfl (kp5 rfl hR0 rfl (kp0 rfl (kp1 rfl (kp2 rfl (kp3 rfl (sp_X11_reach hB0 hR0 (fun x3 y8 I4 J5 hB6 p7 kq12 kq11 kq10 kq9 k14 k13 k15 w21 w20 w19 w18 w17 w16 => ?_))))))))))))))
  have i22 := i32 x3
  have b23 := Bd.o hB0 io9_112_3_6 bd9_6_1
  have e24 : ((I4 3 1) : Int32).toInt = (I 3 1).toInt := Eq.trans (congrArg Int32.toInt kq9) rfl
  have kz25 : ((I4 3 1) : Int32).toInt = (I 3 1).toInt := e24
  have b26 := Bd.o hB0 io9_112_97_12 bd9_12_8
  have e27 : ((I4 97 8) : Int32).toInt = (I 97 8).toInt := Eq.trans (congrArg Int32.toInt kq10) rfl
  have kz28 : ((I4 97 8) : Int32).toInt = (I 97 8).toInt := e27
  have b29 := Bd.o hB0 io9_112_1_11 bd9_11_13
  have e30 : ((I4 1 13) : Int32).toInt = (I 1 13).toInt := Eq.trans (congrArg Int32.toInt kq11) rfl
  have kz31 : ((I4 1 13) : Int32).toInt = (I 1 13).toInt := e30
  have b32 := Bd.o hB0 io9_112_97_12 bd9_12_23
  have e33 : ((I4 97 23) : Int32).toInt = (I 97 23).toInt := Eq.trans (congrArg Int32.toInt kq12) rfl
  have kz34 : ((I4 97 23) : Int32).toInt = (I 97 23).toInt := e33
  refine ⟨vp_of (a := (v3.toInt + 1)) e1 (by omega) (by omega), ?_⟩
  have z35 := i32 (xs (Int32.toNatClampNeg (v3 + 1)))
  refine ⟨⟨hF0, rfl⟩, ?_⟩
  refine kp7 rfl hR0 rfl (kpA rfl (kpnm rfl hR0 rfl (kpW9 rfl hR0 rfl (kpN9 rfl (kp6 rfl hR0 rfl (kp4 rfl (kp5 rfl hR0 rfl (kp0 rfl (kp1 rfl (kp2 rfl (kp3 rfl (sp_X12_reach hB6 hR0 (fun x36 y41 I37 J38 hB39 p40 kq45 kq44 kq43 kq42 k47 k46 k48 w53 w52 w51 w50 w49 => ?_)))))))))))))
  have f54 : Fr pT I4 I37 := p40
  have i55 := i32 x36
  have e56 : ((I37 3 1) : Int32).toInt = (I 3 1).toInt := Eq.trans (congrArg Int32.toInt (Eq.trans kq42 kq9)) rfl
  have kz57 : ((I37 3 1) : Int32).toInt = (I 3 1).toInt := e56
  have e58 : ((I37 97 8) : Int32).toInt = (I 97 8).toInt := Eq.trans (congrArg Int32.toInt (Eq.trans kq43 kq10)) rfl
  have kz59 : ((I37 97 8) : Int32).toInt = (I 97 8).toInt := e58
  have e60 : ((I37 1 13) : Int32).toInt = (I 1 13).toInt := Eq.trans (congrArg Int32.toInt (Eq.trans kq44 kq11)) rfl
  have kz61 : ((I37 1 13) : Int32).toInt = (I 1 13).toInt := e60
  have e62 : ((I37 97 23) : Int32).toInt = (I 97 23).toInt := Eq.trans (congrArg Int32.toInt (Eq.trans kq45 kq12)) rfl
  have kz63 : ((I37 97 23) : Int32).toInt = (I 97 23).toInt := e62
  exact hN _ _ R hB39 hR0 hF0 ⟨(Eq.trans (e56) (Eq.trans hL0 (Eq.symm (e58)))), (Eq.trans (e60) (Eq.trans hL1 (Eq.symm (e62)))), (RT.kp (RT.kp hL2 k13 k14) k46 k47), trivial⟩ (R3.kp (R3.kp hR3 w16 (by have ya : ((I4 3 1) : Int32).toInt = (I 3 1).toInt := e24; have yb : ((I 3 1) : Int32).toInt = (I 3 1).toInt := rfl; omega)) w49 (by have ya : ((I37 3 1) : Int32).toInt = (I 3 1).toInt := e56; have yb : ((I4 3 1) : Int32).toInt = (I 3 1).toInt := e24; omega)) (RM.kp hR0 (RM.kp hR0 hRM ⟨w17, w18, (fun j _ => congrFun w19.1 j)⟩) ⟨w50, w51, (fun j _ => f54.1 j trivial)⟩) trivial (W9.kp hR0 (W9.kp hR0 hW9 w20 w19.1 w17.2) w52 (funext fun j => f54.1 j trivial) w50.2) (TQ9.kp hTQ (KQ9.tr w21 w53) (k47.2.trans k14.2))
set_option maxRecDepth 100000 in
set_option maxHeartbeats 2000000 in
theorem lc_37 {Q : Nat → Qt} {P : Kt} {L : Nat} {xs : Nat → Int32} (hc : Cl (AM 640) false true L xs 2 112 kL_law Q P) (hL : L ≤ 3584) {v3 : Int32} {I : Im} {J : Jm} {R : Rm} (hB0 : Bd I) (hR0 : RI R) (hF0 : Fl R) (hL0 : (I 3 1).toInt = (I 97 8).toInt) (hL1 : (I 1 13).toInt = (I 97 23).toInt) (hL2 : RT I) (hL3 : True) (hR3 : R3 I J) (hRM : RM I J R) (hFQ : True) (hW9 : W9 I R) (hTQ : TQ9 I J) (h0 : 0 ≤ v3.toInt) (h7 : v3.toInt + 7 ≤ (L : Int)) (hN : ∀ (I : Im) (J : Jm) (R : Rm), Bd I → RI R → Fl R → RLz I → R3 I J → RM I J R → True → W9 I R → TQ9 I J → P 1889 112 [(0, .ref 0), (1, .ref 1), (2, .ref 97), (3, .int v3)] [] I J R) : P 1563 112 [(0, .ref 0), (1, .ref 1), (2, .ref 97), (3, .int v3)] [] I J R := by
  have i_v3 := i32 v3
  have e97 : I 97 8 = nI (fl I) := (Int32.toInt_inj.mp hL0).symm.trans (fl_bd hB0).1
  have b31 := Bd.o hB0 io9_112_3_6 bd9_6_1
  refine ls_1563 hc v3 _ _ _ ?_
  have e1 : ((v3 + 1) : Int32).toInt = (v3.toInt) + (1) := ti_add rfl rfl (by omega)
  refine ⟨vp_of (a := (v3.toInt + 1)) e1 (by omega) (by omega), ?_⟩
  have z2 := i32 (xs (Int32.toNatClampNeg (v3 + 1)))
  have e3 : ((v3 + 2) : Int32).toInt = (v3.toInt) + (2) := ti_add rfl rfl (by omega)
  refine ⟨vp_of (a := (v3.toInt + 2)) e3 (by omega) (by omega), ?_⟩
  have z4 := i32 (xs (Int32.toNatClampNeg (v3 + 2)))
  refine ⟨⟨hF0, rfl⟩, ?_⟩
  refine kp7 rfl hR0 rfl (kpA rfl (kpnm rfl hR0 rfl (kp102 rfl hR0 rfl (kpW9 rfl hR0 rfl (kpN9 rfl (kp6 rfl hR0 rfl (kp4 rfl (kp5 rfl hR0 rfl (kp0 rfl (kp1 rfl (kp2 rfl (kp3 rfl (sp_X11_reachAt hB0 hR0 (fun x5 y10 I6 J7 hB8 p9 kq14 kq13 kq12 kq11 k16 k15 k17 w23 w22 w21 w20 w19 w18 => ?_))))))))))))))
  have i24 := i32 x5
  have b25 := Bd.o hB0 io9_112_3_6 bd9_6_1
  have e26 : ((I6 3 1) : Int32).toInt = (I 3 1).toInt := Eq.trans (congrArg Int32.toInt kq11) rfl
  have kz27 : ((I6 3 1) : Int32).toInt = (I 3 1).toInt := e26
  have b28 := Bd.o hB0 io9_112_97_12 bd9_12_8
  have e29 : ((I6 97 8) : Int32).toInt = (I 97 8).toInt := Eq.trans (congrArg Int32.toInt kq12) rfl
  have kz30 : ((I6 97 8) : Int32).toInt = (I 97 8).toInt := e29
  have b31 := Bd.o hB0 io9_112_1_11 bd9_11_13
  have e32 : ((I6 1 13) : Int32).toInt = (I 1 13).toInt := Eq.trans (congrArg Int32.toInt kq13) rfl
  have kz33 : ((I6 1 13) : Int32).toInt = (I 1 13).toInt := e32
  have b34 := Bd.o hB0 io9_112_97_12 bd9_12_23
  have e35 : ((I6 97 23) : Int32).toInt = (I 97 23).toInt := Eq.trans (congrArg Int32.toInt kq14) rfl
  have kz36 : ((I6 97 23) : Int32).toInt = (I 97 23).toInt := e35
  refine ⟨vp_of (a := (v3.toInt + 1)) e1 (by omega) (by omega), ?_⟩
  have z37 := i32 (xs (Int32.toNatClampNeg (v3 + 1)))
  refine ⟨vp_of (a := (v3.toInt + 2)) e3 (by omega) (by omega), ?_⟩
  have z38 := i32 (xs (Int32.toNatClampNeg (v3 + 2)))
  refine ⟨⟨hF0, rfl⟩, ?_⟩
  refine kp7 rfl hR0 rfl (kpA rfl (kpnm rfl hR0 rfl (kpW9 rfl hR0 rfl (kpN9 rfl (kp6 rfl hR0 rfl (kp4 rfl (kp5 rfl hR0 rfl (kp0 rfl (kp1 rfl (kp2 rfl (kp3 rfl (sp_X12_reachAt hB8 hR0 (fun x39 y44 I40 J41 hB42 p43 kq48 kq47 kq46 kq45 k50 k49 k51 w56 w55 w54 w53 w52 => ?_)))))))))))))
  have f57 : Fr pT I6 I40 := p43
  have i58 := i32 x39
  have e59 : ((I40 3 1) : Int32).toInt = (I 3 1).toInt := Eq.trans (congrArg Int32.toInt (Eq.trans kq45 kq11)) rfl
  have kz60 : ((I40 3 1) : Int32).toInt = (I 3 1).toInt := e59
  have e61 : ((I40 97 8) : Int32).toInt = (I 97 8).toInt := Eq.trans (congrArg Int32.toInt (Eq.trans kq46 kq12)) rfl
  have kz62 : ((I40 97 8) : Int32).toInt = (I 97 8).toInt := e61
  have e63 : ((I40 1 13) : Int32).toInt = (I 1 13).toInt := Eq.trans (congrArg Int32.toInt (Eq.trans kq47 kq13)) rfl
  have kz64 : ((I40 1 13) : Int32).toInt = (I 1 13).toInt := e63
  have e65 : ((I40 97 23) : Int32).toInt = (I 97 23).toInt := Eq.trans (congrArg Int32.toInt (Eq.trans kq48 kq14)) rfl
  have kz66 : ((I40 97 23) : Int32).toInt = (I 97 23).toInt := e65
  exact hN _ _ R hB42 hR0 hF0 ⟨(Eq.trans (e59) (Eq.trans hL0 (Eq.symm (e61)))), (Eq.trans (e63) (Eq.trans hL1 (Eq.symm (e65)))), (RT.kp (RT.kp hL2 k15 k16) k49 k50), trivial⟩ (R3.kp (R3.kp hR3 w18 (by have ya : ((I6 3 1) : Int32).toInt = (I 3 1).toInt := e26; have yb : ((I 3 1) : Int32).toInt = (I 3 1).toInt := rfl; omega)) w52 (by have ya : ((I40 3 1) : Int32).toInt = (I 3 1).toInt := e59; have yb : ((I6 3 1) : Int32).toInt = (I 3 1).toInt := e26; omega)) (RM.kp hR0 (RM.kp hR0 hRM ⟨w19, w20, (fun j _ => congrFun w21.1 j)⟩) ⟨w53, w54, (fun j _ => f57.1 j trivial)⟩) trivial (W9.kp hR0 (W9.kp hR0 hW9 w22 w21.1 w19.2) w55 (funext fun j => f57.1 j trivial) w53.2) (TQ9.kp hTQ (KQ9.tr w23 w56) (k50.2.trans k16.2))
set_option maxRecDepth 100000 in
set_option maxHeartbeats 2000000 in
theorem lc_38 {Q : Nat → Qt} {P : Kt} {L : Nat} {xs : Nat → Int32} (hc : Cl (AM 640) false true L xs 2 112 kL_law Q P) (hL : L ≤ 3584) {v3 : Int32} {I : Im} {J : Jm} {R : Rm} (hB0 : Bd I) (hR0 : RI R) (hF0 : Fl R) (hL0 : (I 3 1).toInt = (I 97 8).toInt) (hL1 : (I 1 13).toInt = (I 97 23).toInt) (hL2 : RT I) (hL3 : True) (hR3 : R3 I J) (hRM : RM I J R) (hFQ : True) (hW9 : W9 I R) (hTQ : TQ9 I J) (h0 : 0 ≤ v3.toInt) (h7 : v3.toInt + 7 ≤ (L : Int)) (hN : ∀ (I : Im) (J : Jm) (R : Rm), Bd I → RI R → Fl R → RLz I → R3 I J → RM I J R → True → W9 I R → TQ9 I J → P 1889 112 [(0, .ref 0), (1, .ref 1), (2, .ref 97), (3, .int v3)] [] I J R) : P 1596 112 [(0, .ref 0), (1, .ref 1), (2, .ref 97), (3, .int v3)] [] I J R := by
  have i_v3 := i32 v3
  have e97 : I 97 8 = nI (fl I) := (Int32.toInt_inj.mp hL0).symm.trans (fl_bd hB0).1
  have b31 := Bd.o hB0 io9_112_3_6 bd9_6_1
  refine ls_1596 hc v3 _ _ _ ?_
  have e1 : ((v3 + 1) : Int32).toInt = (v3.toInt) + (1) := ti_add rfl rfl (by omega)
  refine ⟨vp_of (a := (v3.toInt + 1)) e1 (by omega) (by omega), ?_⟩
  have z2 := i32 (xs (Int32.toNatClampNeg (v3 + 1)))
  refine ⟨⟨hF0, rfl⟩, ?_⟩
  refine kp7 rfl hR0 rfl (kpA rfl (kpnm rfl hR0 rfl (kp102 rfl hR0 rfl (kpW9 rfl hR0 rfl (kpN9 rfl (kp6 rfl hR0 rfl (kp4 rfl (kp5 rfl hR0 rfl (kp0 rfl (kp1 rfl (kp2 rfl (kp3 rfl (sp_X11_fill hB0 hR0 (fun x3 y8 I4 J5 hB6 p7 kq12 kq11 kq10 kq9 k14 k13 k15 w21 w20 w19 w18 w17 w16 => ?_))))))))))))))
  have i22 := i32 x3
  have b23 := Bd.o hB0 io9_112_3_6 bd9_6_1
  have e24 : ((I4 3 1) : Int32).toInt = (I 3 1).toInt := Eq.trans (congrArg Int32.toInt kq9) rfl
  have kz25 : ((I4 3 1) : Int32).toInt = (I 3 1).toInt := e24
  have b26 := Bd.o hB0 io9_112_97_12 bd9_12_8
  have e27 : ((I4 97 8) : Int32).toInt = (I 97 8).toInt := Eq.trans (congrArg Int32.toInt kq10) rfl
  have kz28 : ((I4 97 8) : Int32).toInt = (I 97 8).toInt := e27
  have b29 := Bd.o hB0 io9_112_1_11 bd9_11_13
  have e30 : ((I4 1 13) : Int32).toInt = (I 1 13).toInt := Eq.trans (congrArg Int32.toInt kq11) rfl
  have kz31 : ((I4 1 13) : Int32).toInt = (I 1 13).toInt := e30
  have b32 := Bd.o hB0 io9_112_97_12 bd9_12_23
  have e33 : ((I4 97 23) : Int32).toInt = (I 97 23).toInt := Eq.trans (congrArg Int32.toInt kq12) rfl
  have kz34 : ((I4 97 23) : Int32).toInt = (I 97 23).toInt := e33
  refine ⟨vp_of (a := (v3.toInt + 1)) e1 (by omega) (by omega), ?_⟩
  have z35 := i32 (xs (Int32.toNatClampNeg (v3 + 1)))
  refine ⟨⟨hF0, rfl⟩, ?_⟩
  refine kp7 rfl hR0 rfl (kpA rfl (kpnm rfl hR0 rfl (kpW9 rfl hR0 rfl (kpN9 rfl (kp6 rfl hR0 rfl (kp4 rfl (kp5 rfl hR0 rfl (kp0 rfl (kp1 rfl (kp2 rfl (kp3 rfl (sp_X12_fill hB6 hR0 (fun x36 y41 I37 J38 hB39 p40 kq45 kq44 kq43 kq42 k47 k46 k48 w53 w52 w51 w50 w49 => ?_)))))))))))))
  have f54 : Fr pT I4 I37 := p40
  have i55 := i32 x36
  have e56 : ((I37 3 1) : Int32).toInt = (I 3 1).toInt := Eq.trans (congrArg Int32.toInt (Eq.trans kq42 kq9)) rfl
  have kz57 : ((I37 3 1) : Int32).toInt = (I 3 1).toInt := e56
  have e58 : ((I37 97 8) : Int32).toInt = (I 97 8).toInt := Eq.trans (congrArg Int32.toInt (Eq.trans kq43 kq10)) rfl
  have kz59 : ((I37 97 8) : Int32).toInt = (I 97 8).toInt := e58
  have e60 : ((I37 1 13) : Int32).toInt = (I 1 13).toInt := Eq.trans (congrArg Int32.toInt (Eq.trans kq44 kq11)) rfl
  have kz61 : ((I37 1 13) : Int32).toInt = (I 1 13).toInt := e60
  have e62 : ((I37 97 23) : Int32).toInt = (I 97 23).toInt := Eq.trans (congrArg Int32.toInt (Eq.trans kq45 kq12)) rfl
  have kz63 : ((I37 97 23) : Int32).toInt = (I 97 23).toInt := e62
  exact hN _ _ R hB39 hR0 hF0 ⟨(Eq.trans (e56) (Eq.trans hL0 (Eq.symm (e58)))), (Eq.trans (e60) (Eq.trans hL1 (Eq.symm (e62)))), (RT.kp (RT.kp hL2 k13 k14) k46 k47), trivial⟩ (R3.kp (R3.kp hR3 w16 (by have ya : ((I4 3 1) : Int32).toInt = (I 3 1).toInt := e24; have yb : ((I 3 1) : Int32).toInt = (I 3 1).toInt := rfl; omega)) w49 (by have ya : ((I37 3 1) : Int32).toInt = (I 3 1).toInt := e56; have yb : ((I4 3 1) : Int32).toInt = (I 3 1).toInt := e24; omega)) (RM.kp hR0 (RM.kp hR0 hRM ⟨w17, w18, (fun j _ => congrFun w19.1 j)⟩) ⟨w50, w51, (fun j _ => f54.1 j trivial)⟩) trivial (W9.kp hR0 (W9.kp hR0 hW9 w20 w19.1 w17.2) w52 (funext fun j => f54.1 j trivial) w50.2) (TQ9.kp hTQ (KQ9.tr w21 w53) (k47.2.trans k14.2))
set_option maxRecDepth 100000 in
set_option maxHeartbeats 2000000 in
theorem lc_39 {Q : Nat → Qt} {P : Kt} {L : Nat} {xs : Nat → Int32} (hc : Cl (AM 640) false true L xs 2 112 kL_law Q P) (hL : L ≤ 3584) {v3 : Int32} {I : Im} {J : Jm} {R : Rm} (hB0 : Bd I) (hR0 : RI R) (hF0 : Fl R) (hL0 : (I 3 1).toInt = (I 97 8).toInt) (hL1 : (I 1 13).toInt = (I 97 23).toInt) (hL2 : RT I) (hL3 : True) (hR3 : R3 I J) (hRM : RM I J R) (hFQ : True) (hW9 : W9 I R) (hTQ : TQ9 I J) (h0 : 0 ≤ v3.toInt) (h7 : v3.toInt + 7 ≤ (L : Int)) (hN : ∀ (I : Im) (J : Jm) (R : Rm), Bd I → RI R → Fl R → RLz I → R3 I J → RM I J R → True → W9 I R → TQ9 I J → P 1889 112 [(0, .ref 0), (1, .ref 1), (2, .ref 97), (3, .int v3)] [] I J R) : P 1619 112 [(0, .ref 0), (1, .ref 1), (2, .ref 97), (3, .int v3)] [] I J R := by
  have i_v3 := i32 v3
  have e97 : I 97 8 = nI (fl I) := (Int32.toInt_inj.mp hL0).symm.trans (fl_bd hB0).1
  have b31 := Bd.o hB0 io9_112_3_6 bd9_6_1
  refine ls_1619 hc v3 _ _ _ ?_
  have e1 : ((v3 + 1) : Int32).toInt = (v3.toInt) + (1) := ti_add rfl rfl (by omega)
  refine ⟨vp_of (a := (v3.toInt + 1)) e1 (by omega) (by omega), ?_⟩
  have z2 := i32 (xs (Int32.toNatClampNeg (v3 + 1)))
  have e3 : ((v3 + 2) : Int32).toInt = (v3.toInt) + (2) := ti_add rfl rfl (by omega)
  refine ⟨vp_of (a := (v3.toInt + 2)) e3 (by omega) (by omega), ?_⟩
  have z4 := i32 (xs (Int32.toNatClampNeg (v3 + 2)))
  refine ⟨⟨hF0, rfl⟩, ?_⟩
  refine kp7 rfl hR0 rfl (kpA rfl (kpnm rfl hR0 rfl (kp102 rfl hR0 rfl (kpW9 rfl hR0 rfl (kpN9 rfl (kp6 rfl hR0 rfl (kp4 rfl (kp5 rfl hR0 rfl (kp0 rfl (kp1 rfl (kp2 rfl (kp3 rfl (sp_X11_fillAt hB0 hR0 (fun x5 y10 I6 J7 hB8 p9 kq14 kq13 kq12 kq11 k16 k15 k17 w23 w22 w21 w20 w19 w18 => ?_))))))))))))))
  have i24 := i32 x5
  have b25 := Bd.o hB0 io9_112_3_6 bd9_6_1
  have e26 : ((I6 3 1) : Int32).toInt = (I 3 1).toInt := Eq.trans (congrArg Int32.toInt kq11) rfl
  have kz27 : ((I6 3 1) : Int32).toInt = (I 3 1).toInt := e26
  have b28 := Bd.o hB0 io9_112_97_12 bd9_12_8
  have e29 : ((I6 97 8) : Int32).toInt = (I 97 8).toInt := Eq.trans (congrArg Int32.toInt kq12) rfl
  have kz30 : ((I6 97 8) : Int32).toInt = (I 97 8).toInt := e29
  have b31 := Bd.o hB0 io9_112_1_11 bd9_11_13
  have e32 : ((I6 1 13) : Int32).toInt = (I 1 13).toInt := Eq.trans (congrArg Int32.toInt kq13) rfl
  have kz33 : ((I6 1 13) : Int32).toInt = (I 1 13).toInt := e32
  have b34 := Bd.o hB0 io9_112_97_12 bd9_12_23
  have e35 : ((I6 97 23) : Int32).toInt = (I 97 23).toInt := Eq.trans (congrArg Int32.toInt kq14) rfl
  have kz36 : ((I6 97 23) : Int32).toInt = (I 97 23).toInt := e35
  refine ⟨vp_of (a := (v3.toInt + 1)) e1 (by omega) (by omega), ?_⟩
  have z37 := i32 (xs (Int32.toNatClampNeg (v3 + 1)))
  refine ⟨vp_of (a := (v3.toInt + 2)) e3 (by omega) (by omega), ?_⟩
  have z38 := i32 (xs (Int32.toNatClampNeg (v3 + 2)))
  refine ⟨⟨hF0, rfl⟩, ?_⟩
  refine kp7 rfl hR0 rfl (kpA rfl (kpnm rfl hR0 rfl (kpW9 rfl hR0 rfl (kpN9 rfl (kp6 rfl hR0 rfl (kp4 rfl (kp5 rfl hR0 rfl (kp0 rfl (kp1 rfl (kp2 rfl (kp3 rfl (sp_X12_fillAt hB8 hR0 (fun x39 y44 I40 J41 hB42 p43 kq48 kq47 kq46 kq45 k50 k49 k51 w56 w55 w54 w53 w52 => ?_)))))))))))))
  have f57 : Fr pT I6 I40 := p43
  have i58 := i32 x39
  have e59 : ((I40 3 1) : Int32).toInt = (I 3 1).toInt := Eq.trans (congrArg Int32.toInt (Eq.trans kq45 kq11)) rfl
  have kz60 : ((I40 3 1) : Int32).toInt = (I 3 1).toInt := e59
  have e61 : ((I40 97 8) : Int32).toInt = (I 97 8).toInt := Eq.trans (congrArg Int32.toInt (Eq.trans kq46 kq12)) rfl
  have kz62 : ((I40 97 8) : Int32).toInt = (I 97 8).toInt := e61
  have e63 : ((I40 1 13) : Int32).toInt = (I 1 13).toInt := Eq.trans (congrArg Int32.toInt (Eq.trans kq47 kq13)) rfl
  have kz64 : ((I40 1 13) : Int32).toInt = (I 1 13).toInt := e63
  have e65 : ((I40 97 23) : Int32).toInt = (I 97 23).toInt := Eq.trans (congrArg Int32.toInt (Eq.trans kq48 kq14)) rfl
  have kz66 : ((I40 97 23) : Int32).toInt = (I 97 23).toInt := e65
  exact hN _ _ R hB42 hR0 hF0 ⟨(Eq.trans (e59) (Eq.trans hL0 (Eq.symm (e61)))), (Eq.trans (e63) (Eq.trans hL1 (Eq.symm (e65)))), (RT.kp (RT.kp hL2 k15 k16) k49 k50), trivial⟩ (R3.kp (R3.kp hR3 w18 (by have ya : ((I6 3 1) : Int32).toInt = (I 3 1).toInt := e26; have yb : ((I 3 1) : Int32).toInt = (I 3 1).toInt := rfl; omega)) w52 (by have ya : ((I40 3 1) : Int32).toInt = (I 3 1).toInt := e59; have yb : ((I6 3 1) : Int32).toInt = (I 3 1).toInt := e26; omega)) (RM.kp hR0 (RM.kp hR0 hRM ⟨w19, w20, (fun j _ => congrFun w21.1 j)⟩) ⟨w53, w54, (fun j _ => f57.1 j trivial)⟩) trivial (W9.kp hR0 (W9.kp hR0 hW9 w22 w21.1 w19.2) w55 (funext fun j => f57.1 j trivial) w53.2) (TQ9.kp hTQ (KQ9.tr w23 w56) (k50.2.trans k16.2))
set_option maxRecDepth 100000 in
set_option maxHeartbeats 2000000 in
theorem lc_40 {Q : Nat → Qt} {P : Kt} {L : Nat} {xs : Nat → Int32} (hc : Cl (AM 640) false true L xs 2 112 kL_law Q P) (hL : L ≤ 3584) {v3 : Int32} {I : Im} {J : Jm} {R : Rm} (hB0 : Bd I) (hR0 : RI R) (hF0 : Fl R) (hL0 : (I 3 1).toInt = (I 97 8).toInt) (hL1 : (I 1 13).toInt = (I 97 23).toInt) (hL2 : RT I) (hL3 : True) (hR3 : R3 I J) (hRM : RM I J R) (hFQ : True) (hW9 : W9 I R) (hTQ : TQ9 I J) (h0 : 0 ≤ v3.toInt) (h7 : v3.toInt + 7 ≤ (L : Int)) (hN : ∀ (I : Im) (J : Jm) (R : Rm), Bd I → RI R → Fl R → RLz I → R3 I J → RM I J R → True → W9 I R → TQ9 I J → P 1889 112 [(0, .ref 0), (1, .ref 1), (2, .ref 97), (3, .int v3)] [] I J R) : P 1652 112 [(0, .ref 0), (1, .ref 1), (2, .ref 97), (3, .int v3)] [] I J R := by
  have i_v3 := i32 v3
  have e97 : I 97 8 = nI (fl I) := (Int32.toInt_inj.mp hL0).symm.trans (fl_bd hB0).1
  have b31 := Bd.o hB0 io9_112_3_6 bd9_6_1
  refine ls_1652 hc v3 _ _ _ ?_
  have e1 : ((v3 + 1) : Int32).toInt = (v3.toInt) + (1) := ti_add rfl rfl (by omega)
  refine ⟨vp_of (a := (v3.toInt + 1)) e1 (by omega) (by omega), ?_⟩
  have z2 := i32 (xs (Int32.toNatClampNeg (v3 + 1)))
  refine ⟨⟨hF0, rfl⟩, ?_⟩
  refine kp7 rfl hR0 rfl (kpA rfl (kpnm rfl hR0 rfl (kp102 rfl hR0 rfl (kpW9 rfl hR0 rfl (kpT9 rfl hR0 rfl (kp4 rfl (kp5 rfl hR0 rfl (kp0 rfl (kp1 rfl (kp2 rfl (kp3 rfl (sp_X11_plate hB0 hR0 (fun x3 y8 I4 J5 hB6 p7 kq12 kq11 kq10 kq9 k14 k13 w20 w19 w18 w17 w16 w15 => ?_)))))))))))))
  have i21 := i32 x3
  have b22 := Bd.o hB0 io9_112_3_6 bd9_6_1
  have e23 : ((I4 3 1) : Int32).toInt = (I 3 1).toInt := Eq.trans (congrArg Int32.toInt kq9) rfl
  have kz24 : ((I4 3 1) : Int32).toInt = (I 3 1).toInt := e23
  have b25 := Bd.o hB0 io9_112_97_12 bd9_12_8
  have e26 : ((I4 97 8) : Int32).toInt = (I 97 8).toInt := Eq.trans (congrArg Int32.toInt kq10) rfl
  have kz27 : ((I4 97 8) : Int32).toInt = (I 97 8).toInt := e26
  have b28 := Bd.o hB0 io9_112_1_11 bd9_11_13
  have e29 : ((I4 1 13) : Int32).toInt = (I 1 13).toInt := Eq.trans (congrArg Int32.toInt kq11) rfl
  have kz30 : ((I4 1 13) : Int32).toInt = (I 1 13).toInt := e29
  have b31 := Bd.o hB0 io9_112_97_12 bd9_12_23
  have e32 : ((I4 97 23) : Int32).toInt = (I 97 23).toInt := Eq.trans (congrArg Int32.toInt kq12) rfl
  have kz33 : ((I4 97 23) : Int32).toInt = (I 97 23).toInt := e32
  refine ⟨vp_of (a := (v3.toInt + 1)) e1 (by omega) (by omega), ?_⟩
  have z34 := i32 (xs (Int32.toNatClampNeg (v3 + 1)))
  refine ⟨⟨hF0, rfl⟩, ?_⟩
  refine kp7 rfl hR0 rfl (kpA rfl (kpnm rfl hR0 rfl (kp102 rfl hR0 rfl (kpW9 rfl hR0 rfl (kpN9 rfl (kp6 rfl hR0 rfl (kp4 rfl (kp5 rfl hR0 rfl (kp0 rfl (kp1 rfl (kp2 rfl (kp3 rfl (sp_X12_plate hB6 hR0 (fun x35 y40 I36 J37 hB38 p39 kq44 kq43 kq42 kq41 k46 k45 k47 w53 w52 w51 w50 w49 w48 => ?_))))))))))))))
  have i54 := i32 x35
  have e55 : ((I36 3 1) : Int32).toInt = (I 3 1).toInt := Eq.trans (congrArg Int32.toInt (Eq.trans kq41 kq9)) rfl
  have kz56 : ((I36 3 1) : Int32).toInt = (I 3 1).toInt := e55
  have e57 : ((I36 97 8) : Int32).toInt = (I 97 8).toInt := Eq.trans (congrArg Int32.toInt (Eq.trans kq42 kq10)) rfl
  have kz58 : ((I36 97 8) : Int32).toInt = (I 97 8).toInt := e57
  have e59 : ((I36 1 13) : Int32).toInt = (I 1 13).toInt := Eq.trans (congrArg Int32.toInt (Eq.trans kq43 kq11)) rfl
  have kz60 : ((I36 1 13) : Int32).toInt = (I 1 13).toInt := e59
  have e61 : ((I36 97 23) : Int32).toInt = (I 97 23).toInt := Eq.trans (congrArg Int32.toInt (Eq.trans kq44 kq12)) rfl
  have kz62 : ((I36 97 23) : Int32).toInt = (I 97 23).toInt := e61
  exact hN _ _ R hB38 hR0 hF0 ⟨(Eq.trans (e55) (Eq.trans hL0 (Eq.symm (e57)))), (Eq.trans (e59) (Eq.trans hL1 (Eq.symm (e61)))), (RT.kp (RT.kp hL2 k13 k14) k45 k46), trivial⟩ (R3.kp (R3.kp hR3 w15 (by have ya : ((I4 3 1) : Int32).toInt = (I 3 1).toInt := e23; have yb : ((I 3 1) : Int32).toInt = (I 3 1).toInt := rfl; omega)) w48 (by have ya : ((I36 3 1) : Int32).toInt = (I 3 1).toInt := e55; have yb : ((I4 3 1) : Int32).toInt = (I 3 1).toInt := e23; omega)) (RM.kp hR0 (RM.kp hR0 hRM ⟨w16, w17, (fun j _ => congrFun w18.1 j)⟩) ⟨w49, w50, (fun j _ => congrFun w51.1 j)⟩) trivial (W9.kp hR0 (W9.kp hR0 hW9 w19 w18.1 w16.2) w52 w51.1 w49.2) (TQ9.kp hTQ (KQ9.tr w20 w53) (k46.2.trans k14.2))
set_option maxRecDepth 100000 in
set_option maxHeartbeats 2000000 in
theorem lc_41 {Q : Nat → Qt} {P : Kt} {L : Nat} {xs : Nat → Int32} (hc : Cl (AM 640) false true L xs 2 112 kL_law Q P) (hL : L ≤ 3584) {v3 : Int32} {I : Im} {J : Jm} {R : Rm} (hB0 : Bd I) (hR0 : RI R) (hF0 : Fl R) (hL0 : (I 3 1).toInt = (I 97 8).toInt) (hL1 : (I 1 13).toInt = (I 97 23).toInt) (hL2 : RT I) (hL3 : True) (hR3 : R3 I J) (hRM : RM I J R) (hFQ : True) (hW9 : W9 I R) (hTQ : TQ9 I J) (h0 : 0 ≤ v3.toInt) (h7 : v3.toInt + 7 ≤ (L : Int)) (hN : ∀ (I : Im) (J : Jm) (R : Rm), Bd I → RI R → Fl R → RLz I → R3 I J → RM I J R → True → W9 I R → TQ9 I J → P 1889 112 [(0, .ref 0), (1, .ref 1), (2, .ref 97), (3, .int v3)] [] I J R) : P 1675 112 [(0, .ref 0), (1, .ref 1), (2, .ref 97), (3, .int v3)] [] I J R := by
  have i_v3 := i32 v3
  have e97 : I 97 8 = nI (fl I) := (Int32.toInt_inj.mp hL0).symm.trans (fl_bd hB0).1
  have b31 := Bd.o hB0 io9_112_3_6 bd9_6_1
  refine ls_1675 hc v3 _ _ _ ?_
  have e1 : ((v3 + 1) : Int32).toInt = (v3.toInt) + (1) := ti_add rfl rfl (by omega)
  refine ⟨vp_of (a := (v3.toInt + 1)) e1 (by omega) (by omega), ?_⟩
  have z2 := i32 (xs (Int32.toNatClampNeg (v3 + 1)))
  refine ⟨⟨hF0, rfl⟩, ?_⟩
  refine kp7 rfl hR0 rfl (kpA rfl (kpnm rfl hR0 rfl (kp102 rfl hR0 rfl (kpW9 rfl hR0 rfl (kpT9 rfl hR0 rfl (kp4 rfl (kp5 rfl hR0 rfl (kp0 rfl (kp1 rfl (kp2 rfl (kp3 rfl (sp_X11_plateMove hB0 hR0 (fun x3 y8 I4 J5 hB6 p7 kq12 kq11 kq10 kq9 k14 k13 w20 w19 w18 w17 w16 w15 => ?_)))))))))))))
  have i21 := i32 x3
  have b22 := Bd.o hB0 io9_112_3_6 bd9_6_1
  have e23 : ((I4 3 1) : Int32).toInt = (I 3 1).toInt := Eq.trans (congrArg Int32.toInt kq9) rfl
  have kz24 : ((I4 3 1) : Int32).toInt = (I 3 1).toInt := e23
  have b25 := Bd.o hB0 io9_112_97_12 bd9_12_8
  have e26 : ((I4 97 8) : Int32).toInt = (I 97 8).toInt := Eq.trans (congrArg Int32.toInt kq10) rfl
  have kz27 : ((I4 97 8) : Int32).toInt = (I 97 8).toInt := e26
  have b28 := Bd.o hB0 io9_112_1_11 bd9_11_13
  have e29 : ((I4 1 13) : Int32).toInt = (I 1 13).toInt := Eq.trans (congrArg Int32.toInt kq11) rfl
  have kz30 : ((I4 1 13) : Int32).toInt = (I 1 13).toInt := e29
  have b31 := Bd.o hB0 io9_112_97_12 bd9_12_23
  have e32 : ((I4 97 23) : Int32).toInt = (I 97 23).toInt := Eq.trans (congrArg Int32.toInt kq12) rfl
  have kz33 : ((I4 97 23) : Int32).toInt = (I 97 23).toInt := e32
  refine ⟨vp_of (a := (v3.toInt + 1)) e1 (by omega) (by omega), ?_⟩
  have z34 := i32 (xs (Int32.toNatClampNeg (v3 + 1)))
  refine ⟨⟨hF0, rfl⟩, ?_⟩
  refine kp7 rfl hR0 rfl (kpA rfl (kpnm rfl hR0 rfl (kp102 rfl hR0 rfl (kpW9 rfl hR0 rfl (kpN9 rfl (kp6 rfl hR0 rfl (kp4 rfl (kp5 rfl hR0 rfl (kp0 rfl (kp1 rfl (kp2 rfl (kp3 rfl (sp_X12_plateMove hB6 hR0 (fun x35 y40 I36 J37 hB38 p39 kq44 kq43 kq42 kq41 k46 k45 k47 w53 w52 w51 w50 w49 w48 => ?_))))))))))))))
  have i54 := i32 x35
  have e55 : ((I36 3 1) : Int32).toInt = (I 3 1).toInt := Eq.trans (congrArg Int32.toInt (Eq.trans kq41 kq9)) rfl
  have kz56 : ((I36 3 1) : Int32).toInt = (I 3 1).toInt := e55
  have e57 : ((I36 97 8) : Int32).toInt = (I 97 8).toInt := Eq.trans (congrArg Int32.toInt (Eq.trans kq42 kq10)) rfl
  have kz58 : ((I36 97 8) : Int32).toInt = (I 97 8).toInt := e57
  have e59 : ((I36 1 13) : Int32).toInt = (I 1 13).toInt := Eq.trans (congrArg Int32.toInt (Eq.trans kq43 kq11)) rfl
  have kz60 : ((I36 1 13) : Int32).toInt = (I 1 13).toInt := e59
  have e61 : ((I36 97 23) : Int32).toInt = (I 97 23).toInt := Eq.trans (congrArg Int32.toInt (Eq.trans kq44 kq12)) rfl
  have kz62 : ((I36 97 23) : Int32).toInt = (I 97 23).toInt := e61
  exact hN _ _ R hB38 hR0 hF0 ⟨(Eq.trans (e55) (Eq.trans hL0 (Eq.symm (e57)))), (Eq.trans (e59) (Eq.trans hL1 (Eq.symm (e61)))), (RT.kp (RT.kp hL2 k13 k14) k45 k46), trivial⟩ (R3.kp (R3.kp hR3 w15 (by have ya : ((I4 3 1) : Int32).toInt = (I 3 1).toInt := e23; have yb : ((I 3 1) : Int32).toInt = (I 3 1).toInt := rfl; omega)) w48 (by have ya : ((I36 3 1) : Int32).toInt = (I 3 1).toInt := e55; have yb : ((I4 3 1) : Int32).toInt = (I 3 1).toInt := e23; omega)) (RM.kp hR0 (RM.kp hR0 hRM ⟨w16, w17, (fun j _ => congrFun w18.1 j)⟩) ⟨w49, w50, (fun j _ => congrFun w51.1 j)⟩) trivial (W9.kp hR0 (W9.kp hR0 hW9 w19 w18.1 w16.2) w52 w51.1 w49.2) (TQ9.kp hTQ (KQ9.tr w20 w53) (k46.2.trans k14.2))
set_option maxRecDepth 100000 in
set_option maxHeartbeats 2000000 in
theorem lc_42 {Q : Nat → Qt} {P : Kt} {L : Nat} {xs : Nat → Int32} (hc : Cl (AM 640) false true L xs 2 112 kL_law Q P) (hL : L ≤ 3584) {v3 : Int32} {I : Im} {J : Jm} {R : Rm} (hB0 : Bd I) (hR0 : RI R) (hF0 : Fl R) (hL0 : (I 3 1).toInt = (I 97 8).toInt) (hL1 : (I 1 13).toInt = (I 97 23).toInt) (hL2 : RT I) (hL3 : True) (hR3 : R3 I J) (hRM : RM I J R) (hFQ : True) (hW9 : W9 I R) (hTQ : TQ9 I J) (h0 : 0 ≤ v3.toInt) (h7 : v3.toInt + 7 ≤ (L : Int)) (hN : ∀ (I : Im) (J : Jm) (R : Rm), Bd I → RI R → Fl R → RLz I → R3 I J → RM I J R → True → W9 I R → TQ9 I J → P 1889 112 [(0, .ref 0), (1, .ref 1), (2, .ref 97), (3, .int v3)] [] I J R) : P 1698 112 [(0, .ref 0), (1, .ref 1), (2, .ref 97), (3, .int v3)] [] I J R := by
  have i_v3 := i32 v3
  have e97 : I 97 8 = nI (fl I) := (Int32.toInt_inj.mp hL0).symm.trans (fl_bd hB0).1
  have b31 := Bd.o hB0 io9_112_3_6 bd9_6_1
  refine ls_1698 hc v3 _ _ _ ?_
  have e1 : ((v3 + 1) : Int32).toInt = (v3.toInt) + (1) := ti_add rfl rfl (by omega)
  refine ⟨vp_of (a := (v3.toInt + 1)) e1 (by omega) (by omega), ?_⟩
  have z2 := i32 (xs (Int32.toNatClampNeg (v3 + 1)))
  have e3 : ((v3 + 2) : Int32).toInt = (v3.toInt) + (2) := ti_add rfl rfl (by omega)
  refine ⟨vp_of (a := (v3.toInt + 2)) e3 (by omega) (by omega), ?_⟩
  have z4 := i32 (xs (Int32.toNatClampNeg (v3 + 2)))
  have e5 : ((v3 + 3) : Int32).toInt = (v3.toInt) + (3) := ti_add rfl rfl (by omega)
  refine ⟨vp_of (a := (v3.toInt + 3)) e5 (by omega) (by omega), ?_⟩
  have z6 := i32 (xs (Int32.toNatClampNeg (v3 + 3)))
  have e7 : ((v3 + 4) : Int32).toInt = (v3.toInt) + (4) := ti_add rfl rfl (by omega)
  refine ⟨vp_of (a := (v3.toInt + 4)) e7 (by omega) (by omega), ?_⟩
  have z8 := i32 (xs (Int32.toNatClampNeg (v3 + 4)))
  refine ⟨⟨hF0, rfl⟩, ?_⟩
  refine kp7 rfl hR0 rfl (kpA rfl (kpnm rfl hR0 rfl (kp102 rfl hR0 rfl (kpW9 rfl hR0 rfl (kpT9 rfl hR0 rfl (kp4 rfl (kp5 rfl hR0 rfl (kp0 rfl (kp1 rfl (kp2 rfl (kp3 rfl (sp_X11_luck hB0 hR0 (fun x9 y14 I10 J11 hB12 p13 kq18 kq17 kq16 kq15 k20 k19 w26 w25 w24 w23 w22 w21 => ?_)))))))))))))
  intro o27
  have i28 := i32 x9
  have b29 := Bd.o hB0 io9_112_3_6 bd9_6_1
  have e30 : ((I10 3 1) : Int32).toInt = (I 3 1).toInt := Eq.trans (congrArg Int32.toInt kq15) rfl
  have kz31 : ((I10 3 1) : Int32).toInt = (I 3 1).toInt := e30
  have b32 := Bd.o hB0 io9_112_97_12 bd9_12_8
  have e33 : ((I10 97 8) : Int32).toInt = (I 97 8).toInt := Eq.trans (congrArg Int32.toInt kq16) rfl
  have kz34 : ((I10 97 8) : Int32).toInt = (I 97 8).toInt := e33
  have b35 := Bd.o hB0 io9_112_1_11 bd9_11_13
  have e36 : ((I10 1 13) : Int32).toInt = (I 1 13).toInt := Eq.trans (congrArg Int32.toInt kq17) rfl
  have kz37 : ((I10 1 13) : Int32).toInt = (I 1 13).toInt := e36
  have b38 := Bd.o hB0 io9_112_97_12 bd9_12_23
  have e39 : ((I10 97 23) : Int32).toInt = (I 97 23).toInt := Eq.trans (congrArg Int32.toInt kq18) rfl
  have kz40 : ((I10 97 23) : Int32).toInt = (I 97 23).toInt := e39
  refine ⟨vp_of (a := (v3.toInt + 1)) e1 (by omega) (by omega), ?_⟩
  have z41 := i32 (xs (Int32.toNatClampNeg (v3 + 1)))
  refine ⟨vp_of (a := (v3.toInt + 2)) e3 (by omega) (by omega), ?_⟩
  have z42 := i32 (xs (Int32.toNatClampNeg (v3 + 2)))
  refine ⟨vp_of (a := (v3.toInt + 3)) e5 (by omega) (by omega), ?_⟩
  have z43 := i32 (xs (Int32.toNatClampNeg (v3 + 3)))
  refine ⟨vp_of (a := (v3.toInt + 4)) e7 (by omega) (by omega), ?_⟩
  have z44 := i32 (xs (Int32.toNatClampNeg (v3 + 4)))
  refine ⟨⟨hF0, rfl⟩, ?_⟩
  refine kp7 rfl hR0 rfl (kpA rfl (kpnm rfl hR0 rfl (kp102 rfl hR0 rfl (kpW9 rfl hR0 rfl (kpN9 rfl (kp6 rfl hR0 rfl (kp4 rfl (kp5 rfl hR0 rfl (kp0 rfl (kp1 rfl (kp2 rfl (kp3 rfl (sp_X12_luck hB12 hR0 (fun x45 y50 I46 J47 hB48 p49 kq54 kq53 kq52 kq51 k56 k55 k57 w63 w62 w61 w60 w59 w58 => ?_))))))))))))))
  intro o64
  have i65 := i32 x45
  have e66 : ((I46 3 1) : Int32).toInt = (I 3 1).toInt := Eq.trans (congrArg Int32.toInt (Eq.trans kq51 kq15)) rfl
  have kz67 : ((I46 3 1) : Int32).toInt = (I 3 1).toInt := e66
  have e68 : ((I46 97 8) : Int32).toInt = (I 97 8).toInt := Eq.trans (congrArg Int32.toInt (Eq.trans kq52 kq16)) rfl
  have kz69 : ((I46 97 8) : Int32).toInt = (I 97 8).toInt := e68
  have e70 : ((I46 1 13) : Int32).toInt = (I 1 13).toInt := Eq.trans (congrArg Int32.toInt (Eq.trans kq53 kq17)) rfl
  have kz71 : ((I46 1 13) : Int32).toInt = (I 1 13).toInt := e70
  have e72 : ((I46 97 23) : Int32).toInt = (I 97 23).toInt := Eq.trans (congrArg Int32.toInt (Eq.trans kq54 kq18)) rfl
  have kz73 : ((I46 97 23) : Int32).toInt = (I 97 23).toInt := e72
  exact hN _ _ R hB48 hR0 hF0 ⟨(Eq.trans (e66) (Eq.trans hL0 (Eq.symm (e68)))), (Eq.trans (e70) (Eq.trans hL1 (Eq.symm (e72)))), (RT.kp (RT.kp hL2 k19 k20) k55 k56), trivial⟩ (R3.kp (R3.kp hR3 w21 (by have ya : ((I10 3 1) : Int32).toInt = (I 3 1).toInt := e30; have yb : ((I 3 1) : Int32).toInt = (I 3 1).toInt := rfl; omega)) w58 (by have ya : ((I46 3 1) : Int32).toInt = (I 3 1).toInt := e66; have yb : ((I10 3 1) : Int32).toInt = (I 3 1).toInt := e30; omega)) (RM.kp hR0 (RM.kp hR0 hRM ⟨w22, w23, (fun j _ => congrFun w24.1 j)⟩) ⟨w59, w60, (fun j _ => congrFun w61.1 j)⟩) trivial (W9.kp hR0 (W9.kp hR0 hW9 w25 w24.1 w22.2) w62 w61.1 w59.2) (TQ9.kp hTQ (KQ9.tr w26 w63) (k56.2.trans k20.2))
set_option maxRecDepth 100000 in
set_option maxHeartbeats 2000000 in
theorem lc_43 {Q : Nat → Qt} {P : Kt} {L : Nat} {xs : Nat → Int32} (hc : Cl (AM 640) false true L xs 2 112 kL_law Q P) (hL : L ≤ 3584) {v3 : Int32} {I : Im} {J : Jm} {R : Rm} (hB0 : Bd I) (hR0 : RI R) (hF0 : Fl R) (hL0 : (I 3 1).toInt = (I 97 8).toInt) (hL1 : (I 1 13).toInt = (I 97 23).toInt) (hL2 : RT I) (hL3 : True) (hR3 : R3 I J) (hRM : RM I J R) (hFQ : True) (hW9 : W9 I R) (hTQ : TQ9 I J) (h0 : 0 ≤ v3.toInt) (h7 : v3.toInt + 7 ≤ (L : Int)) (hN : ∀ (I : Im) (J : Jm) (R : Rm), Bd I → RI R → Fl R → RLz I → R3 I J → RM I J R → True → W9 I R → TQ9 I J → P 1889 112 [(0, .ref 0), (1, .ref 1), (2, .ref 97), (3, .int v3)] [] I J R) : P 1751 112 [(0, .ref 0), (1, .ref 1), (2, .ref 97), (3, .int v3)] [] I J R := by
  have i_v3 := i32 v3
  have e97 : I 97 8 = nI (fl I) := (Int32.toInt_inj.mp hL0).symm.trans (fl_bd hB0).1
  have b31 := Bd.o hB0 io9_112_3_6 bd9_6_1
  refine ls_1751 hc v3 _ _ _ ?_
  have e1 : ((v3 + 1) : Int32).toInt = (v3.toInt) + (1) := ti_add rfl rfl (by omega)
  refine ⟨vp_of (a := (v3.toInt + 1)) e1 (by omega) (by omega), ?_⟩
  have z2 := i32 (xs (Int32.toNatClampNeg (v3 + 1)))
  have e3 : ((v3 + 2) : Int32).toInt = (v3.toInt) + (2) := ti_add rfl rfl (by omega)
  refine ⟨vp_of (a := (v3.toInt + 2)) e3 (by omega) (by omega), ?_⟩
  have z4 := i32 (xs (Int32.toNatClampNeg (v3 + 2)))
  refine ⟨⟨hF0, rfl⟩, ?_⟩
  refine kp7 rfl hR0 rfl (kpA rfl (kpnm rfl hR0 rfl (kp102 rfl hR0 rfl (kpW9 rfl hR0 rfl (kpN9 rfl (kp6 rfl hR0 rfl (kp4 rfl (kp5 rfl hR0 rfl (kp0 rfl (kp1 rfl (kp2 rfl (kp3 rfl (sp_X11_burnt hB0 hR0 (fun x5 y10 I6 J7 hB8 p9 kq14 kq13 kq12 kq11 k16 k15 k17 w23 w22 w21 w20 w19 w18 => ?_))))))))))))))
  intro o24
  have i25 := i32 x5
  have b26 := Bd.o hB0 io9_112_3_6 bd9_6_1
  have e27 : ((I6 3 1) : Int32).toInt = (I 3 1).toInt := Eq.trans (congrArg Int32.toInt kq11) rfl
  have kz28 : ((I6 3 1) : Int32).toInt = (I 3 1).toInt := e27
  have b29 := Bd.o hB0 io9_112_97_12 bd9_12_8
  have e30 : ((I6 97 8) : Int32).toInt = (I 97 8).toInt := Eq.trans (congrArg Int32.toInt kq12) rfl
  have kz31 : ((I6 97 8) : Int32).toInt = (I 97 8).toInt := e30
  have b32 := Bd.o hB0 io9_112_1_11 bd9_11_13
  have e33 : ((I6 1 13) : Int32).toInt = (I 1 13).toInt := Eq.trans (congrArg Int32.toInt kq13) rfl
  have kz34 : ((I6 1 13) : Int32).toInt = (I 1 13).toInt := e33
  have b35 := Bd.o hB0 io9_112_97_12 bd9_12_23
  have e36 : ((I6 97 23) : Int32).toInt = (I 97 23).toInt := Eq.trans (congrArg Int32.toInt kq14) rfl
  have kz37 : ((I6 97 23) : Int32).toInt = (I 97 23).toInt := e36
  refine ⟨vp_of (a := (v3.toInt + 1)) e1 (by omega) (by omega), ?_⟩
  have z38 := i32 (xs (Int32.toNatClampNeg (v3 + 1)))
  refine ⟨vp_of (a := (v3.toInt + 2)) e3 (by omega) (by omega), ?_⟩
  have z39 := i32 (xs (Int32.toNatClampNeg (v3 + 2)))
  refine ⟨⟨hF0, rfl⟩, ?_⟩
  refine kp7 rfl hR0 rfl (kpA rfl (kpnm rfl hR0 rfl (kti rfl (kpW9 rfl hR0 rfl (kpT9 rfl hR0 rfl (kp6 rfl hR0 rfl (kp4 rfl (kp5 rfl hR0 rfl (kp0 rfl (kp1 rfl (kp2 rfl (kp3 rfl (sp_X12_burnt hB8 hR0 (fun x40 y45 I41 J42 hB43 p44 kq49 kq48 kq47 kq46 k51 k50 k52 w58 w57 w56 w55 w54 w53 => ?_))))))))))))))
  intro o59
  have i60 := i32 x40
  have e61 : ((I41 3 1) : Int32).toInt = (I 3 1).toInt := Eq.trans (congrArg Int32.toInt (Eq.trans kq46 kq11)) rfl
  have kz62 : ((I41 3 1) : Int32).toInt = (I 3 1).toInt := e61
  have e63 : ((I41 97 8) : Int32).toInt = (I 97 8).toInt := Eq.trans (congrArg Int32.toInt (Eq.trans kq47 kq12)) rfl
  have kz64 : ((I41 97 8) : Int32).toInt = (I 97 8).toInt := e63
  have e65 : ((I41 1 13) : Int32).toInt = (I 1 13).toInt := Eq.trans (congrArg Int32.toInt (Eq.trans kq48 kq13)) rfl
  have kz66 : ((I41 1 13) : Int32).toInt = (I 1 13).toInt := e65
  have e67 : ((I41 97 23) : Int32).toInt = (I 97 23).toInt := Eq.trans (congrArg Int32.toInt (Eq.trans kq49 kq14)) rfl
  have kz68 : ((I41 97 23) : Int32).toInt = (I 97 23).toInt := e67
  exact hN _ _ R hB43 hR0 hF0 ⟨(Eq.trans (e61) (Eq.trans hL0 (Eq.symm (e63)))), (Eq.trans (e65) (Eq.trans hL1 (Eq.symm (e67)))), (RT.kp (RT.kp hL2 k15 k16) k50 k51), trivial⟩ (R3.kp (R3.kp hR3 w18 (by have ya : ((I6 3 1) : Int32).toInt = (I 3 1).toInt := e27; have yb : ((I 3 1) : Int32).toInt = (I 3 1).toInt := rfl; omega)) w53 (by have ya : ((I41 3 1) : Int32).toInt = (I 3 1).toInt := e61; have yb : ((I6 3 1) : Int32).toInt = (I 3 1).toInt := e27; omega)) (RM.kp hR0 (RM.kp hR0 hRM ⟨w19, w20, (fun j _ => congrFun w21.1 j)⟩) ⟨w54, w55, (fun j _ => congrFun w56 j)⟩) trivial (W9.kp hR0 (W9.kp hR0 hW9 w22 w21.1 w19.2) w57 w56 w54.2) (TQ9.kp hTQ (KQ9.tr w23 w58) (k51.2.trans k16.2))
set_option maxRecDepth 100000 in
set_option maxHeartbeats 2000000 in
theorem lc_44 {Q : Nat → Qt} {P : Kt} {L : Nat} {xs : Nat → Int32} (hc : Cl (AM 640) false true L xs 2 112 kL_law Q P) (hL : L ≤ 3584) {v3 : Int32} {I : Im} {J : Jm} {R : Rm} (hB0 : Bd I) (hR0 : RI R) (hF0 : Fl R) (hL0 : (I 3 1).toInt = (I 97 8).toInt) (hL1 : (I 1 13).toInt = (I 97 23).toInt) (hL2 : RT I) (hL3 : True) (hR3 : R3 I J) (hRM : RM I J R) (hFQ : True) (hW9 : W9 I R) (hTQ : TQ9 I J) (h0 : 0 ≤ v3.toInt) (h7 : v3.toInt + 7 ≤ (L : Int)) (hN : ∀ (I : Im) (J : Jm) (R : Rm), Bd I → RI R → Fl R → RLz I → R3 I J → RM I J R → True → W9 I R → TQ9 I J → P 1889 112 [(0, .ref 0), (1, .ref 1), (2, .ref 97), (3, .int v3)] [] I J R) : P 1784 112 [(0, .ref 0), (1, .ref 1), (2, .ref 97), (3, .int v3)] [] I J R := by
  have i_v3 := i32 v3
  have e97 : I 97 8 = nI (fl I) := (Int32.toInt_inj.mp hL0).symm.trans (fl_bd hB0).1
  have b31 := Bd.o hB0 io9_112_3_6 bd9_6_1
  refine ls_1784 hc v3 _ _ _ ?_
  have e1 : ((v3 + 1) : Int32).toInt = (v3.toInt) + (1) := ti_add rfl rfl (by omega)
  refine ⟨vp_of (a := (v3.toInt + 1)) e1 (by omega) (by omega), ?_⟩
  have z2 := i32 (xs (Int32.toNatClampNeg (v3 + 1)))
  refine ⟨⟨hF0, rfl⟩, ?_⟩
  refine kp7 rfl hR0 rfl (kpA rfl (kpnm rfl hR0 rfl (kp102 rfl hR0 rfl (kx (cx_live9 hB0 hR0 hRM.1.1 hW9) (kpN9 rfl (kp6 rfl hR0 rfl (kp4 rfl (kp5 rfl hR0 rfl (kp0 rfl (kp1 rfl (kp2 rfl (kp3 rfl (sp_X11_live hB0 hR0 (fun x3 y8 I4 J5 hB6 p7 kq12 kq11 kq10 kq9 k14 k13 k15 w21 w20 w19 w18 w17 w16 => ?_))))))))))))))
  have i22 := i32 x3
  have b23 := Bd.o hB0 io9_112_3_6 bd9_6_1
  have e24 : ((I4 3 1) : Int32).toInt = (I 3 1).toInt := Eq.trans (congrArg Int32.toInt kq9) rfl
  have kz25 : ((I4 3 1) : Int32).toInt = (I 3 1).toInt := e24
  have b26 := Bd.o hB0 io9_112_97_12 bd9_12_8
  have e27 : ((I4 97 8) : Int32).toInt = (I 97 8).toInt := Eq.trans (congrArg Int32.toInt kq10) rfl
  have kz28 : ((I4 97 8) : Int32).toInt = (I 97 8).toInt := e27
  have b29 := Bd.o hB0 io9_112_1_11 bd9_11_13
  have e30 : ((I4 1 13) : Int32).toInt = (I 1 13).toInt := Eq.trans (congrArg Int32.toInt kq11) rfl
  have kz31 : ((I4 1 13) : Int32).toInt = (I 1 13).toInt := e30
  have b32 := Bd.o hB0 io9_112_97_12 bd9_12_23
  have e33 : ((I4 97 23) : Int32).toInt = (I 97 23).toInt := Eq.trans (congrArg Int32.toInt kq12) rfl
  have kz34 : ((I4 97 23) : Int32).toInt = (I 97 23).toInt := e33
  refine ⟨vp_of (a := (v3.toInt + 1)) e1 (by omega) (by omega), ?_⟩
  have z35 := i32 (xs (Int32.toNatClampNeg (v3 + 1)))
  refine ⟨⟨hF0, rfl⟩, ?_⟩
  refine kp7 rfl hR0 rfl (kpA rfl (kpnm rfl hR0 rfl (kx (mx_live9 hR0 hB0 hW9 w20) (kpN9 rfl (kp6 rfl hR0 rfl (kp4 rfl (kp5 rfl hR0 rfl (kp0 rfl (kp1 rfl (kp2 rfl (kp3 rfl (sp_X12_live hB6 hR0 (fun x36 y41 I37 J38 hB39 p40 kq45 kq44 kq43 kq42 k47 k46 k48 w53 w52 w51 w50 w49 => ?_)))))))))))))
  have f54 : Fr pK I4 I37 := p40
  have i55 := i32 x36
  have e56 : ((I37 3 1) : Int32).toInt = (I 3 1).toInt := Eq.trans (congrArg Int32.toInt (Eq.trans kq42 kq9)) rfl
  have kz57 : ((I37 3 1) : Int32).toInt = (I 3 1).toInt := e56
  have e58 : ((I37 97 8) : Int32).toInt = (I 97 8).toInt := Eq.trans (congrArg Int32.toInt (Eq.trans kq43 kq10)) rfl
  have kz59 : ((I37 97 8) : Int32).toInt = (I 97 8).toInt := e58
  have e60 : ((I37 1 13) : Int32).toInt = (I 1 13).toInt := Eq.trans (congrArg Int32.toInt (Eq.trans kq44 kq11)) rfl
  have kz61 : ((I37 1 13) : Int32).toInt = (I 1 13).toInt := e60
  have e62 : ((I37 97 23) : Int32).toInt = (I 97 23).toInt := Eq.trans (congrArg Int32.toInt (Eq.trans kq45 kq12)) rfl
  have kz63 : ((I37 97 23) : Int32).toInt = (I 97 23).toInt := e62
  have hg64 : (x36 : Int32).toInt = (x3 : Int32).toInt := congrArg Int32.toInt (w52.1)
  exact hN _ _ R hB39 hR0 hF0 ⟨(Eq.trans (e56) (Eq.trans hL0 (Eq.symm (e58)))), (Eq.trans (e60) (Eq.trans hL1 (Eq.symm (e62)))), (RT.kp (RT.kp hL2 k13 k14) k46 k47), trivial⟩ (R3.kp (R3.kp hR3 w16 (by have ya : ((I4 3 1) : Int32).toInt = (I 3 1).toInt := e24; have yb : ((I 3 1) : Int32).toInt = (I 3 1).toInt := rfl; omega)) w49 (by have ya : ((I37 3 1) : Int32).toInt = (I 3 1).toInt := e56; have yb : ((I4 3 1) : Int32).toInt = (I 3 1).toInt := e24; omega)) (RM.kp hR0 (RM.kp hR0 hRM ⟨w17, w18, (fun j _ => congrFun w19.1 j)⟩) ⟨w50, w51, (fun j hj => f54.1 j hj)⟩) trivial (w52.2.1) (TQ9.kp hTQ (KQ9.tr w21 w53) (k47.2.trans k14.2))
set_option maxRecDepth 100000 in
set_option maxHeartbeats 2000000 in
theorem lc_45 {Q : Nat → Qt} {P : Kt} {L : Nat} {xs : Nat → Int32} (hc : Cl (AM 640) false true L xs 2 112 kL_law Q P) (hL : L ≤ 3584) {v3 : Int32} {I : Im} {J : Jm} {R : Rm} (hB0 : Bd I) (hR0 : RI R) (hF0 : Fl R) (hL0 : (I 3 1).toInt = (I 97 8).toInt) (hL1 : (I 1 13).toInt = (I 97 23).toInt) (hL2 : RT I) (hL3 : True) (hR3 : R3 I J) (hRM : RM I J R) (hFQ : True) (hW9 : W9 I R) (hTQ : TQ9 I J) (h0 : 0 ≤ v3.toInt) (h7 : v3.toInt + 7 ≤ (L : Int)) (hN : ∀ (I : Im) (J : Jm) (R : Rm), Bd I → RI R → Fl R → RLz I → R3 I J → RM I J R → True → W9 I R → TQ9 I J → P 1889 112 [(0, .ref 0), (1, .ref 1), (2, .ref 97), (3, .int v3)] [] I J R) : P 1807 112 [(0, .ref 0), (1, .ref 1), (2, .ref 97), (3, .int v3)] [] I J R := by
  have i_v3 := i32 v3
  have e97 : I 97 8 = nI (fl I) := (Int32.toInt_inj.mp hL0).symm.trans (fl_bd hB0).1
  have b31 := Bd.o hB0 io9_112_3_6 bd9_6_1
  refine ls_1807 hc v3 _ _ _ ?_
  have e1 : ((v3 + 1) : Int32).toInt = (v3.toInt) + (1) := ti_add rfl rfl (by omega)
  refine ⟨vp_of (a := (v3.toInt + 1)) e1 (by omega) (by omega), ?_⟩
  have z2 := i32 (xs (Int32.toNatClampNeg (v3 + 1)))
  refine ⟨⟨hF0, rfl⟩, ?_⟩
  refine kp7 rfl hR0 rfl (kpA rfl (kpnm rfl hR0 rfl (kp102 rfl hR0 rfl (kpW9 rfl hR0 rfl (kpN9 rfl (kp6 rfl hR0 rfl (kp4 rfl (kp5 rfl hR0 rfl (kp0 rfl (kp1 rfl (kp2 rfl (kp3 rfl (sp_X11_lived hB0 hR0 (fun x3 y8 I4 J5 hB6 p7 kq12 kq11 kq10 kq9 k14 k13 k15 w21 w20 w19 w18 w17 w16 => ?_))))))))))))))
  have i22 := i32 x3
  have b23 := Bd.o hB0 io9_112_3_6 bd9_6_1
  have e24 : ((I4 3 1) : Int32).toInt = (I 3 1).toInt := Eq.trans (congrArg Int32.toInt kq9) rfl
  have kz25 : ((I4 3 1) : Int32).toInt = (I 3 1).toInt := e24
  have b26 := Bd.o hB0 io9_112_97_12 bd9_12_8
  have e27 : ((I4 97 8) : Int32).toInt = (I 97 8).toInt := Eq.trans (congrArg Int32.toInt kq10) rfl
  have kz28 : ((I4 97 8) : Int32).toInt = (I 97 8).toInt := e27
  have b29 := Bd.o hB0 io9_112_1_11 bd9_11_13
  have e30 : ((I4 1 13) : Int32).toInt = (I 1 13).toInt := Eq.trans (congrArg Int32.toInt kq11) rfl
  have kz31 : ((I4 1 13) : Int32).toInt = (I 1 13).toInt := e30
  have b32 := Bd.o hB0 io9_112_97_12 bd9_12_23
  have e33 : ((I4 97 23) : Int32).toInt = (I 97 23).toInt := Eq.trans (congrArg Int32.toInt kq12) rfl
  have kz34 : ((I4 97 23) : Int32).toInt = (I 97 23).toInt := e33
  refine ⟨vp_of (a := (v3.toInt + 1)) e1 (by omega) (by omega), ?_⟩
  have z35 := i32 (xs (Int32.toNatClampNeg (v3 + 1)))
  refine ⟨⟨hF0, rfl⟩, ?_⟩
  refine kp7 rfl hR0 rfl (kpA rfl (kpnm rfl hR0 rfl (kp102 rfl hR0 rfl (kpW9 rfl hR0 rfl (kpN9 rfl (kp6 rfl hR0 rfl (kp4 rfl (kp5 rfl hR0 rfl (kp0 rfl (kp1 rfl (kp2 rfl (kp3 rfl (sp_X12_lived hB6 hR0 (fun x36 y41 I37 J38 hB39 p40 kq45 kq44 kq43 kq42 k47 k46 k48 w54 w53 w52 w51 w50 w49 => ?_))))))))))))))
  have i55 := i32 x36
  have e56 : ((I37 3 1) : Int32).toInt = (I 3 1).toInt := Eq.trans (congrArg Int32.toInt (Eq.trans kq42 kq9)) rfl
  have kz57 : ((I37 3 1) : Int32).toInt = (I 3 1).toInt := e56
  have e58 : ((I37 97 8) : Int32).toInt = (I 97 8).toInt := Eq.trans (congrArg Int32.toInt (Eq.trans kq43 kq10)) rfl
  have kz59 : ((I37 97 8) : Int32).toInt = (I 97 8).toInt := e58
  have e60 : ((I37 1 13) : Int32).toInt = (I 1 13).toInt := Eq.trans (congrArg Int32.toInt (Eq.trans kq44 kq11)) rfl
  have kz61 : ((I37 1 13) : Int32).toInt = (I 1 13).toInt := e60
  have e62 : ((I37 97 23) : Int32).toInt = (I 97 23).toInt := Eq.trans (congrArg Int32.toInt (Eq.trans kq45 kq12)) rfl
  have kz63 : ((I37 97 23) : Int32).toInt = (I 97 23).toInt := e62
  exact hN _ _ R hB39 hR0 hF0 ⟨(Eq.trans (e56) (Eq.trans hL0 (Eq.symm (e58)))), (Eq.trans (e60) (Eq.trans hL1 (Eq.symm (e62)))), (RT.kp (RT.kp hL2 k13 k14) k46 k47), trivial⟩ (R3.kp (R3.kp hR3 w16 (by have ya : ((I4 3 1) : Int32).toInt = (I 3 1).toInt := e24; have yb : ((I 3 1) : Int32).toInt = (I 3 1).toInt := rfl; omega)) w49 (by have ya : ((I37 3 1) : Int32).toInt = (I 3 1).toInt := e56; have yb : ((I4 3 1) : Int32).toInt = (I 3 1).toInt := e24; omega)) (RM.kp hR0 (RM.kp hR0 hRM ⟨w17, w18, (fun j _ => congrFun w19.1 j)⟩) ⟨w50, w51, (fun j _ => congrFun w52.1 j)⟩) trivial (W9.kp hR0 (W9.kp hR0 hW9 w20 w19.1 w17.2) w53 w52.1 w50.2) (TQ9.kp hTQ (KQ9.tr w21 w54) (k47.2.trans k14.2))
set_option maxRecDepth 100000 in
set_option maxHeartbeats 2000000 in
theorem lc_46 {Q : Nat → Qt} {P : Kt} {L : Nat} {xs : Nat → Int32} (hc : Cl (AM 640) false true L xs 2 112 kL_law Q P) (hL : L ≤ 3584) {v3 : Int32} {I : Im} {J : Jm} {R : Rm} (hB0 : Bd I) (hR0 : RI R) (hF0 : Fl R) (hL0 : (I 3 1).toInt = (I 97 8).toInt) (hL1 : (I 1 13).toInt = (I 97 23).toInt) (hL2 : RT I) (hL3 : True) (hR3 : R3 I J) (hRM : RM I J R) (hFQ : True) (hW9 : W9 I R) (hTQ : TQ9 I J) (h0 : 0 ≤ v3.toInt) (h7 : v3.toInt + 7 ≤ (L : Int)) (hN : ∀ (I : Im) (J : Jm) (R : Rm), Bd I → RI R → Fl R → RLz I → R3 I J → RM I J R → True → W9 I R → TQ9 I J → P 1889 112 [(0, .ref 0), (1, .ref 1), (2, .ref 97), (3, .int v3)] [] I J R) : P 1830 112 [(0, .ref 0), (1, .ref 1), (2, .ref 97), (3, .int v3)] [] I J R := by
  have i_v3 := i32 v3
  have e97 : I 97 8 = nI (fl I) := (Int32.toInt_inj.mp hL0).symm.trans (fl_bd hB0).1
  have b31 := Bd.o hB0 io9_112_3_6 bd9_6_1
  refine ls_1830 hc v3 _ _ _ ?_
  have e1 : ((v3 + 1) : Int32).toInt = (v3.toInt) + (1) := ti_add rfl rfl (by omega)
  refine ⟨vp_of (a := (v3.toInt + 1)) e1 (by omega) (by omega), ?_⟩
  have z2 := i32 (xs (Int32.toNatClampNeg (v3 + 1)))
  have e3 : ((v3 + 2) : Int32).toInt = (v3.toInt) + (2) := ti_add rfl rfl (by omega)
  refine ⟨vp_of (a := (v3.toInt + 2)) e3 (by omega) (by omega), ?_⟩
  have z4 := i32 (xs (Int32.toNatClampNeg (v3 + 2)))
  refine ⟨⟨hF0, rfl⟩, ?_⟩
  refine kp7 rfl hR0 rfl (kx (cx_mean hB0 hR0) (kx (cx_mean9 hB0 hR0 hRM.1.1 hW9) (kpT9 rfl hR0 rfl (kp6 rfl hR0 rfl (kp4 rfl (kp5 rfl hR0 rfl (kp0 rfl (kp1 rfl (kp2 rfl (kp3 rfl (sp_X11_mean hB0 hR0 (fun x5 y10 I6 J7 hB8 p9 kq14 kq13 kq12 kq11 k16 k15 k17 w21 w20 w19 w18 => ?_))))))))))))
  intro o22
  have i23 := i32 x5
  have b24 := Bd.o hB0 io9_112_3_6 bd9_6_1
  have e25 : ((I6 3 1) : Int32).toInt = (I 3 1).toInt := Eq.trans (congrArg Int32.toInt kq11) rfl
  have kz26 : ((I6 3 1) : Int32).toInt = (I 3 1).toInt := e25
  have b27 := Bd.o hB0 io9_112_97_12 bd9_12_8
  have e28 : ((I6 97 8) : Int32).toInt = (I 97 8).toInt := Eq.trans (congrArg Int32.toInt kq12) rfl
  have kz29 : ((I6 97 8) : Int32).toInt = (I 97 8).toInt := e28
  have b30 := Bd.o hB0 io9_112_1_11 bd9_11_13
  have e31 : ((I6 1 13) : Int32).toInt = (I 1 13).toInt := Eq.trans (congrArg Int32.toInt kq13) rfl
  have kz32 : ((I6 1 13) : Int32).toInt = (I 1 13).toInt := e31
  have b33 := Bd.o hB0 io9_112_97_12 bd9_12_23
  have e34 : ((I6 97 23) : Int32).toInt = (I 97 23).toInt := Eq.trans (congrArg Int32.toInt kq14) rfl
  have kz35 : ((I6 97 23) : Int32).toInt = (I 97 23).toInt := e34
  refine ⟨vp_of (a := (v3.toInt + 1)) e1 (by omega) (by omega), ?_⟩
  have z36 := i32 (xs (Int32.toNatClampNeg (v3 + 1)))
  refine ⟨vp_of (a := (v3.toInt + 2)) e3 (by omega) (by omega), ?_⟩
  have z37 := i32 (xs (Int32.toNatClampNeg (v3 + 2)))
  refine ⟨⟨hF0, rfl⟩, ?_⟩
  refine kp7 rfl hR0 rfl (kpA rfl (kpnm rfl hR0 rfl (kpW9 rfl hR0 rfl (kx (mx_mean9 hB0 hR0 hW9 w20) (kpN9 rfl (kp6 rfl hR0 rfl (kp4 rfl (kp5 rfl hR0 rfl (kp0 rfl (kp1 rfl (kp2 rfl (kp3 rfl (sp_X12_mean hB8 hR0 (fun x38 y43 I39 J40 hB41 p42 kq47 kq46 kq45 kq44 k49 k48 k50 w56 w55 w54 w53 w52 w51 => ?_))))))))))))))
  intro o57
  have i58 := i32 x38
  have e59 : ((I39 3 1) : Int32).toInt = (I 3 1).toInt := Eq.trans (congrArg Int32.toInt (Eq.trans kq44 kq11)) rfl
  have kz60 : ((I39 3 1) : Int32).toInt = (I 3 1).toInt := e59
  have e61 : ((I39 97 8) : Int32).toInt = (I 97 8).toInt := Eq.trans (congrArg Int32.toInt (Eq.trans kq45 kq12)) rfl
  have kz62 : ((I39 97 8) : Int32).toInt = (I 97 8).toInt := e61
  have e63 : ((I39 1 13) : Int32).toInt = (I 1 13).toInt := Eq.trans (congrArg Int32.toInt (Eq.trans kq46 kq13)) rfl
  have kz64 : ((I39 1 13) : Int32).toInt = (I 1 13).toInt := e63
  have e65 : ((I39 97 23) : Int32).toInt = (I 97 23).toInt := Eq.trans (congrArg Int32.toInt (Eq.trans kq47 kq14)) rfl
  have kz66 : ((I39 97 23) : Int32).toInt = (I 97 23).toInt := e65
  have hg67 : (x38 : Int32).toInt = (x5 : Int32).toInt := congrArg Int32.toInt (w55.1)
  exact hN _ _ R hB41 hR0 hF0 ⟨(Eq.trans (e59) (Eq.trans hL0 (Eq.symm (e61)))), (Eq.trans (e63) (Eq.trans hL1 (Eq.symm (e65)))), (RT.kp (RT.kp hL2 k15 k16) k48 k49), trivial⟩ (R3.kp (R3.kp hR3 w18 (by have ya : ((I6 3 1) : Int32).toInt = (I 3 1).toInt := e25; have yb : ((I 3 1) : Int32).toInt = (I 3 1).toInt := rfl; omega)) w51 (by have ya : ((I39 3 1) : Int32).toInt = (I 3 1).toInt := e59; have yb : ((I6 3 1) : Int32).toInt = (I 3 1).toInt := e25; omega)) (RM.mean hR0 hRM w19 ⟨w52, w53, (FK.kc p42)⟩) trivial (W9.kp hR0 (W9.kS hR0 hW9 w20.2.1 w20.2.2.1 w20.2.2.2.1) w54 (w55.2.trans w20.2.2.1.symm) w52.2) (TQ9.kp hTQ (KQ9.tr w21 w56) (k49.2.trans k16.2))
set_option maxRecDepth 100000 in
set_option maxHeartbeats 2000000 in
theorem lc_47 {Q : Nat → Qt} {P : Kt} {L : Nat} {xs : Nat → Int32} (hc : Cl (AM 640) false true L xs 2 112 kL_law Q P) (hL : L ≤ 3584) {v3 : Int32} {I : Im} {J : Jm} {R : Rm} (hB0 : Bd I) (hR0 : RI R) (hF0 : Fl R) (hL0 : (I 3 1).toInt = (I 97 8).toInt) (hL1 : (I 1 13).toInt = (I 97 23).toInt) (hL2 : RT I) (hL3 : True) (hR3 : R3 I J) (hRM : RM I J R) (hFQ : True) (hW9 : W9 I R) (hTQ : TQ9 I J) (h0 : 0 ≤ v3.toInt) (h7 : v3.toInt + 7 ≤ (L : Int)) (hN : ∀ (I : Im) (J : Jm) (R : Rm), Bd I → RI R → Fl R → RLz I → R3 I J → RM I J R → True → W9 I R → TQ9 I J → P 1889 112 [(0, .ref 0), (1, .ref 1), (2, .ref 97), (3, .int v3)] [] I J R) : P 1863 112 [(0, .ref 0), (1, .ref 1), (2, .ref 97), (3, .int v3)] [] I J R := by
  have i_v3 := i32 v3
  have e97 : I 97 8 = nI (fl I) := (Int32.toInt_inj.mp hL0).symm.trans (fl_bd hB0).1
  have b31 := Bd.o hB0 io9_112_3_6 bd9_6_1
  refine ls_1863 hc v3 _ _ _ ?_
  refine ⟨⟨hF0, rfl⟩, ?_⟩
  refine kp7 rfl hR0 rfl (kx (cx_mark hB0 hR0) (kx (cx_mark9 hB0 hR0) (kpT9 rfl hR0 rfl (kp6 rfl hR0 rfl (kp4 rfl (kp5 rfl hR0 rfl (kp0 rfl (kp1 rfl (kp3 rfl (sp_X11_mark hB0 hR0 (fun x1 y6 I2 J3 hB4 p5 kq9 kq8 kq7 k11 k10 k12 w16 w15 w14 w13 => ?_)))))))))))
  have b17 := Bd.o hB0 io9_112_1_11 bd9_11_13
  have b18 := Bd.o hB4 io9_112_1_11 bd9_11_13
  have i19 := i32 x1
  have b20 := Bd.o hB0 io9_112_3_6 bd9_6_1
  have e21 : ((I2 3 1) : Int32).toInt = (I 3 1).toInt := Eq.trans (congrArg Int32.toInt kq7) rfl
  have kz22 : ((I2 3 1) : Int32).toInt = (I 3 1).toInt := e21
  have b23 := Bd.o hB0 io9_112_97_12 bd9_12_8
  have e24 : ((I2 97 8) : Int32).toInt = (I 97 8).toInt := Eq.trans (congrArg Int32.toInt kq8) rfl
  have kz25 : ((I2 97 8) : Int32).toInt = (I 97 8).toInt := e24
  have b26 := Bd.o hB0 io9_112_97_12 bd9_12_23
  have e27 : ((I2 97 23) : Int32).toInt = (I 97 23).toInt := Eq.trans (congrArg Int32.toInt kq9) rfl
  have kz28 : ((I2 97 23) : Int32).toInt = (I 97 23).toInt := e27
  refine ⟨⟨hF0, rfl⟩, ?_⟩
  refine kp7 rfl hR0 rfl (kx (mx_mark hB4) (kx (mx_mark9 hB4) (kpT9 rfl hR0 rfl (kp6 rfl hR0 rfl (kp4 rfl (kp5 rfl hR0 rfl (kp0 rfl (kp1 rfl (kp2 rfl (sp_X12_mark hB4 hR0 (fun x29 y34 I30 J31 hB32 p33 kq37 kq36 kq35 k39 k38 k40 w44 w43 w42 w41 => ?_)))))))))))
  have b45 := Bd.o hB32 io9_112_97_12 bd9_12_23
  have i46 := i32 x29
  have e47 : ((I30 3 1) : Int32).toInt = (I 3 1).toInt := Eq.trans (congrArg Int32.toInt (Eq.trans kq35 kq7)) rfl
  have kz48 : ((I30 3 1) : Int32).toInt = (I 3 1).toInt := e47
  have e49 : ((I30 97 8) : Int32).toInt = (I 97 8).toInt := Eq.trans (congrArg Int32.toInt (Eq.trans kq36 kq8)) rfl
  have kz50 : ((I30 97 8) : Int32).toInt = (I 97 8).toInt := e49
  have e51 : ((I30 1 13) : Int32).toInt = (I2 1 13).toInt := Eq.trans (congrArg Int32.toInt kq37) rfl
  have kz52 : ((I30 1 13) : Int32).toInt = (I2 1 13).toInt := e51
  have hr53 := RM.mark hB0 hR0 hL1 hRM w14 w42
  exact hN _ _ R hB32 hR0 hF0 ⟨(Eq.trans (e47) (Eq.trans hL0 (Eq.symm (e49)))), (by have ya : ((I30 1 13) : Int32).toInt = (I2 1 13).toInt := e51; have yb : ((I30 97 23) : Int32).toInt = (I30 97 23).toInt := rfl; omega), (RT.kp (RT.kp hL2 k10 k11) k38 k39), trivial⟩ (R3.kp (R3.kp hR3 w13 (by have ya : ((I2 3 1) : Int32).toInt = (I 3 1).toInt := e21; have yb : ((I 3 1) : Int32).toInt = (I 3 1).toInt := rfl; omega)) w41 (by have ya : ((I30 3 1) : Int32).toInt = (I 3 1).toInt := e47; have yb : ((I2 3 1) : Int32).toInt = (I 3 1).toInt := e21; omega)) hr53 trivial (W9.mark hB0 hR0 hL1 hW9 w15 w43) (TQ9.kp hTQ (KQ9.tr w16 w44) (k39.2.trans k11.2))
set_option maxRecDepth 100000 in
set_option maxHeartbeats 2000000 in
theorem lc_48 {Q : Nat → Qt} {P : Kt} {L : Nat} {xs : Nat → Int32} (hc : Cl (AM 640) false true L xs 2 112 kL_law Q P) (hL : L ≤ 3584) {v3 : Int32} {I : Im} {J : Jm} {R : Rm} (hB0 : Bd I) (hR0 : RI R) (hF0 : Fl R) (hL0 : (I 3 1).toInt = (I 97 8).toInt) (hL1 : (I 1 13).toInt = (I 97 23).toInt) (hL2 : RT I) (hL3 : True) (hR3 : R3 I J) (hRM : RM I J R) (hFQ : True) (hW9 : W9 I R) (hTQ : TQ9 I J) (h0 : 0 ≤ v3.toInt) (h7 : v3.toInt + 7 ≤ (L : Int)) (hN : ∀ (I : Im) (J : Jm) (R : Rm), Bd I → RI R → Fl R → RLz I → R3 I J → RM I J R → True → W9 I R → TQ9 I J → P 1889 112 [(0, .ref 0), (1, .ref 1), (2, .ref 97), (3, .int v3)] [] I J R) : P 1876 112 [(0, .ref 0), (1, .ref 1), (2, .ref 97), (3, .int v3)] [] I J R := by
  have i_v3 := i32 v3
  have e97 : I 97 8 = nI (fl I) := (Int32.toInt_inj.mp hL0).symm.trans (fl_bd hB0).1
  have b31 := Bd.o hB0 io9_112_3_6 bd9_6_1
  refine ls_1876 hc v3 _ _ _ ?_
  refine ⟨⟨hF0, rfl⟩, ?_⟩
  refine kp7 rfl hR0 rfl (kx (cx_back hB0 hR0) (kx (cx_back9 hB0 hR0) (kpT9 rfl hR0 rfl (kp6 rfl hR0 rfl (kp4 rfl (kp5 rfl hR0 rfl (kp0 rfl (kp1 rfl (kp3 rfl (sp_X11_back hB0 hR0 (fun x1 y6 I2 J3 hB4 p5 kq9 kq8 kq7 k11 k10 k12 w16 w15 w14 w13 => ?_)))))))))))
  have b17 := Bd.o hB0 io9_112_1_11 bd9_11_13
  have b18 := Bd.o hB4 io9_112_1_11 bd9_11_13
  have i19 := i32 x1
  have b20 := Bd.o hB0 io9_112_3_6 bd9_6_1
  have e21 : ((I2 3 1) : Int32).toInt = (I 3 1).toInt := Eq.trans (congrArg Int32.toInt kq7) rfl
  have kz22 : ((I2 3 1) : Int32).toInt = (I 3 1).toInt := e21
  have b23 := Bd.o hB0 io9_112_97_12 bd9_12_8
  have e24 : ((I2 97 8) : Int32).toInt = (I 97 8).toInt := Eq.trans (congrArg Int32.toInt kq8) rfl
  have kz25 : ((I2 97 8) : Int32).toInt = (I 97 8).toInt := e24
  have b26 := Bd.o hB0 io9_112_97_12 bd9_12_23
  have e27 : ((I2 97 23) : Int32).toInt = (I 97 23).toInt := Eq.trans (congrArg Int32.toInt kq9) rfl
  have kz28 : ((I2 97 23) : Int32).toInt = (I 97 23).toInt := e27
  refine ⟨⟨hF0, rfl⟩, ?_⟩
  refine kp7 rfl hR0 rfl (kx (mx_back hB4) (kx (mx_back9 hB4) (kpT9 rfl hR0 rfl (kp6 rfl hR0 rfl (kp4 rfl (kp5 rfl hR0 rfl (kp0 rfl (kp1 rfl (kp2 rfl (sp_X12_back hB4 hR0 (fun x29 y34 I30 J31 hB32 p33 kq37 kq36 kq35 k39 k38 k40 w44 w43 w42 w41 => ?_)))))))))))
  have b45 := Bd.o hB32 io9_112_97_12 bd9_12_23
  have i46 := i32 x29
  have e47 : ((I30 3 1) : Int32).toInt = (I 3 1).toInt := Eq.trans (congrArg Int32.toInt (Eq.trans kq35 kq7)) rfl
  have kz48 : ((I30 3 1) : Int32).toInt = (I 3 1).toInt := e47
  have e49 : ((I30 97 8) : Int32).toInt = (I 97 8).toInt := Eq.trans (congrArg Int32.toInt (Eq.trans kq36 kq8)) rfl
  have kz50 : ((I30 97 8) : Int32).toInt = (I 97 8).toInt := e49
  have e51 : ((I30 1 13) : Int32).toInt = (I2 1 13).toInt := Eq.trans (congrArg Int32.toInt kq37) rfl
  have kz52 : ((I30 1 13) : Int32).toInt = (I2 1 13).toInt := e51
  have hr53 := RM.back hB0 hR0 hL1 hRM w14 w42
  exact hN _ _ R hB32 hR0 hF0 ⟨(Eq.trans (e47) (Eq.trans hL0 (Eq.symm (e49)))), (by have ya : ((I30 1 13) : Int32).toInt = (I2 1 13).toInt := e51; have yb : ((I30 97 23) : Int32).toInt = (I30 97 23).toInt := rfl; omega), (RT.kp (RT.kp hL2 k10 k11) k38 k39), trivial⟩ (R3.kp (R3.kp hR3 w13 (by have ya : ((I2 3 1) : Int32).toInt = (I 3 1).toInt := e21; have yb : ((I 3 1) : Int32).toInt = (I 3 1).toInt := rfl; omega)) w41 (by have ya : ((I30 3 1) : Int32).toInt = (I 3 1).toInt := e47; have yb : ((I2 3 1) : Int32).toInt = (I 3 1).toInt := e21; omega)) hr53 trivial (W9.back hB0 hR0 hL1 hW9 w15 w43) (TQ9.kp hTQ (KQ9.tr w16 w44) (k39.2.trans k11.2))
