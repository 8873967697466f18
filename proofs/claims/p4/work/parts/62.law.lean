set_option maxHeartbeats 2000000 in
theorem lc_0 {Q : Nat → Qt} {P : Kt} {L : Nat} {xs : Nat → Int32} (hc : Cl (AM 640) false true L xs 2 112 kL_law Q P) (hL : L ≤ 3584) {v3 : Int32} {I : Im} {J : Jm} {R : Rm} (hB0 : Bd I) (hR0 : RI R) (hF0 : Fl R) (hL0 : (I 3 1).toInt = (I 97 8).toInt) (hL1 : (I 1 13).toInt = (I 97 23).toInt) (hL2 : RT I) (hL3 : J 47 0 = 0) (hR3 : R3 I J) (hRM : RM I J R) (hFQ : True) (hW9 : W9 I R) (hFR : FQ9 J) (h0 : 0 ≤ v3.toInt) (h7 : v3.toInt + 7 ≤ (L : Int)) (hN : ∀ (I : Im) (J : Jm) (R : Rm), Bd I → RI R → Fl R → RLk I J → R3 I J → RM I J R → True → W9 I R → FQ9 J → P 1890 112 [(0, .ref 0), (1, .ref 1), (2, .ref 97), (3, .int v3)] [] I J R) : P 244 112 [(0, .ref 0), (1, .ref 1), (2, .ref 97), (3, .int v3)] [] I J R := by
  have i_v3 := i32 v3
  have e97 : I 97 8 = nI (fl I) := (Int32.toInt_inj.mp hL0).symm.trans (fl_bd hB0).1
  have b31 := Bd.o hB0 (show isO 112 3 6 = true from rfl) (show bnd 6 1 = some _ from rfl)
  refine ls_244 hc v3 _ _ _ ?_
  refine ⟨⟨hF0, rfl⟩, ?_⟩
  refine kp7 rfl hR0 rfl (kpA rfl (kpnm rfl hR0 rfl (kp102 rfl hR0 rfl (kpW9 rfl hR0 rfl (kpFm rfl (kpFc rfl (kp6 rfl hR0 rfl (kp4 rfl (kp5 rfl hR0 rfl (kp0 rfl (kp1 rfl (kp2 rfl (kp3 rfl (sp_X11_status hB0 hR0 (fun x1 y6 I2 J3 hB4 p5 kq10 kq9 kq8 kq7 k12 k11 k13 w20 w19 w18 w17 w16 w15 w14 => ?_)))))))))))))))
  have i21 := i32 x1
  have b22 := Bd.o hB0 (show isO 112 3 6 = true from rfl) (show bnd 6 1 = some _ from rfl)
  have e23 : ((I2 3 1) : Int32).toInt = (I 3 1).toInt := Eq.trans (congrArg Int32.toInt kq7) rfl
  have kz24 : ((I2 3 1) : Int32).toInt = (I 3 1).toInt := e23
  have b25 := Bd.o hB0 (show isO 112 97 12 = true from rfl) (show bnd 12 8 = some _ from rfl)
  have e26 : ((I2 97 8) : Int32).toInt = (I 97 8).toInt := Eq.trans (congrArg Int32.toInt kq8) rfl
  have kz27 : ((I2 97 8) : Int32).toInt = (I 97 8).toInt := e26
  have b28 := Bd.o hB0 (show isO 112 1 11 = true from rfl) (show bnd 11 13 = some _ from rfl)
  have e29 : ((I2 1 13) : Int32).toInt = (I 1 13).toInt := Eq.trans (congrArg Int32.toInt kq9) rfl
  have kz30 : ((I2 1 13) : Int32).toInt = (I 1 13).toInt := e29
  have b31 := Bd.o hB0 (show isO 112 97 12 = true from rfl) (show bnd 12 23 = some _ from rfl)
  have e32 : ((I2 97 23) : Int32).toInt = (I 97 23).toInt := Eq.trans (congrArg Int32.toInt kq10) rfl
  have kz33 : ((I2 97 23) : Int32).toInt = (I 97 23).toInt := e32
  refine ⟨⟨hF0, rfl⟩, ?_⟩
  refine kp7 rfl hR0 rfl (kpA rfl (kpnm rfl hR0 rfl (kp102 rfl hR0 rfl (kpW9 rfl hR0 rfl (kpFc rfl (kpFm rfl (kp6 rfl hR0 rfl (kp4 rfl (kp5 rfl hR0 rfl (kp0 rfl (kp1 rfl (kp2 rfl (kp3 rfl (sp_X12_status hB4 hR0 (fun x34 y39 I35 J36 hB37 p38 kq43 kq42 kq41 kq40 k45 k44 k46 w53 w52 w51 w50 w49 w48 w47 => ?_)))))))))))))))
  have i54 := i32 x34
  have e55 : ((I35 3 1) : Int32).toInt = (I 3 1).toInt := Eq.trans (congrArg Int32.toInt (Eq.trans kq40 kq7)) rfl
  have kz56 : ((I35 3 1) : Int32).toInt = (I 3 1).toInt := e55
  have e57 : ((I35 97 8) : Int32).toInt = (I 97 8).toInt := Eq.trans (congrArg Int32.toInt (Eq.trans kq41 kq8)) rfl
  have kz58 : ((I35 97 8) : Int32).toInt = (I 97 8).toInt := e57
  have e59 : ((I35 1 13) : Int32).toInt = (I 1 13).toInt := Eq.trans (congrArg Int32.toInt (Eq.trans kq42 kq9)) rfl
  have kz60 : ((I35 1 13) : Int32).toInt = (I 1 13).toInt := e59
  have e61 : ((I35 97 23) : Int32).toInt = (I 97 23).toInt := Eq.trans (congrArg Int32.toInt (Eq.trans kq43 kq10)) rfl
  have kz62 : ((I35 97 23) : Int32).toInt = (I 97 23).toInt := e61
  exact hN _ _ R hB37 hR0 hF0 ⟨(Eq.trans (e55) (Eq.trans hL0 (Eq.symm (e57)))), (Eq.trans (e59) (Eq.trans hL1 (Eq.symm (e61)))), (RT.kp (RT.kp hL2 k11 k12) k44 k45), ((congrFun k46 0).trans ((congrFun k13 0).trans hL3))⟩ (R3.kp (R3.kp hR3 w14 (by have ya : ((I2 3 1) : Int32).toInt = (I 3 1).toInt := e23; have yb : ((I 3 1) : Int32).toInt = (I 3 1).toInt := rfl; omega)) w47 (by have ya : ((I35 3 1) : Int32).toInt = (I 3 1).toInt := e55; have yb : ((I2 3 1) : Int32).toInt = (I 3 1).toInt := e23; omega)) (RM.kp hR0 (RM.kp hR0 hRM ⟨w15, w16, (fun j _ => congrFun w17.1 j)⟩) ⟨w48, w49, (fun j _ => congrFun w50.1 j)⟩) trivial (W9.kp hR0 (W9.kp hR0 hW9 w18 w17.1 w15.2) w51 w50.1 w48.2) (FQ9.kp (FQ9.kp hFR w20 w19) w52 w53)
set_option maxHeartbeats 2000000 in
theorem lc_1 {Q : Nat → Qt} {P : Kt} {L : Nat} {xs : Nat → Int32} (hc : Cl (AM 640) false true L xs 2 112 kL_law Q P) (hL : L ≤ 3584) {v3 : Int32} {I : Im} {J : Jm} {R : Rm} (hB0 : Bd I) (hR0 : RI R) (hF0 : Fl R) (hL0 : (I 3 1).toInt = (I 97 8).toInt) (hL1 : (I 1 13).toInt = (I 97 23).toInt) (hL2 : RT I) (hL3 : J 47 0 = 0) (hR3 : R3 I J) (hRM : RM I J R) (hFQ : True) (hW9 : W9 I R) (hFR : FQ9 J) (h0 : 0 ≤ v3.toInt) (h7 : v3.toInt + 7 ≤ (L : Int)) (hN : ∀ (I : Im) (J : Jm) (R : Rm), Bd I → RI R → Fl R → RLk I J → R3 I J → RM I J R → True → W9 I R → FQ9 J → P 1890 112 [(0, .ref 0), (1, .ref 1), (2, .ref 97), (3, .int v3)] [] I J R) : P 257 112 [(0, .ref 0), (1, .ref 1), (2, .ref 97), (3, .int v3)] [] I J R := by
  have i_v3 := i32 v3
  have e97 : I 97 8 = nI (fl I) := (Int32.toInt_inj.mp hL0).symm.trans (fl_bd hB0).1
  have b31 := Bd.o hB0 (show isO 112 3 6 = true from rfl) (show bnd 6 1 = some _ from rfl)
  refine ls_257 hc v3 _ _ _ ?_
  refine ⟨⟨hF0, rfl⟩, ?_⟩
  refine kp7 rfl hR0 rfl (kpA rfl (kpnm rfl hR0 rfl (kp102 rfl hR0 rfl (kpW9 rfl hR0 rfl (kpFm rfl (kpFc rfl (kp6 rfl hR0 rfl (kp4 rfl (kp5 rfl hR0 rfl (kp0 rfl (kp1 rfl (kp2 rfl (kp3 rfl (sp_X11_top hB0 hR0 (fun x1 y6 I2 J3 hB4 p5 kq10 kq9 kq8 kq7 k12 k11 k13 w20 w19 w18 w17 w16 w15 w14 => ?_)))))))))))))))
  have b21 := Bd.o hB0 (show isO 112 3 6 = true from rfl) (show bnd 6 1 = some _ from rfl)
  have e22 : ((I2 3 1) : Int32).toInt = (I 3 1).toInt := Eq.trans (congrArg Int32.toInt kq7) rfl
  have kz23 : ((I2 3 1) : Int32).toInt = (I 3 1).toInt := e22
  have b24 := Bd.o hB0 (show isO 112 97 12 = true from rfl) (show bnd 12 8 = some _ from rfl)
  have e25 : ((I2 97 8) : Int32).toInt = (I 97 8).toInt := Eq.trans (congrArg Int32.toInt kq8) rfl
  have kz26 : ((I2 97 8) : Int32).toInt = (I 97 8).toInt := e25
  have b27 := Bd.o hB0 (show isO 112 1 11 = true from rfl) (show bnd 11 13 = some _ from rfl)
  have e28 : ((I2 1 13) : Int32).toInt = (I 1 13).toInt := Eq.trans (congrArg Int32.toInt kq9) rfl
  have kz29 : ((I2 1 13) : Int32).toInt = (I 1 13).toInt := e28
  have b30 := Bd.o hB0 (show isO 112 97 12 = true from rfl) (show bnd 12 23 = some _ from rfl)
  have e31 : ((I2 97 23) : Int32).toInt = (I 97 23).toInt := Eq.trans (congrArg Int32.toInt kq10) rfl
  have kz32 : ((I2 97 23) : Int32).toInt = (I 97 23).toInt := e31
  refine ⟨⟨hF0, rfl⟩, ?_⟩
  refine kp7 rfl hR0 rfl (kpA rfl (kpnm rfl hR0 rfl (kp102 rfl hR0 rfl (kpW9 rfl hR0 rfl (kpFc rfl (kpFm rfl (kp6 rfl hR0 rfl (kp4 rfl (kp5 rfl hR0 rfl (kp0 rfl (kp1 rfl (kp2 rfl (kp3 rfl (sp_X12_top hB4 hR0 (fun x33 y38 I34 J35 hB36 p37 kq42 kq41 kq40 kq39 k44 k43 k45 w52 w51 w50 w49 w48 w47 w46 => ?_)))))))))))))))
  have e53 : ((I34 3 1) : Int32).toInt = (I 3 1).toInt := Eq.trans (congrArg Int32.toInt (Eq.trans kq39 kq7)) rfl
  have kz54 : ((I34 3 1) : Int32).toInt = (I 3 1).toInt := e53
  have e55 : ((I34 97 8) : Int32).toInt = (I 97 8).toInt := Eq.trans (congrArg Int32.toInt (Eq.trans kq40 kq8)) rfl
  have kz56 : ((I34 97 8) : Int32).toInt = (I 97 8).toInt := e55
  have e57 : ((I34 1 13) : Int32).toInt = (I 1 13).toInt := Eq.trans (congrArg Int32.toInt (Eq.trans kq41 kq9)) rfl
  have kz58 : ((I34 1 13) : Int32).toInt = (I 1 13).toInt := e57
  have e59 : ((I34 97 23) : Int32).toInt = (I 97 23).toInt := Eq.trans (congrArg Int32.toInt (Eq.trans kq42 kq10)) rfl
  have kz60 : ((I34 97 23) : Int32).toInt = (I 97 23).toInt := e59
  exact hN _ _ R hB36 hR0 hF0 ⟨(Eq.trans (e53) (Eq.trans hL0 (Eq.symm (e55)))), (Eq.trans (e57) (Eq.trans hL1 (Eq.symm (e59)))), (RT.kp (RT.kp hL2 k11 k12) k43 k44), ((congrFun k45 0).trans ((congrFun k13 0).trans hL3))⟩ (R3.kp (R3.kp hR3 w14 (by have ya : ((I2 3 1) : Int32).toInt = (I 3 1).toInt := e22; have yb : ((I 3 1) : Int32).toInt = (I 3 1).toInt := rfl; omega)) w46 (by have ya : ((I34 3 1) : Int32).toInt = (I 3 1).toInt := e53; have yb : ((I2 3 1) : Int32).toInt = (I 3 1).toInt := e22; omega)) (RM.kp hR0 (RM.kp hR0 hRM ⟨w15, w16, (fun j _ => congrFun w17.1 j)⟩) ⟨w47, w48, (fun j _ => congrFun w49.1 j)⟩) trivial (W9.kp hR0 (W9.kp hR0 hW9 w18 w17.1 w15.2) w50 w49.1 w47.2) (FQ9.kp (FQ9.kp hFR w20 w19) w51 w52)
set_option maxHeartbeats 2000000 in
theorem lc_2 {Q : Nat → Qt} {P : Kt} {L : Nat} {xs : Nat → Int32} (hc : Cl (AM 640) false true L xs 2 112 kL_law Q P) (hL : L ≤ 3584) {v3 : Int32} {I : Im} {J : Jm} {R : Rm} (hB0 : Bd I) (hR0 : RI R) (hF0 : Fl R) (hL0 : (I 3 1).toInt = (I 97 8).toInt) (hL1 : (I 1 13).toInt = (I 97 23).toInt) (hL2 : RT I) (hL3 : J 47 0 = 0) (hR3 : R3 I J) (hRM : RM I J R) (hFQ : True) (hW9 : W9 I R) (hFR : FQ9 J) (h0 : 0 ≤ v3.toInt) (h7 : v3.toInt + 7 ≤ (L : Int)) (hN : ∀ (I : Im) (J : Jm) (R : Rm), Bd I → RI R → Fl R → RLk I J → R3 I J → RM I J R → True → W9 I R → FQ9 J → P 1890 112 [(0, .ref 0), (1, .ref 1), (2, .ref 97), (3, .int v3)] [] I J R) : P 270 112 [(0, .ref 0), (1, .ref 1), (2, .ref 97), (3, .int v3)] [] I J R := by
  have i_v3 := i32 v3
  have e97 : I 97 8 = nI (fl I) := (Int32.toInt_inj.mp hL0).symm.trans (fl_bd hB0).1
  have b31 := Bd.o hB0 (show isO 112 3 6 = true from rfl) (show bnd 6 1 = some _ from rfl)
  refine ls_270 hc v3 _ _ _ ?_
  refine ⟨⟨hF0, rfl⟩, ?_⟩
  refine kp7 rfl hR0 rfl (kpA rfl (kpnm rfl hR0 rfl (kp102 rfl hR0 rfl (kpW9 rfl hR0 rfl (kpFm rfl (kpFc rfl (kx cx_bottom9 (kp6 rfl hR0 rfl (kp4 rfl (kp5 rfl hR0 rfl (kp0 rfl (kp1 rfl (kp2 rfl (kp3 rfl (sp_X11_bottom hB0 hR0 (fun x1 y6 I2 J3 hB4 p5 kq10 kq9 kq8 kq7 k12 k11 k13 w21 w20 w19 w18 w17 w16 w15 w14 => ?_))))))))))))))))
  have b22 := Bd.o hB0 (show isO 112 3 6 = true from rfl) (show bnd 6 1 = some _ from rfl)
  have e23 : ((I2 3 1) : Int32).toInt = (I 3 1).toInt := Eq.trans (congrArg Int32.toInt kq7) rfl
  have kz24 : ((I2 3 1) : Int32).toInt = (I 3 1).toInt := e23
  have b25 := Bd.o hB0 (show isO 112 97 12 = true from rfl) (show bnd 12 8 = some _ from rfl)
  have e26 : ((I2 97 8) : Int32).toInt = (I 97 8).toInt := Eq.trans (congrArg Int32.toInt kq8) rfl
  have kz27 : ((I2 97 8) : Int32).toInt = (I 97 8).toInt := e26
  have b28 := Bd.o hB0 (show isO 112 1 11 = true from rfl) (show bnd 11 13 = some _ from rfl)
  have e29 : ((I2 1 13) : Int32).toInt = (I 1 13).toInt := Eq.trans (congrArg Int32.toInt kq9) rfl
  have kz30 : ((I2 1 13) : Int32).toInt = (I 1 13).toInt := e29
  have b31 := Bd.o hB0 (show isO 112 97 12 = true from rfl) (show bnd 12 23 = some _ from rfl)
  have e32 : ((I2 97 23) : Int32).toInt = (I 97 23).toInt := Eq.trans (congrArg Int32.toInt kq10) rfl
  have kz33 : ((I2 97 23) : Int32).toInt = (I 97 23).toInt := e32
  refine ⟨⟨hF0, rfl⟩, ?_⟩
  refine kp7 rfl hR0 rfl (kpA rfl (kpnm rfl hR0 rfl (kp102 rfl hR0 rfl (kpW9 rfl hR0 rfl (kpFc rfl (kpFm rfl (kx mx_bottom9 (kp6 rfl hR0 rfl (kp4 rfl (kp5 rfl hR0 rfl (kp0 rfl (kp1 rfl (kp2 rfl (kp3 rfl (sp_X12_bottom hB4 hR0 (fun x34 y39 I35 J36 hB37 p38 kq43 kq42 kq41 kq40 k45 k44 k46 w54 w53 w52 w51 w50 w49 w48 w47 => ?_))))))))))))))))
  have e55 : ((I35 3 1) : Int32).toInt = (I 3 1).toInt := Eq.trans (congrArg Int32.toInt (Eq.trans kq40 kq7)) rfl
  have kz56 : ((I35 3 1) : Int32).toInt = (I 3 1).toInt := e55
  have e57 : ((I35 97 8) : Int32).toInt = (I 97 8).toInt := Eq.trans (congrArg Int32.toInt (Eq.trans kq41 kq8)) rfl
  have kz58 : ((I35 97 8) : Int32).toInt = (I 97 8).toInt := e57
  have e59 : ((I35 1 13) : Int32).toInt = (I 1 13).toInt := Eq.trans (congrArg Int32.toInt (Eq.trans kq42 kq9)) rfl
  have kz60 : ((I35 1 13) : Int32).toInt = (I 1 13).toInt := e59
  have e61 : ((I35 97 23) : Int32).toInt = (I 97 23).toInt := Eq.trans (congrArg Int32.toInt (Eq.trans kq43 kq10)) rfl
  have kz62 : ((I35 97 23) : Int32).toInt = (I 97 23).toInt := e61
  have hg63 : (y39 : Int64).toInt = (y6 : Int64).toInt := congrArg Int64.toInt (FQ9.bottom hFR w19 w21 w54)
  refine ⟨fun c64 => ?_, fun c64 => ?_⟩
  · skip
    rw [lg_cmp_eq] at c64
    have d65 : (((y6 : Int64).toInt) : Int) = ((y39 : Int64).toInt) := cl_eq rfl rfl c64
    exact hN _ _ R hB37 hR0 hF0 ⟨(Eq.trans (e55) (Eq.trans hL0 (Eq.symm (e57)))), (Eq.trans (e59) (Eq.trans hL1 (Eq.symm (e61)))), (RT.kp (RT.kp hL2 k11 k12) k44 k45), ((congrFun k46 0).trans ((congrFun k13 0).trans hL3))⟩ (R3.kp (R3.kp hR3 w14 (by have ya : ((I2 3 1) : Int32).toInt = (I 3 1).toInt := e23; have yb : ((I 3 1) : Int32).toInt = (I 3 1).toInt := rfl; omega)) w47 (by have ya : ((I35 3 1) : Int32).toInt = (I 3 1).toInt := e55; have yb : ((I2 3 1) : Int32).toInt = (I 3 1).toInt := e23; omega)) (RM.kp hR0 (RM.kp hR0 hRM ⟨w15, w16, (fun j _ => congrFun w17.1 j)⟩) ⟨w48, w49, (fun j _ => congrFun w50.1 j)⟩) trivial (W9.kp hR0 (W9.kp hR0 hW9 w18 w17.1 w15.2) w51 w50.1 w48.2) (FQ9.kp (FQ9.kp hFR w20 w19) w52 w53)
  · skip
    rw [lg_cmp_eq] at c64
    have d66 : ¬ (((y6 : Int64).toInt) : Int) = ((y39 : Int64).toInt) := cl_ne rfl rfl c64
    exfalso
    omega
set_option maxHeartbeats 2000000 in
theorem lc_3 {Q : Nat → Qt} {P : Kt} {L : Nat} {xs : Nat → Int32} (hc : Cl (AM 640) false true L xs 2 112 kL_law Q P) (hL : L ≤ 3584) {v3 : Int32} {I : Im} {J : Jm} {R : Rm} (hB0 : Bd I) (hR0 : RI R) (hF0 : Fl R) (hL0 : (I 3 1).toInt = (I 97 8).toInt) (hL1 : (I 1 13).toInt = (I 97 23).toInt) (hL2 : RT I) (hL3 : J 47 0 = 0) (hR3 : R3 I J) (hRM : RM I J R) (hFQ : True) (hW9 : W9 I R) (hFR : FQ9 J) (h0 : 0 ≤ v3.toInt) (h7 : v3.toInt + 7 ≤ (L : Int)) (hN : ∀ (I : Im) (J : Jm) (R : Rm), Bd I → RI R → Fl R → RLk I J → R3 I J → RM I J R → True → W9 I R → FQ9 J → P 1890 112 [(0, .ref 0), (1, .ref 1), (2, .ref 97), (3, .int v3)] [] I J R) : P 284 112 [(0, .ref 0), (1, .ref 1), (2, .ref 97), (3, .int v3)] [] I J R := by
  have i_v3 := i32 v3
  have e97 : I 97 8 = nI (fl I) := (Int32.toInt_inj.mp hL0).symm.trans (fl_bd hB0).1
  have b31 := Bd.o hB0 (show isO 112 3 6 = true from rfl) (show bnd 6 1 = some _ from rfl)
  refine ls_284 hc v3 _ _ _ ?_
  have e1 : ((v3 + 1) : Int32).toInt = (v3.toInt) + (1) := ti_add rfl rfl (by omega)
  refine ⟨vp_of (a := (v3.toInt + 1)) e1 (by omega) (by omega), ?_⟩
  have z2 := i32 (xs (Int32.toNatClampNeg (v3 + 1)))
  have e3 : ((v3 + 2) : Int32).toInt = (v3.toInt) + (2) := ti_add rfl rfl (by omega)
  refine ⟨vp_of (a := (v3.toInt + 2)) e3 (by omega) (by omega), ?_⟩
  have z4 := i32 (xs (Int32.toNatClampNeg (v3 + 2)))
  have e5 : ((v3 + 3) : Int32).toInt = (v3.toInt) + (3) := ti_add rfl rfl (by omega)
  refine ⟨vp_of (a := (v3.toInt + 3)) e5 (by omega) (by omega), ?_⟩
  have z6 := i32 (xs (Int32.toNatClampNeg (v3 + 3)))
  refine ⟨⟨hF0, rfl⟩, ?_⟩
  refine kp7 rfl hR0 rfl (kpA rfl (kpnm rfl hR0 rfl (kp102 rfl hR0 rfl (kpW9 rfl hR0 rfl (kpFm rfl (kpFc rfl (kp6 rfl hR0 rfl (kp5 rfl hR0 rfl (kp0 rfl (kp1 rfl (kp2 rfl (kp3 rfl (sp_X11_tray hB0 hR0 (fun x7 y12 I8 J9 hB10 p11 kq16 kq15 kq14 kq13 k17 k18 w25 w24 w23 w22 w21 w20 w19 => ?_))))))))))))))
  intro o26
  have i27 := i32 x7
  have b28 := Bd.o hB0 (show isO 112 3 6 = true from rfl) (show bnd 6 1 = some _ from rfl)
  have e29 : ((I8 3 1) : Int32).toInt = (I 3 1).toInt := Eq.trans (congrArg Int32.toInt kq13) rfl
  have kz30 : ((I8 3 1) : Int32).toInt = (I 3 1).toInt := e29
  have b31 := Bd.o hB0 (show isO 112 97 12 = true from rfl) (show bnd 12 8 = some _ from rfl)
  have e32 : ((I8 97 8) : Int32).toInt = (I 97 8).toInt := Eq.trans (congrArg Int32.toInt kq14) rfl
  have kz33 : ((I8 97 8) : Int32).toInt = (I 97 8).toInt := e32
  have b34 := Bd.o hB0 (show isO 112 1 11 = true from rfl) (show bnd 11 13 = some _ from rfl)
  have e35 : ((I8 1 13) : Int32).toInt = (I 1 13).toInt := Eq.trans (congrArg Int32.toInt kq15) rfl
  have kz36 : ((I8 1 13) : Int32).toInt = (I 1 13).toInt := e35
  have b37 := Bd.o hB0 (show isO 112 97 12 = true from rfl) (show bnd 12 23 = some _ from rfl)
  have e38 : ((I8 97 23) : Int32).toInt = (I 97 23).toInt := Eq.trans (congrArg Int32.toInt kq16) rfl
  have kz39 : ((I8 97 23) : Int32).toInt = (I 97 23).toInt := e38
  refine ⟨vp_of (a := (v3.toInt + 1)) e1 (by omega) (by omega), ?_⟩
  have z40 := i32 (xs (Int32.toNatClampNeg (v3 + 1)))
  refine ⟨vp_of (a := (v3.toInt + 2)) e3 (by omega) (by omega), ?_⟩
  have z41 := i32 (xs (Int32.toNatClampNeg (v3 + 2)))
  refine ⟨vp_of (a := (v3.toInt + 3)) e5 (by omega) (by omega), ?_⟩
  have z42 := i32 (xs (Int32.toNatClampNeg (v3 + 3)))
  refine ⟨⟨hF0, rfl⟩, ?_⟩
  refine kp7 rfl hR0 rfl (kpA rfl (kpnm rfl hR0 rfl (kp102 rfl hR0 rfl (kpW9 rfl hR0 rfl (kpFc rfl (kpFm rfl (kp6 rfl hR0 rfl (kp4 rfl (kp0 rfl (kp1 rfl (kp2 rfl (kp3 rfl (sp_X12_tray hB10 hR0 (fun x43 y48 I44 J45 hB46 p47 kq52 kq51 kq50 kq49 k53 k54 w61 w60 w59 w58 w57 w56 w55 => ?_))))))))))))))
  intro o62
  have i63 := i32 x43
  have e64 : ((I44 3 1) : Int32).toInt = (I 3 1).toInt := Eq.trans (congrArg Int32.toInt (Eq.trans kq49 kq13)) rfl
  have kz65 : ((I44 3 1) : Int32).toInt = (I 3 1).toInt := e64
  have e66 : ((I44 97 8) : Int32).toInt = (I 97 8).toInt := Eq.trans (congrArg Int32.toInt (Eq.trans kq50 kq14)) rfl
  have kz67 : ((I44 97 8) : Int32).toInt = (I 97 8).toInt := e66
  have e68 : ((I44 1 13) : Int32).toInt = (I 1 13).toInt := Eq.trans (congrArg Int32.toInt (Eq.trans kq51 kq15)) rfl
  have kz69 : ((I44 1 13) : Int32).toInt = (I 1 13).toInt := e68
  have e70 : ((I44 97 23) : Int32).toInt = (I 97 23).toInt := Eq.trans (congrArg Int32.toInt (Eq.trans kq52 kq16)) rfl
  have kz71 : ((I44 97 23) : Int32).toInt = (I 97 23).toInt := e70
  exact hN _ _ R hB46 hR0 hF0 ⟨(Eq.trans (e64) (Eq.trans hL0 (Eq.symm (e66)))), (Eq.trans (e68) (Eq.trans hL1 (Eq.symm (e70)))), (RT.tray hL2 hR0 p11.2 p47.2 (by have a := p11.1; have b := p47.1; omega) (fun z => by have a := p11.1; omega) k17 k53), ((congrFun k54 0).trans ((congrFun k18 0).trans hL3))⟩ (R3.kp (R3.kp hR3 w19 (by have ya : ((I8 3 1) : Int32).toInt = (I 3 1).toInt := e29; have yb : ((I 3 1) : Int32).toInt = (I 3 1).toInt := rfl; omega)) w55 (by have ya : ((I44 3 1) : Int32).toInt = (I 3 1).toInt := e64; have yb : ((I8 3 1) : Int32).toInt = (I 3 1).toInt := e29; omega)) (RM.kp hR0 (RM.kp hR0 hRM ⟨w20, w21, (fun j _ => congrFun w22.1 j)⟩) ⟨w56, w57, (fun j _ => congrFun w58.1 j)⟩) trivial (W9.kp hR0 (W9.kp hR0 hW9 w23 w22.1 w20.2) w59 w58.1 w56.2) (FQ9.kp (FQ9.kp hFR w25 w24) w60 w61)
set_option maxHeartbeats 2000000 in
theorem lc_4 {Q : Nat → Qt} {P : Kt} {L : Nat} {xs : Nat → Int32} (hc : Cl (AM 640) false true L xs 2 112 kL_law Q P) (hL : L ≤ 3584) {v3 : Int32} {I : Im} {J : Jm} {R : Rm} (hB0 : Bd I) (hR0 : RI R) (hF0 : Fl R) (hL0 : (I 3 1).toInt = (I 97 8).toInt) (hL1 : (I 1 13).toInt = (I 97 23).toInt) (hL2 : RT I) (hL3 : J 47 0 = 0) (hR3 : R3 I J) (hRM : RM I J R) (hFQ : True) (hW9 : W9 I R) (hFR : FQ9 J) (h0 : 0 ≤ v3.toInt) (h7 : v3.toInt + 7 ≤ (L : Int)) (hN : ∀ (I : Im) (J : Jm) (R : Rm), Bd I → RI R → Fl R → RLk I J → R3 I J → RM I J R → True → W9 I R → FQ9 J → P 1890 112 [(0, .ref 0), (1, .ref 1), (2, .ref 97), (3, .int v3)] [] I J R) : P 327 112 [(0, .ref 0), (1, .ref 1), (2, .ref 97), (3, .int v3)] [] I J R := by
  have i_v3 := i32 v3
  have e97 : I 97 8 = nI (fl I) := (Int32.toInt_inj.mp hL0).symm.trans (fl_bd hB0).1
  have b31 := Bd.o hB0 (show isO 112 3 6 = true from rfl) (show bnd 6 1 = some _ from rfl)
  refine ls_327 hc v3 _ _ _ ?_
  have e1 : ((v3 + 1) : Int32).toInt = (v3.toInt) + (1) := ti_add rfl rfl (by omega)
  refine ⟨vp_of (a := (v3.toInt + 1)) e1 (by omega) (by omega), ?_⟩
  have z2 := i32 (xs (Int32.toNatClampNeg (v3 + 1)))
  have e3 : ((v3 + 2) : Int32).toInt = (v3.toInt) + (2) := ti_add rfl rfl (by omega)
  refine ⟨vp_of (a := (v3.toInt + 2)) e3 (by omega) (by omega), ?_⟩
  have z4 := i32 (xs (Int32.toNatClampNeg (v3 + 2)))
  have e5 : ((v3 + 3) : Int32).toInt = (v3.toInt) + (3) := ti_add rfl rfl (by omega)
  refine ⟨vp_of (a := (v3.toInt + 3)) e5 (by omega) (by omega), ?_⟩
  have z6 := i32 (xs (Int32.toNatClampNeg (v3 + 3)))
  have e7 : ((v3 + 4) : Int32).toInt = (v3.toInt) + (4) := ti_add rfl rfl (by omega)
  refine ⟨vp_of (a := (v3.toInt + 4)) e7 (by omega) (by omega), ?_⟩
  have z8 := i32 (xs (Int32.toNatClampNeg (v3 + 4)))
  refine ⟨⟨hF0, rfl⟩, ?_⟩
  refine kp7 rfl hR0 rfl (kpA rfl (kpnm rfl hR0 rfl (kp102 rfl hR0 rfl (kpW9 rfl hR0 rfl (kpFm rfl (kpFc rfl (kp6 rfl hR0 rfl (kp4 rfl (kp5 rfl hR0 rfl (kp0 rfl (kp1 rfl (kp2 rfl (kp3 rfl (sp_X11_write hB0 hR0 (fun x9 y14 I10 J11 hB12 p13 kq18 kq17 kq16 kq15 k20 k19 k21 w28 w27 w26 w25 w24 w23 w22 => ?_)))))))))))))))
  intro o29
  have i30 := i32 x9
  have b31 := Bd.o hB0 (show isO 112 3 6 = true from rfl) (show bnd 6 1 = some _ from rfl)
  have e32 : ((I10 3 1) : Int32).toInt = (I 3 1).toInt := Eq.trans (congrArg Int32.toInt kq15) rfl
  have kz33 : ((I10 3 1) : Int32).toInt = (I 3 1).toInt := e32
  have b34 := Bd.o hB0 (show isO 112 97 12 = true from rfl) (show bnd 12 8 = some _ from rfl)
  have e35 : ((I10 97 8) : Int32).toInt = (I 97 8).toInt := Eq.trans (congrArg Int32.toInt kq16) rfl
  have kz36 : ((I10 97 8) : Int32).toInt = (I 97 8).toInt := e35
  have b37 := Bd.o hB0 (show isO 112 1 11 = true from rfl) (show bnd 11 13 = some _ from rfl)
  have e38 : ((I10 1 13) : Int32).toInt = (I 1 13).toInt := Eq.trans (congrArg Int32.toInt kq17) rfl
  have kz39 : ((I10 1 13) : Int32).toInt = (I 1 13).toInt := e38
  have b40 := Bd.o hB0 (show isO 112 97 12 = true from rfl) (show bnd 12 23 = some _ from rfl)
  have e41 : ((I10 97 23) : Int32).toInt = (I 97 23).toInt := Eq.trans (congrArg Int32.toInt kq18) rfl
  have kz42 : ((I10 97 23) : Int32).toInt = (I 97 23).toInt := e41
  have hw43 : 0 ≤ ((xs (Int32.toNatClampNeg (v3 + 1))) : Int32).toInt → ((xs (Int32.toNatClampNeg (v3 + 1))) : Int32).toInt ≤ 3 → (I (R 2 (Int32.toNatClampNeg (xs (Int32.toNatClampNeg (v3 + 1))))) 1).toInt = (I10 99 (Int32.toNatClampNeg (xs (Int32.toNatClampNeg (v3 + 1))))).toInt := fun a b => RT.a1 hL2 hR0 k20 a b
  refine ⟨vp_of (a := (v3.toInt + 1)) e1 (by omega) (by omega), ?_⟩
  have z44 := i32 (xs (Int32.toNatClampNeg (v3 + 1)))
  refine ⟨vp_of (a := (v3.toInt + 2)) e3 (by omega) (by omega), ?_⟩
  have z45 := i32 (xs (Int32.toNatClampNeg (v3 + 2)))
  refine ⟨vp_of (a := (v3.toInt + 3)) e5 (by omega) (by omega), ?_⟩
  have z46 := i32 (xs (Int32.toNatClampNeg (v3 + 3)))
  refine ⟨vp_of (a := (v3.toInt + 4)) e7 (by omega) (by omega), ?_⟩
  have z47 := i32 (xs (Int32.toNatClampNeg (v3 + 4)))
  refine ⟨⟨hF0, rfl⟩, ?_⟩
  refine kp7 rfl hR0 rfl (kpA rfl (kpnm rfl hR0 rfl (kp102 rfl hR0 rfl (kpW9 rfl hR0 rfl (kpFc rfl (kpFm rfl (kp6 rfl hR0 rfl (kp4 rfl (kp0 rfl (kp1 rfl (kp2 rfl (kp3 rfl (sp_X12_write hB12 hR0 (fun x48 y53 I49 J50 hB51 p52 kq57 kq56 kq55 kq54 k58 k59 w66 w65 w64 w63 w62 w61 w60 => ?_))))))))))))))
  intro o67
  have i68 := i32 x48
  have e69 : ((I49 3 1) : Int32).toInt = (I 3 1).toInt := Eq.trans (congrArg Int32.toInt (Eq.trans kq54 kq15)) rfl
  have kz70 : ((I49 3 1) : Int32).toInt = (I 3 1).toInt := e69
  have e71 : ((I49 97 8) : Int32).toInt = (I 97 8).toInt := Eq.trans (congrArg Int32.toInt (Eq.trans kq55 kq16)) rfl
  have kz72 : ((I49 97 8) : Int32).toInt = (I 97 8).toInt := e71
  have e73 : ((I49 1 13) : Int32).toInt = (I 1 13).toInt := Eq.trans (congrArg Int32.toInt (Eq.trans kq56 kq17)) rfl
  have kz74 : ((I49 1 13) : Int32).toInt = (I 1 13).toInt := e73
  have e75 : ((I49 97 23) : Int32).toInt = (I 97 23).toInt := Eq.trans (congrArg Int32.toInt (Eq.trans kq57 kq18)) rfl
  have kz76 : ((I49 97 23) : Int32).toInt = (I 97 23).toInt := e75
  exact hN _ _ R hB51 hR0 hF0 ⟨(Eq.trans (e69) (Eq.trans hL0 (Eq.symm (e71)))), (Eq.trans (e73) (Eq.trans hL1 (Eq.symm (e75)))), (RT.kp (RT.kp hL2 k19 k20) k58 (p52.2)), ((congrFun k59 0).trans ((congrFun k21 0).trans hL3))⟩ (R3.kp (R3.kp hR3 w22 (by have ya : ((I10 3 1) : Int32).toInt = (I 3 1).toInt := e32; have yb : ((I 3 1) : Int32).toInt = (I 3 1).toInt := rfl; omega)) w60 (by have ya : ((I49 3 1) : Int32).toInt = (I 3 1).toInt := e69; have yb : ((I10 3 1) : Int32).toInt = (I 3 1).toInt := e32; omega)) (RM.kp hR0 (RM.kp hR0 hRM ⟨w23, w24, (fun j _ => congrFun w25.1 j)⟩) ⟨w61, w62, (fun j _ => congrFun w63.1 j)⟩) trivial (W9.kp hR0 (W9.kp hR0 hW9 w26 w25.1 w23.2) w64 w63.1 w61.2) (FQ9.kp (FQ9.kp hFR w28 w27) w65 w66)
set_option maxHeartbeats 2000000 in
theorem lc_5 {Q : Nat → Qt} {P : Kt} {L : Nat} {xs : Nat → Int32} (hc : Cl (AM 640) false true L xs 2 112 kL_law Q P) (hL : L ≤ 3584) {v3 : Int32} {I : Im} {J : Jm} {R : Rm} (hB0 : Bd I) (hR0 : RI R) (hF0 : Fl R) (hL0 : (I 3 1).toInt = (I 97 8).toInt) (hL1 : (I 1 13).toInt = (I 97 23).toInt) (hL2 : RT I) (hL3 : J 47 0 = 0) (hR3 : R3 I J) (hRM : RM I J R) (hFQ : True) (hW9 : W9 I R) (hFR : FQ9 J) (h0 : 0 ≤ v3.toInt) (h7 : v3.toInt + 7 ≤ (L : Int)) (hN : ∀ (I : Im) (J : Jm) (R : Rm), Bd I → RI R → Fl R → RLk I J → R3 I J → RM I J R → True → W9 I R → FQ9 J → P 1890 112 [(0, .ref 0), (1, .ref 1), (2, .ref 97), (3, .int v3)] [] I J R) : P 400 112 [(0, .ref 0), (1, .ref 1), (2, .ref 97), (3, .int v3)] [] I J R := by
  have i_v3 := i32 v3
  have e97 : I 97 8 = nI (fl I) := (Int32.toInt_inj.mp hL0).symm.trans (fl_bd hB0).1
  have b31 := Bd.o hB0 (show isO 112 3 6 = true from rfl) (show bnd 6 1 = some _ from rfl)
  refine ls_400 hc v3 _ _ _ ?_
  have e1 : ((v3 + 1) : Int32).toInt = (v3.toInt) + (1) := ti_add rfl rfl (by omega)
  refine ⟨vp_of (a := (v3.toInt + 1)) e1 (by omega) (by omega), ?_⟩
  have z2 := i32 (xs (Int32.toNatClampNeg (v3 + 1)))
  have e3 : ((v3 + 2) : Int32).toInt = (v3.toInt) + (2) := ti_add rfl rfl (by omega)
  refine ⟨vp_of (a := (v3.toInt + 2)) e3 (by omega) (by omega), ?_⟩
  have z4 := i32 (xs (Int32.toNatClampNeg (v3 + 2)))
  refine ⟨⟨hF0, rfl⟩, ?_⟩
  refine kp7 rfl hR0 rfl (kpA rfl (kpnm rfl hR0 rfl (kp102 rfl hR0 rfl (kpW9 rfl hR0 rfl (kpFm rfl (kpFc rfl (kp6 rfl hR0 rfl (kp4 rfl (kp5 rfl hR0 rfl (kp0 rfl (kp1 rfl (kp2 rfl (kp3 rfl (sp_X11_read hB0 hR0 (fun x5 y10 I6 J7 hB8 p9 kq14 kq13 kq12 kq11 k16 k15 k17 w24 w23 w22 w21 w20 w19 w18 => ?_)))))))))))))))
  have b25 := Bd.o hB0 (show isO 112 3 6 = true from rfl) (show bnd 6 1 = some _ from rfl)
  have e26 : ((I6 3 1) : Int32).toInt = (I 3 1).toInt := Eq.trans (congrArg Int32.toInt kq11) rfl
  have kz27 : ((I6 3 1) : Int32).toInt = (I 3 1).toInt := e26
  have b28 := Bd.o hB0 (show isO 112 97 12 = true from rfl) (show bnd 12 8 = some _ from rfl)
  have e29 : ((I6 97 8) : Int32).toInt = (I 97 8).toInt := Eq.trans (congrArg Int32.toInt kq12) rfl
  have kz30 : ((I6 97 8) : Int32).toInt = (I 97 8).toInt := e29
  have b31 := Bd.o hB0 (show isO 112 1 11 = true from rfl) (show bnd 11 13 = some _ from rfl)
  have e32 : ((I6 1 13) : Int32).toInt = (I 1 13).toInt := Eq.trans (congrArg Int32.toInt kq13) rfl
  have kz33 : ((I6 1 13) : Int32).toInt = (I 1 13).toInt := e32
  have b34 := Bd.o hB0 (show isO 112 97 12 = true from rfl) (show bnd 12 23 = some _ from rfl)
  have e35 : ((I6 97 23) : Int32).toInt = (I 97 23).toInt := Eq.trans (congrArg Int32.toInt kq14) rfl
  have kz36 : ((I6 97 23) : Int32).toInt = (I 97 23).toInt := e35
  refine ⟨vp_of (a := (v3.toInt + 1)) e1 (by omega) (by omega), ?_⟩
  have z37 := i32 (xs (Int32.toNatClampNeg (v3 + 1)))
  refine ⟨vp_of (a := (v3.toInt + 2)) e3 (by omega) (by omega), ?_⟩
  have z38 := i32 (xs (Int32.toNatClampNeg (v3 + 2)))
  refine ⟨⟨hF0, rfl⟩, ?_⟩
  refine kp7 rfl hR0 rfl (kpA rfl (kpnm rfl hR0 rfl (kp102 rfl hR0 rfl (kpW9 rfl hR0 rfl (kpFc rfl (kpFm rfl (kp6 rfl hR0 rfl (kp4 rfl (kp5 rfl hR0 rfl (kp0 rfl (kp1 rfl (kp2 rfl (kp3 rfl (sp_X12_read hB8 hR0 (fun x39 y44 I40 J41 hB42 p43 kq48 kq47 kq46 kq45 k50 k49 k51 w58 w57 w56 w55 w54 w53 w52 => ?_)))))))))))))))
  have e59 : ((I40 3 1) : Int32).toInt = (I 3 1).toInt := Eq.trans (congrArg Int32.toInt (Eq.trans kq45 kq11)) rfl
  have kz60 : ((I40 3 1) : Int32).toInt = (I 3 1).toInt := e59
  have e61 : ((I40 97 8) : Int32).toInt = (I 97 8).toInt := Eq.trans (congrArg Int32.toInt (Eq.trans kq46 kq12)) rfl
  have kz62 : ((I40 97 8) : Int32).toInt = (I 97 8).toInt := e61
  have e63 : ((I40 1 13) : Int32).toInt = (I 1 13).toInt := Eq.trans (congrArg Int32.toInt (Eq.trans kq47 kq13)) rfl
  have kz64 : ((I40 1 13) : Int32).toInt = (I 1 13).toInt := e63
  have e65 : ((I40 97 23) : Int32).toInt = (I 97 23).toInt := Eq.trans (congrArg Int32.toInt (Eq.trans kq48 kq14)) rfl
  have kz66 : ((I40 97 23) : Int32).toInt = (I 97 23).toInt := e65
  exact hN _ _ R hB42 hR0 hF0 ⟨(Eq.trans (e59) (Eq.trans hL0 (Eq.symm (e61)))), (Eq.trans (e63) (Eq.trans hL1 (Eq.symm (e65)))), (RT.kp (RT.kp hL2 k15 k16) k49 k50), ((congrFun k51 0).trans ((congrFun k17 0).trans hL3))⟩ (R3.kp (R3.kp hR3 w18 (by have ya : ((I6 3 1) : Int32).toInt = (I 3 1).toInt := e26; have yb : ((I 3 1) : Int32).toInt = (I 3 1).toInt := rfl; omega)) w52 (by have ya : ((I40 3 1) : Int32).toInt = (I 3 1).toInt := e59; have yb : ((I6 3 1) : Int32).toInt = (I 3 1).toInt := e26; omega)) (RM.kp hR0 (RM.kp hR0 hRM ⟨w19, w20, (fun j _ => congrFun w21.1 j)⟩) ⟨w53, w54, (fun j _ => congrFun w55.1 j)⟩) trivial (W9.kp hR0 (W9.kp hR0 hW9 w22 w21.1 w19.2) w56 w55.1 w53.2) (FQ9.kp (FQ9.kp hFR w24 w23) w57 w58)
set_option maxHeartbeats 2000000 in
theorem lc_6 {Q : Nat → Qt} {P : Kt} {L : Nat} {xs : Nat → Int32} (hc : Cl (AM 640) false true L xs 2 112 kL_law Q P) (hL : L ≤ 3584) {v3 : Int32} {I : Im} {J : Jm} {R : Rm} (hB0 : Bd I) (hR0 : RI R) (hF0 : Fl R) (hL0 : (I 3 1).toInt = (I 97 8).toInt) (hL1 : (I 1 13).toInt = (I 97 23).toInt) (hL2 : RT I) (hL3 : J 47 0 = 0) (hR3 : R3 I J) (hRM : RM I J R) (hFQ : True) (hW9 : W9 I R) (hFR : FQ9 J) (h0 : 0 ≤ v3.toInt) (h7 : v3.toInt + 7 ≤ (L : Int)) (hN : ∀ (I : Im) (J : Jm) (R : Rm), Bd I → RI R → Fl R → RLk I J → R3 I J → RM I J R → True → W9 I R → FQ9 J → P 1890 112 [(0, .ref 0), (1, .ref 1), (2, .ref 97), (3, .int v3)] [] I J R) : P 433 112 [(0, .ref 0), (1, .ref 1), (2, .ref 97), (3, .int v3)] [] I J R := by
  have i_v3 := i32 v3
  have e97 : I 97 8 = nI (fl I) := (Int32.toInt_inj.mp hL0).symm.trans (fl_bd hB0).1
  have b31 := Bd.o hB0 (show isO 112 3 6 = true from rfl) (show bnd 6 1 = some _ from rfl)
  refine ls_433 hc v3 _ _ _ ?_
  have e1 : ((v3 + 1) : Int32).toInt = (v3.toInt) + (1) := ti_add rfl rfl (by omega)
  refine ⟨vp_of (a := (v3.toInt + 1)) e1 (by omega) (by omega), ?_⟩
  have z2 := i32 (xs (Int32.toNatClampNeg (v3 + 1)))
  have e3 : ((v3 + 2) : Int32).toInt = (v3.toInt) + (2) := ti_add rfl rfl (by omega)
  refine ⟨vp_of (a := (v3.toInt + 2)) e3 (by omega) (by omega), ?_⟩
  have z4 := i32 (xs (Int32.toNatClampNeg (v3 + 2)))
  have e5 : ((v3 + 3) : Int32).toInt = (v3.toInt) + (3) := ti_add rfl rfl (by omega)
  refine ⟨vp_of (a := (v3.toInt + 3)) e5 (by omega) (by omega), ?_⟩
  have z6 := i32 (xs (Int32.toNatClampNeg (v3 + 3)))
  have e7 : ((v3 + 4) : Int32).toInt = (v3.toInt) + (4) := ti_add rfl rfl (by omega)
  refine ⟨vp_of (a := (v3.toInt + 4)) e7 (by omega) (by omega), ?_⟩
  have z8 := i32 (xs (Int32.toNatClampNeg (v3 + 4)))
  have e9 : ((v3 + 5) : Int32).toInt = (v3.toInt) + (5) := ti_add rfl rfl (by omega)
  refine ⟨vp_of (a := (v3.toInt + 5)) e9 (by omega) (by omega), ?_⟩
  have z10 := i32 (xs (Int32.toNatClampNeg (v3 + 5)))
  refine ⟨⟨hF0, rfl⟩, ?_⟩
  refine kp7 rfl hR0 rfl (kpA rfl (kpnm rfl hR0 rfl (kp102 rfl hR0 rfl (kpW9 rfl hR0 rfl (kpFm rfl (kpFc rfl (kp6 rfl hR0 rfl (kp4 rfl (kp5 rfl hR0 rfl (kp0 rfl (kp1 rfl (kp2 rfl (kp3 rfl (sp_X11_pour hB0 hR0 (fun x11 y16 I12 J13 hB14 p15 kq20 kq19 kq18 kq17 k22 k21 k23 w30 w29 w28 w27 w26 w25 w24 => ?_)))))))))))))))
  intro o31
  have i33 := i32 x11
  have b34 := Bd.o hB0 (show isO 112 3 6 = true from rfl) (show bnd 6 1 = some _ from rfl)
  have e35 : ((I12 3 1) : Int32).toInt = (I 3 1).toInt := Eq.trans (congrArg Int32.toInt kq17) rfl
  have kz36 : ((I12 3 1) : Int32).toInt = (I 3 1).toInt := e35
  have b37 := Bd.o hB0 (show isO 112 97 12 = true from rfl) (show bnd 12 8 = some _ from rfl)
  have e38 : ((I12 97 8) : Int32).toInt = (I 97 8).toInt := Eq.trans (congrArg Int32.toInt kq18) rfl
  have kz39 : ((I12 97 8) : Int32).toInt = (I 97 8).toInt := e38
  have b40 := Bd.o hB0 (show isO 112 1 11 = true from rfl) (show bnd 11 13 = some _ from rfl)
  have e41 : ((I12 1 13) : Int32).toInt = (I 1 13).toInt := Eq.trans (congrArg Int32.toInt kq19) rfl
  have kz42 : ((I12 1 13) : Int32).toInt = (I 1 13).toInt := e41
  have b43 := Bd.o hB0 (show isO 112 97 12 = true from rfl) (show bnd 12 23 = some _ from rfl)
  have e44 : ((I12 97 23) : Int32).toInt = (I 97 23).toInt := Eq.trans (congrArg Int32.toInt kq20) rfl
  have kz45 : ((I12 97 23) : Int32).toInt = (I 97 23).toInt := e44
  have hw46 : 0 ≤ ((xs (Int32.toNatClampNeg (v3 + 1))) : Int32).toInt → ((xs (Int32.toNatClampNeg (v3 + 1))) : Int32).toInt ≤ 3 → (I (R 2 (Int32.toNatClampNeg (xs (Int32.toNatClampNeg (v3 + 1))))) 1).toInt = (I12 99 (Int32.toNatClampNeg (xs (Int32.toNatClampNeg (v3 + 1))))).toInt := fun a b => RT.a1 hL2 hR0 k22 a b
  have hw47 : 0 ≤ ((xs (Int32.toNatClampNeg (v3 + 1))) : Int32).toInt → ((xs (Int32.toNatClampNeg (v3 + 1))) : Int32).toInt ≤ 3 → (I (R 2 (Int32.toNatClampNeg (xs (Int32.toNatClampNeg (v3 + 1))))) 0).toInt = (I12 98 (Int32.toNatClampNeg (xs (Int32.toNatClampNeg (v3 + 1))))).toInt := fun a b => RT.a0 hL2 hR0 k22 a b
  have hw48 : 0 ≤ ((xs (Int32.toNatClampNeg (v3 + 3))) : Int32).toInt → ((xs (Int32.toNatClampNeg (v3 + 3))) : Int32).toInt ≤ 3 → (I (R 2 (Int32.toNatClampNeg (xs (Int32.toNatClampNeg (v3 + 3))))) 1).toInt = (I12 99 (Int32.toNatClampNeg (xs (Int32.toNatClampNeg (v3 + 3))))).toInt := fun a b => RT.a1 hL2 hR0 k22 a b
  have hw49 : 0 ≤ ((xs (Int32.toNatClampNeg (v3 + 3))) : Int32).toInt → ((xs (Int32.toNatClampNeg (v3 + 3))) : Int32).toInt ≤ 3 → (I (R 2 (Int32.toNatClampNeg (xs (Int32.toNatClampNeg (v3 + 3))))) 0).toInt = (I12 98 (Int32.toNatClampNeg (xs (Int32.toNatClampNeg (v3 + 3))))).toInt := fun a b => RT.a0 hL2 hR0 k22 a b
  refine ⟨vp_of (a := (v3.toInt + 1)) e1 (by omega) (by omega), ?_⟩
  have z50 := i32 (xs (Int32.toNatClampNeg (v3 + 1)))
  refine ⟨vp_of (a := (v3.toInt + 2)) e3 (by omega) (by omega), ?_⟩
  have z51 := i32 (xs (Int32.toNatClampNeg (v3 + 2)))
  refine ⟨vp_of (a := (v3.toInt + 3)) e5 (by omega) (by omega), ?_⟩
  have z52 := i32 (xs (Int32.toNatClampNeg (v3 + 3)))
  refine ⟨vp_of (a := (v3.toInt + 4)) e7 (by omega) (by omega), ?_⟩
  have z53 := i32 (xs (Int32.toNatClampNeg (v3 + 4)))
  refine ⟨vp_of (a := (v3.toInt + 5)) e9 (by omega) (by omega), ?_⟩
  have z54 := i32 (xs (Int32.toNatClampNeg (v3 + 5)))
  refine ⟨⟨hF0, rfl⟩, ?_⟩
  refine kp7 rfl hR0 rfl (kpA rfl (kpnm rfl hR0 rfl (kp102 rfl hR0 rfl (kpW9 rfl hR0 rfl (kpFc rfl (kpFm rfl (kp6 rfl hR0 rfl (kp4 rfl (kp0 rfl (kp1 rfl (kp2 rfl (kp3 rfl (sp_X12_pour hB14 hR0 (fun x55 y60 I56 J57 hB58 p59 kq64 kq63 kq62 kq61 k65 k66 w73 w72 w71 w70 w69 w68 w67 => ?_))))))))))))))
  intro o74
  have i75 := i32 x55
  have e76 : ((I56 3 1) : Int32).toInt = (I 3 1).toInt := Eq.trans (congrArg Int32.toInt (Eq.trans kq61 kq17)) rfl
  have kz77 : ((I56 3 1) : Int32).toInt = (I 3 1).toInt := e76
  have e78 : ((I56 97 8) : Int32).toInt = (I 97 8).toInt := Eq.trans (congrArg Int32.toInt (Eq.trans kq62 kq18)) rfl
  have kz79 : ((I56 97 8) : Int32).toInt = (I 97 8).toInt := e78
  have e80 : ((I56 1 13) : Int32).toInt = (I 1 13).toInt := Eq.trans (congrArg Int32.toInt (Eq.trans kq63 kq19)) rfl
  have kz81 : ((I56 1 13) : Int32).toInt = (I 1 13).toInt := e80
  have e82 : ((I56 97 23) : Int32).toInt = (I 97 23).toInt := Eq.trans (congrArg Int32.toInt (Eq.trans kq64 kq20)) rfl
  have kz83 : ((I56 97 23) : Int32).toInt = (I 97 23).toInt := e82
  exact hN _ _ R hB58 hR0 hF0 ⟨(Eq.trans (e76) (Eq.trans hL0 (Eq.symm (e78)))), (Eq.trans (e80) (Eq.trans hL1 (Eq.symm (e82)))), (RT.kp (RT.kp hL2 k21 k22) k65 (p59.2)), ((congrFun k66 0).trans ((congrFun k23 0).trans hL3))⟩ (R3.kp (R3.kp hR3 w24 (by have ya : ((I12 3 1) : Int32).toInt = (I 3 1).toInt := e35; have yb : ((I 3 1) : Int32).toInt = (I 3 1).toInt := rfl; omega)) w67 (by have ya : ((I56 3 1) : Int32).toInt = (I 3 1).toInt := e76; have yb : ((I12 3 1) : Int32).toInt = (I 3 1).toInt := e35; omega)) (RM.kp hR0 (RM.kp hR0 hRM ⟨w25, w26, (fun j _ => congrFun w27.1 j)⟩) ⟨w68, w69, (fun j _ => congrFun w70.1 j)⟩) trivial (W9.kp hR0 (W9.kp hR0 hW9 w28 w27.1 w25.2) w71 w70.1 w68.2) (FQ9.kp (FQ9.kp hFR w30 w29) w72 w73)
set_option maxHeartbeats 2000000 in
theorem lc_7 {Q : Nat → Qt} {P : Kt} {L : Nat} {xs : Nat → Int32} (hc : Cl (AM 640) false true L xs 2 112 kL_law Q P) (hL : L ≤ 3584) {v3 : Int32} {I : Im} {J : Jm} {R : Rm} (hB0 : Bd I) (hR0 : RI R) (hF0 : Fl R) (hL0 : (I 3 1).toInt = (I 97 8).toInt) (hL1 : (I 1 13).toInt = (I 97 23).toInt) (hL2 : RT I) (hL3 : J 47 0 = 0) (hR3 : R3 I J) (hRM : RM I J R) (hFQ : True) (hW9 : W9 I R) (hFR : FQ9 J) (h0 : 0 ≤ v3.toInt) (h7 : v3.toInt + 7 ≤ (L : Int)) (hN : ∀ (I : Im) (J : Jm) (R : Rm), Bd I → RI R → Fl R → RLk I J → R3 I J → RM I J R → True → W9 I R → FQ9 J → P 1890 112 [(0, .ref 0), (1, .ref 1), (2, .ref 97), (3, .int v3)] [] I J R) : P 496 112 [(0, .ref 0), (1, .ref 1), (2, .ref 97), (3, .int v3)] [] I J R := by
  have i_v3 := i32 v3
  have e97 : I 97 8 = nI (fl I) := (Int32.toInt_inj.mp hL0).symm.trans (fl_bd hB0).1
  have b31 := Bd.o hB0 (show isO 112 3 6 = true from rfl) (show bnd 6 1 = some _ from rfl)
  refine ls_496 hc v3 _ _ _ ?_
  have e1 : ((v3 + 1) : Int32).toInt = (v3.toInt) + (1) := ti_add rfl rfl (by omega)
  refine ⟨vp_of (a := (v3.toInt + 1)) e1 (by omega) (by omega), ?_⟩
  have z2 := i32 (xs (Int32.toNatClampNeg (v3 + 1)))
  have e3 : ((v3 + 2) : Int32).toInt = (v3.toInt) + (2) := ti_add rfl rfl (by omega)
  refine ⟨vp_of (a := (v3.toInt + 2)) e3 (by omega) (by omega), ?_⟩
  have z4 := i32 (xs (Int32.toNatClampNeg (v3 + 2)))
  have e5 : ((v3 + 3) : Int32).toInt = (v3.toInt) + (3) := ti_add rfl rfl (by omega)
  refine ⟨vp_of (a := (v3.toInt + 3)) e5 (by omega) (by omega), ?_⟩
  have z6 := i32 (xs (Int32.toNatClampNeg (v3 + 3)))
  have e7 : ((v3 + 4) : Int32).toInt = (v3.toInt) + (4) := ti_add rfl rfl (by omega)
  refine ⟨vp_of (a := (v3.toInt + 4)) e7 (by omega) (by omega), ?_⟩
  have z8 := i32 (xs (Int32.toNatClampNeg (v3 + 4)))
  have e9 : ((v3 + 5) : Int32).toInt = (v3.toInt) + (5) := ti_add rfl rfl (by omega)
  refine ⟨vp_of (a := (v3.toInt + 5)) e9 (by omega) (by omega), ?_⟩
  have z10 := i32 (xs (Int32.toNatClampNeg (v3 + 5)))
  refine ⟨⟨hF0, rfl⟩, ?_⟩
  refine kx (cx_feed hB0) (kpA rfl (kpnm rfl hR0 rfl (kp102 rfl hR0 rfl (kpW9 rfl hR0 rfl (kpFm rfl (kpFc rfl (kp6 rfl hR0 rfl (kp4 rfl (kp5 rfl hR0 rfl (kp1 rfl (kp2 rfl (kp3 rfl (sp_X11_feed hB0 hR0 (fun x11 y16 I12 J13 hB14 p15 kq19 kq18 kq17 k21 k20 k22 w29 w28 w27 w26 w25 w24 w23 => ?_))))))))))))))
  have b30 := Bd.o hB0 (show isO 112 3 6 = true from rfl) (show bnd 6 1 = some _ from rfl)
  have b31 := Bd.o hB14 (show isO 112 3 6 = true from rfl) (show bnd 6 1 = some _ from rfl)
  have i33 := i32 x11
  have b34 := Bd.o hB0 (show isO 112 97 12 = true from rfl) (show bnd 12 8 = some _ from rfl)
  have e35 : ((I12 97 8) : Int32).toInt = (I 97 8).toInt := Eq.trans (congrArg Int32.toInt kq17) rfl
  have kz36 : ((I12 97 8) : Int32).toInt = (I 97 8).toInt := e35
  have b37 := Bd.o hB0 (show isO 112 1 11 = true from rfl) (show bnd 11 13 = some _ from rfl)
  have e38 : ((I12 1 13) : Int32).toInt = (I 1 13).toInt := Eq.trans (congrArg Int32.toInt kq18) rfl
  have kz39 : ((I12 1 13) : Int32).toInt = (I 1 13).toInt := e38
  have b40 := Bd.o hB0 (show isO 112 97 12 = true from rfl) (show bnd 12 23 = some _ from rfl)
  have e41 : ((I12 97 23) : Int32).toInt = (I 97 23).toInt := Eq.trans (congrArg Int32.toInt kq19) rfl
  have kz42 : ((I12 97 23) : Int32).toInt = (I 97 23).toInt := e41
  refine ⟨vp_of (a := (v3.toInt + 1)) e1 (by omega) (by omega), ?_⟩
  have z43 := i32 (xs (Int32.toNatClampNeg (v3 + 1)))
  refine ⟨vp_of (a := (v3.toInt + 2)) e3 (by omega) (by omega), ?_⟩
  have z44 := i32 (xs (Int32.toNatClampNeg (v3 + 2)))
  refine ⟨vp_of (a := (v3.toInt + 3)) e5 (by omega) (by omega), ?_⟩
  have z45 := i32 (xs (Int32.toNatClampNeg (v3 + 3)))
  refine ⟨vp_of (a := (v3.toInt + 4)) e7 (by omega) (by omega), ?_⟩
  have z46 := i32 (xs (Int32.toNatClampNeg (v3 + 4)))
  refine ⟨vp_of (a := (v3.toInt + 5)) e9 (by omega) (by omega), ?_⟩
  have z47 := i32 (xs (Int32.toNatClampNeg (v3 + 5)))
  refine ⟨⟨hF0, rfl⟩, ?_⟩
  refine kx (mx_feed (f := fl I) ((w23.2.2.2).trans e97) (fl_bd hB0).2) (kpA rfl (kpnm rfl hR0 rfl (kp102 rfl hR0 rfl (kpW9 rfl hR0 rfl (kpFc rfl (kpFm rfl (kp6 rfl hR0 rfl (kp4 rfl (kp5 rfl hR0 rfl (kp0 rfl (kp2 rfl (kp3 rfl (sp_X12_feed hB14 hR0 (fun x48 y53 I49 J50 hB51 p52 kq56 kq55 kq54 k58 k57 k59 w66 w65 w64 w63 w62 w61 w60 => ?_))))))))))))))
  have b67 := Bd.o hB51 (show isO 112 97 12 = true from rfl) (show bnd 12 8 = some _ from rfl)
  have i68 := i32 x48
  have e69 : ((I49 3 1) : Int32).toInt = (I12 3 1).toInt := Eq.trans (congrArg Int32.toInt kq54) rfl
  have kz70 : ((I49 3 1) : Int32).toInt = (I12 3 1).toInt := e69
  have e71 : ((I49 1 13) : Int32).toInt = (I 1 13).toInt := Eq.trans (congrArg Int32.toInt (Eq.trans kq55 kq18)) rfl
  have kz72 : ((I49 1 13) : Int32).toInt = (I 1 13).toInt := e71
  have e73 : ((I49 97 23) : Int32).toInt = (I 97 23).toInt := Eq.trans (congrArg Int32.toInt (Eq.trans kq56 kq19)) rfl
  have kz74 : ((I49 97 23) : Int32).toInt = (I 97 23).toInt := e73
  have hr75 := R3.feed hR3 rfl w23 w60
  have hg76 : (x48 : Int32).toInt = (x11 : Int32).toInt := congrArg Int32.toInt hr75.2
  exact hN _ _ R hB51 hR0 hF0 ⟨(by have ya : ((I49 3 1) : Int32).toInt = (I12 3 1).toInt := e69; have yb : ((I49 97 8) : Int32).toInt = (I49 97 8).toInt := rfl; omega), (Eq.trans (e71) (Eq.trans hL1 (Eq.symm (e73)))), (RT.kp (RT.kp hL2 k20 k21) k57 k58), ((congrFun k59 0).trans ((congrFun k22 0).trans hL3))⟩ (hr75.1) (RM.kp hR0 (RM.kp hR0 hRM ⟨w24, w25, (fun j _ => congrFun w26.1 j)⟩) ⟨w61, w62, (fun j _ => congrFun w63.1 j)⟩) trivial (W9.kp hR0 (W9.kp hR0 hW9 w27 w26.1 w24.2) w64 w63.1 w61.2) (FQ9.kp (FQ9.kp hFR w29 w28) w65 w66)
set_option maxHeartbeats 2000000 in
theorem lc_8 {Q : Nat → Qt} {P : Kt} {L : Nat} {xs : Nat → Int32} (hc : Cl (AM 640) false true L xs 2 112 kL_law Q P) (hL : L ≤ 3584) {v3 : Int32} {I : Im} {J : Jm} {R : Rm} (hB0 : Bd I) (hR0 : RI R) (hF0 : Fl R) (hL0 : (I 3 1).toInt = (I 97 8).toInt) (hL1 : (I 1 13).toInt = (I 97 23).toInt) (hL2 : RT I) (hL3 : J 47 0 = 0) (hR3 : R3 I J) (hRM : RM I J R) (hFQ : True) (hW9 : W9 I R) (hFR : FQ9 J) (h0 : 0 ≤ v3.toInt) (h7 : v3.toInt + 7 ≤ (L : Int)) (hN : ∀ (I : Im) (J : Jm) (R : Rm), Bd I → RI R → Fl R → RLk I J → R3 I J → RM I J R → True → W9 I R → FQ9 J → P 1890 112 [(0, .ref 0), (1, .ref 1), (2, .ref 97), (3, .int v3)] [] I J R) : P 559 112 [(0, .ref 0), (1, .ref 1), (2, .ref 97), (3, .int v3)] [] I J R := by
  have i_v3 := i32 v3
  have e97 : I 97 8 = nI (fl I) := (Int32.toInt_inj.mp hL0).symm.trans (fl_bd hB0).1
  have b31 := Bd.o hB0 (show isO 112 3 6 = true from rfl) (show bnd 6 1 = some _ from rfl)
  refine ls_559 hc v3 _ _ _ ?_
  have e1 : ((v3 + 1) : Int32).toInt = (v3.toInt) + (1) := ti_add rfl rfl (by omega)
  refine ⟨vp_of (a := (v3.toInt + 1)) e1 (by omega) (by omega), ?_⟩
  have z2 := i32 (xs (Int32.toNatClampNeg (v3 + 1)))
  refine ⟨⟨hF0, rfl⟩, ?_⟩
  refine kx (cx_bakery hB0 hR0 hR3) (kx (cx_bakM hB0 hR0 hR3) (kpFm rfl (kpFc rfl (kx (cx_bak9 hB0 hR0 hR3) (kp6 rfl hR0 rfl (kp4 rfl (kp5 rfl hR0 rfl (kp1 rfl (kp2 rfl (kp3 rfl (sp_X11_bakery hB0 hR0 (fun x3 y4 I5 J6 R7 hB8 hR9 hL10 p11 kq14 kq13 kq12 k16 k15 k17 w22 w21 w20 w19 w18 => ?_))))))))))))
  have b23 := Bd.o hB8 (show isO 112 3 6 = true from rfl) (show bnd 6 1 = some _ from rfl)
  have b24 := Bd.o hB0 (show isO 112 97 12 = true from rfl) (show bnd 12 8 = some _ from rfl)
  have e25 : ((I5 97 8) : Int32).toInt = (I 97 8).toInt := Eq.trans (congrArg Int32.toInt kq12) rfl
  have kz26 : ((I5 97 8) : Int32).toInt = (I 97 8).toInt := e25
  have b27 := Bd.o hB0 (show isO 112 1 11 = true from rfl) (show bnd 11 13 = some _ from rfl)
  have e28 : ((I5 1 13) : Int32).toInt = (I 1 13).toInt := Eq.trans (congrArg Int32.toInt kq13) rfl
  have kz29 : ((I5 1 13) : Int32).toInt = (I 1 13).toInt := e28
  have b30 := Bd.o hB0 (show isO 112 97 12 = true from rfl) (show bnd 12 23 = some _ from rfl)
  have e31 : ((I5 97 23) : Int32).toInt = (I 97 23).toInt := Eq.trans (congrArg Int32.toInt kq14) rfl
  have kz32 : ((I5 97 23) : Int32).toInt = (I 97 23).toInt := e31
  refine ⟨vp_of (a := (v3.toInt + 1)) e1 (by omega) (by omega), ?_⟩
  have z33 := i32 (xs (Int32.toNatClampNeg (v3 + 1)))
  refine ⟨⟨(hL10 hF0), rfl⟩, ?_⟩
  refine kx (mx_bakery (f := fl I) (T := I 4) ((kq12).trans e97) (fl_bd hB0).2 hR3.1 (fun i hi => (congrFun w18.2.2.1 i).trans (hR3.2.1 i hi).symm)) (kx (mx_bakM (f := fl I) (T := I 4) ((kq12).trans e97) (fl_bd hB0).2 hR3.1 (fun i hi => (congrFun w18.2.2.1 i).trans (hR3.2.1 i hi).symm)) (kx (mx_bak9 (f := fl I) (T := I 4) hR0 hW9 ((kq12).trans e97) (fl_bd hB0).2 hR3.1 (fun i hi => (congrFun w18.2.2.1 i).trans (hR3.2.1 i hi).symm) w22) (kpFc rfl (kpFm rfl (kp6 rfl hR9 rfl (kp4 rfl (kp5 rfl hR9 rfl (kp0 rfl (kp2 rfl (kp3 rfl (sp_X12_bakery hB8 hR9 (fun x34 y39 I35 J36 hB37 p38 kq42 kq41 kq40 k44 k43 k45 w50 w49 w48 w47 w46 => ?_))))))))))))
  have b51 := Bd.o hB37 (show isO 112 97 12 = true from rfl) (show bnd 12 8 = some _ from rfl)
  have i52 := i32 x34
  have e53 : ((I35 3 1) : Int32).toInt = (I5 3 1).toInt := Eq.trans (congrArg Int32.toInt kq40) rfl
  have kz54 : ((I35 3 1) : Int32).toInt = (I5 3 1).toInt := e53
  have e55 : ((I35 1 13) : Int32).toInt = (I 1 13).toInt := Eq.trans (congrArg Int32.toInt (Eq.trans kq41 kq13)) rfl
  have kz56 : ((I35 1 13) : Int32).toInt = (I 1 13).toInt := e55
  have e57 : ((I35 97 23) : Int32).toInt = (I 97 23).toInt := Eq.trans (congrArg Int32.toInt (Eq.trans kq42 kq14)) rfl
  have kz58 : ((I35 97 23) : Int32).toInt = (I 97 23).toInt := e57
  have hr59 := HB.eq (fl_bd hB0).2 w18.1 w46.1
  have hg60 : (x34 : Int32).toInt = (x3 : Int32).toInt := congrArg Int32.toInt hr59
  have hr61 := RM.bak (fl_bd hB0).2 hR0 hRM w19 w47
  exact hN _ _ R7 hB37 hR9 (hL10 hF0) ⟨(by have ya : ((I35 3 1) : Int32).toInt = (I5 3 1).toInt := e53; have yb : ((I35 97 8) : Int32).toInt = (I35 97 8).toInt := rfl; omega), (Eq.trans (e55) (Eq.trans hL1 (Eq.symm (e57)))), (RT.kp (RT.kp hL2 k15 k16) k43 k44), ((congrFun k45 0).trans ((congrFun k17 0).trans hL3))⟩ (R3.kp (R3.kp hR3 w18.2 (HB.le (b31.1) w18.1)) w46.2.1 (Int.le_of_eq (congrArg Int32.toInt w46.2.2))) hr61 trivial (w48 rfl) (FQ9.kp (FQ9.kp hFR w21 w20) w49 w50)
set_option maxHeartbeats 2000000 in
theorem lc_9 {Q : Nat → Qt} {P : Kt} {L : Nat} {xs : Nat → Int32} (hc : Cl (AM 640) false true L xs 2 112 kL_law Q P) (hL : L ≤ 3584) {v3 : Int32} {I : Im} {J : Jm} {R : Rm} (hB0 : Bd I) (hR0 : RI R) (hF0 : Fl R) (hL0 : (I 3 1).toInt = (I 97 8).toInt) (hL1 : (I 1 13).toInt = (I 97 23).toInt) (hL2 : RT I) (hL3 : J 47 0 = 0) (hR3 : R3 I J) (hRM : RM I J R) (hFQ : True) (hW9 : W9 I R) (hFR : FQ9 J) (h0 : 0 ≤ v3.toInt) (h7 : v3.toInt + 7 ≤ (L : Int)) (hN : ∀ (I : Im) (J : Jm) (R : Rm), Bd I → RI R → Fl R → RLk I J → R3 I J → RM I J R → True → W9 I R → FQ9 J → P 1890 112 [(0, .ref 0), (1, .ref 1), (2, .ref 97), (3, .int v3)] [] I J R) : P 582 112 [(0, .ref 0), (1, .ref 1), (2, .ref 97), (3, .int v3)] [] I J R := by
  have i_v3 := i32 v3
  have e97 : I 97 8 = nI (fl I) := (Int32.toInt_inj.mp hL0).symm.trans (fl_bd hB0).1
  have b31 := Bd.o hB0 (show isO 112 3 6 = true from rfl) (show bnd 6 1 = some _ from rfl)
  refine ls_582 hc v3 _ _ _ ?_
  have e1 : ((v3 + 1) : Int32).toInt = (v3.toInt) + (1) := ti_add rfl rfl (by omega)
  refine ⟨vp_of (a := (v3.toInt + 1)) e1 (by omega) (by omega), ?_⟩
  have z2 := i32 (xs (Int32.toNatClampNeg (v3 + 1)))
  refine ⟨⟨hF0, rfl⟩, ?_⟩
  refine kt7 rfl (kpA rfl (kpnm rfl hR0 rfl (kp102 rfl hR0 rfl (kpFm rfl (kpFc rfl (kx (cx_day9 hB0 hR0 hR3 (RM.mnA hB0 hRM)) (kp6 rfl hR0 rfl (kp4 rfl (kp5 rfl hR0 rfl (kp1 rfl (kp2 rfl (kp3 rfl (sp_X11_days hB0 hR0 (fun x3 y4 I5 J6 R7 hB8 hR9 hL10 p11 rr25 kq14 kq13 kq12 k16 k15 k17 w24 w23 w22 w21 w20 w19 w18 => ?_))))))))))))))
  have b26 := Bd.o hB8 (show isO 112 3 6 = true from rfl) (show bnd 6 1 = some _ from rfl)
  have b27 := Bd.o hB0 (show isO 112 97 12 = true from rfl) (show bnd 12 8 = some _ from rfl)
  have e28 : ((I5 97 8) : Int32).toInt = (I 97 8).toInt := Eq.trans (congrArg Int32.toInt kq12) rfl
  have kz29 : ((I5 97 8) : Int32).toInt = (I 97 8).toInt := e28
  have b30 := Bd.o hB0 (show isO 112 1 11 = true from rfl) (show bnd 11 13 = some _ from rfl)
  have e31 : ((I5 1 13) : Int32).toInt = (I 1 13).toInt := Eq.trans (congrArg Int32.toInt kq13) rfl
  have kz32 : ((I5 1 13) : Int32).toInt = (I 1 13).toInt := e31
  have b33 := Bd.o hB0 (show isO 112 97 12 = true from rfl) (show bnd 12 23 = some _ from rfl)
  have e34 : ((I5 97 23) : Int32).toInt = (I 97 23).toInt := Eq.trans (congrArg Int32.toInt kq14) rfl
  have kz35 : ((I5 97 23) : Int32).toInt = (I 97 23).toInt := e34
  refine ⟨vp_of (a := (v3.toInt + 1)) e1 (by omega) (by omega), ?_⟩
  have z36 := i32 (xs (Int32.toNatClampNeg (v3 + 1)))
  refine ⟨⟨(hL10 hF0), rfl⟩, ?_⟩
  refine kt7 rfl (kpA rfl (kpnm rfl hR9 rfl (kx (mx_day9 (f := fl I) (T := I 4) hR0 hW9 ((kq12).trans e97) (fl_bd hB0).2 hR3.1 (fun i hi => (congrFun w18.2.1 i).trans (hR3.2.1 i hi).symm) (RM.mnR hB0 (congrFun w21.1 0) (w20.2.2.2.2.2)) w24) (kpFc rfl (kpFm rfl (kp6 rfl hR9 rfl (kp4 rfl (kp5 rfl hR9 rfl (kp0 rfl (kp2 rfl (kp3 rfl (sp_X12_days hB8 hR9 (fun x37 y42 I38 J39 hB40 p41 kq45 kq44 kq43 k47 k46 k48 w54 w53 w52 w51 w50 w49 => ?_)))))))))))))
  have f55 : Fr pK I5 I38 := p41.1
  have b56 := Bd.o hB40 (show isO 112 97 12 = true from rfl) (show bnd 12 8 = some _ from rfl)
  have i57 := i32 x37
  have e58 : ((I38 3 1) : Int32).toInt = (I5 3 1).toInt := Eq.trans (congrArg Int32.toInt kq43) rfl
  have kz59 : ((I38 3 1) : Int32).toInt = (I5 3 1).toInt := e58
  have e60 : ((I38 1 13) : Int32).toInt = (I 1 13).toInt := Eq.trans (congrArg Int32.toInt (Eq.trans kq44 kq13)) rfl
  have kz61 : ((I38 1 13) : Int32).toInt = (I 1 13).toInt := e60
  have e62 : ((I38 97 23) : Int32).toInt = (I 97 23).toInt := Eq.trans (congrArg Int32.toInt (Eq.trans kq45 kq14)) rfl
  have kz63 : ((I38 97 23) : Int32).toInt = (I 97 23).toInt := e62
  exact hN _ _ R7 hB40 hR9 (hL10 hF0) ⟨(by have ya : ((I38 3 1) : Int32).toInt = (I5 3 1).toInt := e58; have yb : ((I38 97 8) : Int32).toInt = (I38 97 8).toInt := rfl; omega), (Eq.trans (e60) (Eq.trans hL1 (Eq.symm (e62)))), (RT.kp (RT.kp hL2 k15 k16) k46 k47), ((congrFun k48 0).trans ((congrFun k17 0).trans hL3))⟩ (R3.kp (R3.kp hR3 w18 (by have := p11; omega)) w49 (by have ya : ((I38 3 1) : Int32).toInt = (I5 3 1).toInt := e58; have yb : ((I5 3 1) : Int32).toInt = (I5 3 1).toInt := rfl; omega)) (RM.kp hR9 (RM.r (RM.kp hR0 hRM ⟨w19, w20, (fun j _ => congrFun w21.1 j)⟩) rr25.1) ⟨w50, w51, (fun j hj => f55.1 j hj)⟩) trivial (w52 rfl) (FQ9.kp (FQ9.kp hFR w23 w22) w53 w54)
set_option maxHeartbeats 2000000 in
theorem lc_10 {Q : Nat → Qt} {P : Kt} {L : Nat} {xs : Nat → Int32} (hc : Cl (AM 640) false true L xs 2 112 kL_law Q P) (hL : L ≤ 3584) {v3 : Int32} {I : Im} {J : Jm} {R : Rm} (hB0 : Bd I) (hR0 : RI R) (hF0 : Fl R) (hL0 : (I 3 1).toInt = (I 97 8).toInt) (hL1 : (I 1 13).toInt = (I 97 23).toInt) (hL2 : RT I) (hL3 : J 47 0 = 0) (hR3 : R3 I J) (hRM : RM I J R) (hFQ : True) (hW9 : W9 I R) (hFR : FQ9 J) (h0 : 0 ≤ v3.toInt) (h7 : v3.toInt + 7 ≤ (L : Int)) (hN : ∀ (I : Im) (J : Jm) (R : Rm), Bd I → RI R → Fl R → RLk I J → R3 I J → RM I J R → True → W9 I R → FQ9 J → P 1890 112 [(0, .ref 0), (1, .ref 1), (2, .ref 97), (3, .int v3)] [] I J R) : P 605 112 [(0, .ref 0), (1, .ref 1), (2, .ref 97), (3, .int v3)] [] I J R := by
  have i_v3 := i32 v3
  have e97 : I 97 8 = nI (fl I) := (Int32.toInt_inj.mp hL0).symm.trans (fl_bd hB0).1
  have b31 := Bd.o hB0 (show isO 112 3 6 = true from rfl) (show bnd 6 1 = some _ from rfl)
  refine ls_605 hc v3 _ _ _ ?_
  have e1 : ((v3 + 1) : Int32).toInt = (v3.toInt) + (1) := ti_add rfl rfl (by omega)
  refine ⟨vp_of (a := (v3.toInt + 1)) e1 (by omega) (by omega), ?_⟩
  have z2 := i32 (xs (Int32.toNatClampNeg (v3 + 1)))
  refine ⟨⟨hF0, rfl⟩, ?_⟩
  refine kp7 rfl hR0 rfl (kpA rfl (kpnm rfl hR0 rfl (kp102 rfl hR0 rfl (kpW9 rfl hR0 rfl (kpFm rfl (kpFc rfl (kp6 rfl hR0 rfl (kp4 rfl (kp5 rfl hR0 rfl (kp0 rfl (kp1 rfl (kp2 rfl (kp3 rfl (sp_X11_fault hB0 hR0 (fun x3 y8 I4 J5 hB6 p7 kq12 kq11 kq10 kq9 k14 k13 k15 w22 w21 w20 w19 w18 w17 w16 => ?_)))))))))))))))
  have i23 := i32 x3
  have b24 := Bd.o hB0 (show isO 112 3 6 = true from rfl) (show bnd 6 1 = some _ from rfl)
  have e25 : ((I4 3 1) : Int32).toInt = (I 3 1).toInt := Eq.trans (congrArg Int32.toInt kq9) rfl
  have kz26 : ((I4 3 1) : Int32).toInt = (I 3 1).toInt := e25
  have b27 := Bd.o hB0 (show isO 112 97 12 = true from rfl) (show bnd 12 8 = some _ from rfl)
  have e28 : ((I4 97 8) : Int32).toInt = (I 97 8).toInt := Eq.trans (congrArg Int32.toInt kq10) rfl
  have kz29 : ((I4 97 8) : Int32).toInt = (I 97 8).toInt := e28
  have b30 := Bd.o hB0 (show isO 112 1 11 = true from rfl) (show bnd 11 13 = some _ from rfl)
  have e31 : ((I4 1 13) : Int32).toInt = (I 1 13).toInt := Eq.trans (congrArg Int32.toInt kq11) rfl
  have kz32 : ((I4 1 13) : Int32).toInt = (I 1 13).toInt := e31
  have b33 := Bd.o hB0 (show isO 112 97 12 = true from rfl) (show bnd 12 23 = some _ from rfl)
  have e34 : ((I4 97 23) : Int32).toInt = (I 97 23).toInt := Eq.trans (congrArg Int32.toInt kq12) rfl
  have kz35 : ((I4 97 23) : Int32).toInt = (I 97 23).toInt := e34
  refine ⟨vp_of (a := (v3.toInt + 1)) e1 (by omega) (by omega), ?_⟩
  have z36 := i32 (xs (Int32.toNatClampNeg (v3 + 1)))
  refine ⟨⟨hF0, rfl⟩, ?_⟩
  refine kp7 rfl hR0 rfl (kpA rfl (kpnm rfl hR0 rfl (kp102 rfl hR0 rfl (kpW9 rfl hR0 rfl (kpFc rfl (kpFm rfl (kp6 rfl hR0 rfl (kp4 rfl (kp5 rfl hR0 rfl (kp0 rfl (kp1 rfl (kp2 rfl (kp3 rfl (sp_X12_fault hB6 hR0 (fun x37 y42 I38 J39 hB40 p41 kq46 kq45 kq44 kq43 k48 k47 k49 w56 w55 w54 w53 w52 w51 w50 => ?_)))))))))))))))
  have i57 := i32 x37
  have e58 : ((I38 3 1) : Int32).toInt = (I 3 1).toInt := Eq.trans (congrArg Int32.toInt (Eq.trans kq43 kq9)) rfl
  have kz59 : ((I38 3 1) : Int32).toInt = (I 3 1).toInt := e58
  have e60 : ((I38 97 8) : Int32).toInt = (I 97 8).toInt := Eq.trans (congrArg Int32.toInt (Eq.trans kq44 kq10)) rfl
  have kz61 : ((I38 97 8) : Int32).toInt = (I 97 8).toInt := e60
  have e62 : ((I38 1 13) : Int32).toInt = (I 1 13).toInt := Eq.trans (congrArg Int32.toInt (Eq.trans kq45 kq11)) rfl
  have kz63 : ((I38 1 13) : Int32).toInt = (I 1 13).toInt := e62
  have e64 : ((I38 97 23) : Int32).toInt = (I 97 23).toInt := Eq.trans (congrArg Int32.toInt (Eq.trans kq46 kq12)) rfl
  have kz65 : ((I38 97 23) : Int32).toInt = (I 97 23).toInt := e64
  exact hN _ _ R hB40 hR0 hF0 ⟨(Eq.trans (e58) (Eq.trans hL0 (Eq.symm (e60)))), (Eq.trans (e62) (Eq.trans hL1 (Eq.symm (e64)))), (RT.kp (RT.kp hL2 k13 k14) k47 k48), ((congrFun k49 0).trans ((congrFun k15 0).trans hL3))⟩ (R3.kp (R3.kp hR3 w16 (by have ya : ((I4 3 1) : Int32).toInt = (I 3 1).toInt := e25; have yb : ((I 3 1) : Int32).toInt = (I 3 1).toInt := rfl; omega)) w50 (by have ya : ((I38 3 1) : Int32).toInt = (I 3 1).toInt := e58; have yb : ((I4 3 1) : Int32).toInt = (I 3 1).toInt := e25; omega)) (RM.kp hR0 (RM.kp hR0 hRM ⟨w17, w18, (fun j _ => congrFun w19.1 j)⟩) ⟨w51, w52, (fun j _ => congrFun w53.1 j)⟩) trivial (W9.kp hR0 (W9.kp hR0 hW9 w20 w19.1 w17.2) w54 w53.1 w51.2) (FQ9.kp (FQ9.kp hFR w22 w21) w55 w56)
set_option maxHeartbeats 2000000 in
theorem lc_11 {Q : Nat → Qt} {P : Kt} {L : Nat} {xs : Nat → Int32} (hc : Cl (AM 640) false true L xs 2 112 kL_law Q P) (hL : L ≤ 3584) {v3 : Int32} {I : Im} {J : Jm} {R : Rm} (hB0 : Bd I) (hR0 : RI R) (hF0 : Fl R) (hL0 : (I 3 1).toInt = (I 97 8).toInt) (hL1 : (I 1 13).toInt = (I 97 23).toInt) (hL2 : RT I) (hL3 : J 47 0 = 0) (hR3 : R3 I J) (hRM : RM I J R) (hFQ : True) (hW9 : W9 I R) (hFR : FQ9 J) (h0 : 0 ≤ v3.toInt) (h7 : v3.toInt + 7 ≤ (L : Int)) (hN : ∀ (I : Im) (J : Jm) (R : Rm), Bd I → RI R → Fl R → RLk I J → R3 I J → RM I J R → True → W9 I R → FQ9 J → P 1890 112 [(0, .ref 0), (1, .ref 1), (2, .ref 97), (3, .int v3)] [] I J R) : P 628 112 [(0, .ref 0), (1, .ref 1), (2, .ref 97), (3, .int v3)] [] I J R := by
  have i_v3 := i32 v3
  have e97 : I 97 8 = nI (fl I) := (Int32.toInt_inj.mp hL0).symm.trans (fl_bd hB0).1
  have b31 := Bd.o hB0 (show isO 112 3 6 = true from rfl) (show bnd 6 1 = some _ from rfl)
  refine ls_628 hc v3 _ _ _ ?_
  have e1 : ((v3 + 1) : Int32).toInt = (v3.toInt) + (1) := ti_add rfl rfl (by omega)
  refine ⟨vp_of (a := (v3.toInt + 1)) e1 (by omega) (by omega), ?_⟩
  have z2 := i32 (xs (Int32.toNatClampNeg (v3 + 1)))
  refine ⟨⟨hF0, rfl⟩, ?_⟩
  refine kp7 rfl hR0 rfl (kpA rfl (kpnm rfl hR0 rfl (kp102 rfl hR0 rfl (kpW9 rfl hR0 rfl (kpFm rfl (kpFc rfl (kp6 rfl hR0 rfl (kp4 rfl (kp5 rfl hR0 rfl (kp0 rfl (kp1 rfl (kp2 rfl (kp3 rfl (sp_X11_many hB0 hR0 (fun x3 y8 I4 J5 hB6 p7 kq12 kq11 kq10 kq9 k14 k13 k15 w22 w21 w20 w19 w18 w17 w16 => ?_)))))))))))))))
  have i23 := i32 x3
  have b24 := Bd.o hB0 (show isO 112 3 6 = true from rfl) (show bnd 6 1 = some _ from rfl)
  have e25 : ((I4 3 1) : Int32).toInt = (I 3 1).toInt := Eq.trans (congrArg Int32.toInt kq9) rfl
  have kz26 : ((I4 3 1) : Int32).toInt = (I 3 1).toInt := e25
  have b27 := Bd.o hB0 (show isO 112 97 12 = true from rfl) (show bnd 12 8 = some _ from rfl)
  have e28 : ((I4 97 8) : Int32).toInt = (I 97 8).toInt := Eq.trans (congrArg Int32.toInt kq10) rfl
  have kz29 : ((I4 97 8) : Int32).toInt = (I 97 8).toInt := e28
  have b30 := Bd.o hB0 (show isO 112 1 11 = true from rfl) (show bnd 11 13 = some _ from rfl)
  have e31 : ((I4 1 13) : Int32).toInt = (I 1 13).toInt := Eq.trans (congrArg Int32.toInt kq11) rfl
  have kz32 : ((I4 1 13) : Int32).toInt = (I 1 13).toInt := e31
  have b33 := Bd.o hB0 (show isO 112 97 12 = true from rfl) (show bnd 12 23 = some _ from rfl)
  have e34 : ((I4 97 23) : Int32).toInt = (I 97 23).toInt := Eq.trans (congrArg Int32.toInt kq12) rfl
  have kz35 : ((I4 97 23) : Int32).toInt = (I 97 23).toInt := e34
  refine ⟨vp_of (a := (v3.toInt + 1)) e1 (by omega) (by omega), ?_⟩
  have z36 := i32 (xs (Int32.toNatClampNeg (v3 + 1)))
  refine ⟨⟨hF0, rfl⟩, ?_⟩
  refine kp7 rfl hR0 rfl (kpA rfl (kpnm rfl hR0 rfl (kti rfl (kpW9 rfl hR0 rfl (kpFc rfl (kpFm rfl (kp6 rfl hR0 rfl (kp4 rfl (kp5 rfl hR0 rfl (kp0 rfl (kp1 rfl (kp2 rfl (kp3 rfl (sp_X12_many hB6 hR0 (fun x37 y42 I38 J39 hB40 p41 kq46 kq45 kq44 kq43 k48 k47 k49 w56 w55 w54 w53 w52 w51 w50 => ?_)))))))))))))))
  have i57 := i32 x37
  have e58 : ((I38 3 1) : Int32).toInt = (I 3 1).toInt := Eq.trans (congrArg Int32.toInt (Eq.trans kq43 kq9)) rfl
  have kz59 : ((I38 3 1) : Int32).toInt = (I 3 1).toInt := e58
  have e60 : ((I38 97 8) : Int32).toInt = (I 97 8).toInt := Eq.trans (congrArg Int32.toInt (Eq.trans kq44 kq10)) rfl
  have kz61 : ((I38 97 8) : Int32).toInt = (I 97 8).toInt := e60
  have e62 : ((I38 1 13) : Int32).toInt = (I 1 13).toInt := Eq.trans (congrArg Int32.toInt (Eq.trans kq45 kq11)) rfl
  have kz63 : ((I38 1 13) : Int32).toInt = (I 1 13).toInt := e62
  have e64 : ((I38 97 23) : Int32).toInt = (I 97 23).toInt := Eq.trans (congrArg Int32.toInt (Eq.trans kq46 kq12)) rfl
  have kz65 : ((I38 97 23) : Int32).toInt = (I 97 23).toInt := e64
  exact hN _ _ R hB40 hR0 hF0 ⟨(Eq.trans (e58) (Eq.trans hL0 (Eq.symm (e60)))), (Eq.trans (e62) (Eq.trans hL1 (Eq.symm (e64)))), (RT.kp (RT.kp hL2 k13 k14) k47 k48), ((congrFun k49 0).trans ((congrFun k15 0).trans hL3))⟩ (R3.kp (R3.kp hR3 w16 (by have ya : ((I4 3 1) : Int32).toInt = (I 3 1).toInt := e25; have yb : ((I 3 1) : Int32).toInt = (I 3 1).toInt := rfl; omega)) w50 (by have ya : ((I38 3 1) : Int32).toInt = (I 3 1).toInt := e58; have yb : ((I4 3 1) : Int32).toInt = (I 3 1).toInt := e25; omega)) (RM.kp hR0 (RM.kp hR0 hRM ⟨w17, w18, (fun j _ => congrFun w19.1 j)⟩) ⟨w51, w52, (fun j _ => congrFun w53 j)⟩) trivial (W9.kp hR0 (W9.kp hR0 hW9 w20 w19.1 w17.2) w54 w53 w51.2) (FQ9.kp (FQ9.kp hFR w22 w21) w55 w56)
set_option maxHeartbeats 2000000 in
theorem lc_12 {Q : Nat → Qt} {P : Kt} {L : Nat} {xs : Nat → Int32} (hc : Cl (AM 640) false true L xs 2 112 kL_law Q P) (hL : L ≤ 3584) {v3 : Int32} {I : Im} {J : Jm} {R : Rm} (hB0 : Bd I) (hR0 : RI R) (hF0 : Fl R) (hL0 : (I 3 1).toInt = (I 97 8).toInt) (hL1 : (I 1 13).toInt = (I 97 23).toInt) (hL2 : RT I) (hL3 : J 47 0 = 0) (hR3 : R3 I J) (hRM : RM I J R) (hFQ : True) (hW9 : W9 I R) (hFR : FQ9 J) (h0 : 0 ≤ v3.toInt) (h7 : v3.toInt + 7 ≤ (L : Int)) (hN : ∀ (I : Im) (J : Jm) (R : Rm), Bd I → RI R → Fl R → RLk I J → R3 I J → RM I J R → True → W9 I R → FQ9 J → P 1890 112 [(0, .ref 0), (1, .ref 1), (2, .ref 97), (3, .int v3)] [] I J R) : P 651 112 [(0, .ref 0), (1, .ref 1), (2, .ref 97), (3, .int v3)] [] I J R := by
  have i_v3 := i32 v3
  have e97 : I 97 8 = nI (fl I) := (Int32.toInt_inj.mp hL0).symm.trans (fl_bd hB0).1
  have b31 := Bd.o hB0 (show isO 112 3 6 = true from rfl) (show bnd 6 1 = some _ from rfl)
  refine ls_651 hc v3 _ _ _ ?_
  have e1 : ((v3 + 1) : Int32).toInt = (v3.toInt) + (1) := ti_add rfl rfl (by omega)
  refine ⟨vp_of (a := (v3.toInt + 1)) e1 (by omega) (by omega), ?_⟩
  have z2 := i32 (xs (Int32.toNatClampNeg (v3 + 1)))
  refine ⟨⟨hF0, rfl⟩, ?_⟩
  refine kp7 rfl hR0 rfl (kpA rfl (kpnm rfl hR0 rfl (kp102 rfl hR0 rfl (kpX9 rfl rfl (kpFm rfl (kpFc rfl (kp6 rfl hR0 rfl (kp4 rfl (kp5 rfl hR0 rfl (kp0 rfl (kp1 rfl (kp2 rfl (kp3 rfl (sp_X11_store hB0 hR0 (fun x3 y8 I4 J5 hB6 p7 kq12 kq11 kq10 kq9 k14 k13 k15 w22 w21 w20 w19 w18 w17 w16 => ?_)))))))))))))))
  have i23 := i32 x3
  have b24 := Bd.o hB0 (show isO 112 3 6 = true from rfl) (show bnd 6 1 = some _ from rfl)
  have e25 : ((I4 3 1) : Int32).toInt = (I 3 1).toInt := Eq.trans (congrArg Int32.toInt kq9) rfl
  have kz26 : ((I4 3 1) : Int32).toInt = (I 3 1).toInt := e25
  have b27 := Bd.o hB0 (show isO 112 97 12 = true from rfl) (show bnd 12 8 = some _ from rfl)
  have e28 : ((I4 97 8) : Int32).toInt = (I 97 8).toInt := Eq.trans (congrArg Int32.toInt kq10) rfl
  have kz29 : ((I4 97 8) : Int32).toInt = (I 97 8).toInt := e28
  have b30 := Bd.o hB0 (show isO 112 1 11 = true from rfl) (show bnd 11 13 = some _ from rfl)
  have e31 : ((I4 1 13) : Int32).toInt = (I 1 13).toInt := Eq.trans (congrArg Int32.toInt kq11) rfl
  have kz32 : ((I4 1 13) : Int32).toInt = (I 1 13).toInt := e31
  have b33 := Bd.o hB0 (show isO 112 97 12 = true from rfl) (show bnd 12 23 = some _ from rfl)
  have e34 : ((I4 97 23) : Int32).toInt = (I 97 23).toInt := Eq.trans (congrArg Int32.toInt kq12) rfl
  have kz35 : ((I4 97 23) : Int32).toInt = (I 97 23).toInt := e34
  refine ⟨vp_of (a := (v3.toInt + 1)) e1 (by omega) (by omega), ?_⟩
  have z36 := i32 (xs (Int32.toNatClampNeg (v3 + 1)))
  refine ⟨⟨hF0, rfl⟩, ?_⟩
  refine kp7 rfl hR0 rfl (kpA rfl (kpnm rfl hR0 rfl (kti rfl (kpW9 rfl hR0 rfl (kpFc rfl (kpFm rfl (kp6 rfl hR0 rfl (kp4 rfl (kp5 rfl hR0 rfl (kp0 rfl (kp1 rfl (kp2 rfl (kp3 rfl (sp_X12_store hB6 hR0 (fun x37 y42 I38 J39 hB40 p41 kq46 kq45 kq44 kq43 k48 k47 k49 w56 w55 w54 w53 w52 w51 w50 => ?_)))))))))))))))
  have i57 := i32 x37
  have e58 : ((I38 3 1) : Int32).toInt = (I 3 1).toInt := Eq.trans (congrArg Int32.toInt (Eq.trans kq43 kq9)) rfl
  have kz59 : ((I38 3 1) : Int32).toInt = (I 3 1).toInt := e58
  have e60 : ((I38 97 8) : Int32).toInt = (I 97 8).toInt := Eq.trans (congrArg Int32.toInt (Eq.trans kq44 kq10)) rfl
  have kz61 : ((I38 97 8) : Int32).toInt = (I 97 8).toInt := e60
  have e62 : ((I38 1 13) : Int32).toInt = (I 1 13).toInt := Eq.trans (congrArg Int32.toInt (Eq.trans kq45 kq11)) rfl
  have kz63 : ((I38 1 13) : Int32).toInt = (I 1 13).toInt := e62
  have e64 : ((I38 97 23) : Int32).toInt = (I 97 23).toInt := Eq.trans (congrArg Int32.toInt (Eq.trans kq46 kq12)) rfl
  have kz65 : ((I38 97 23) : Int32).toInt = (I 97 23).toInt := e64
  exact hN _ _ R hB40 hR0 hF0 ⟨(Eq.trans (e58) (Eq.trans hL0 (Eq.symm (e60)))), (Eq.trans (e62) (Eq.trans hL1 (Eq.symm (e64)))), (RT.kp (RT.kp hL2 k13 k14) k47 k48), ((congrFun k49 0).trans ((congrFun k15 0).trans hL3))⟩ (R3.kp (R3.kp hR3 w16 (by have ya : ((I4 3 1) : Int32).toInt = (I 3 1).toInt := e25; have yb : ((I 3 1) : Int32).toInt = (I 3 1).toInt := rfl; omega)) w50 (by have ya : ((I38 3 1) : Int32).toInt = (I 3 1).toInt := e58; have yb : ((I4 3 1) : Int32).toInt = (I 3 1).toInt := e25; omega)) (RM.kp hR0 (RM.kp hR0 hRM ⟨w17, w18, (fun j _ => congrFun w19.1 j)⟩) ⟨w51, w52, (fun j _ => congrFun w53 j)⟩) trivial (W9.kp hR0 (W9.kp hR0 hW9 w20 w19.1 w17.2) w54 w53 w51.2) (FQ9.kp (FQ9.kp hFR w22 w21) w55 w56)
set_option maxHeartbeats 2000000 in
theorem lc_13 {Q : Nat → Qt} {P : Kt} {L : Nat} {xs : Nat → Int32} (hc : Cl (AM 640) false true L xs 2 112 kL_law Q P) (hL : L ≤ 3584) {v3 : Int32} {I : Im} {J : Jm} {R : Rm} (hB0 : Bd I) (hR0 : RI R) (hF0 : Fl R) (hL0 : (I 3 1).toInt = (I 97 8).toInt) (hL1 : (I 1 13).toInt = (I 97 23).toInt) (hL2 : RT I) (hL3 : J 47 0 = 0) (hR3 : R3 I J) (hRM : RM I J R) (hFQ : True) (hW9 : W9 I R) (hFR : FQ9 J) (h0 : 0 ≤ v3.toInt) (h7 : v3.toInt + 7 ≤ (L : Int)) (hN : ∀ (I : Im) (J : Jm) (R : Rm), Bd I → RI R → Fl R → RLk I J → R3 I J → RM I J R → True → W9 I R → FQ9 J → P 1890 112 [(0, .ref 0), (1, .ref 1), (2, .ref 97), (3, .int v3)] [] I J R) : P 674 112 [(0, .ref 0), (1, .ref 1), (2, .ref 97), (3, .int v3)] [] I J R := by
  have i_v3 := i32 v3
  have e97 : I 97 8 = nI (fl I) := (Int32.toInt_inj.mp hL0).symm.trans (fl_bd hB0).1
  have b31 := Bd.o hB0 (show isO 112 3 6 = true from rfl) (show bnd 6 1 = some _ from rfl)
  refine ls_674 hc v3 _ _ _ ?_
  have e1 : ((v3 + 1) : Int32).toInt = (v3.toInt) + (1) := ti_add rfl rfl (by omega)
  refine ⟨vp_of (a := (v3.toInt + 1)) e1 (by omega) (by omega), ?_⟩
  have z2 := i32 (xs (Int32.toNatClampNeg (v3 + 1)))
  have e3 : ((v3 + 2) : Int32).toInt = (v3.toInt) + (2) := ti_add rfl rfl (by omega)
  refine ⟨vp_of (a := (v3.toInt + 2)) e3 (by omega) (by omega), ?_⟩
  have z4 := i32 (xs (Int32.toNatClampNeg (v3 + 2)))
  refine ⟨⟨hF0, rfl⟩, ?_⟩
  refine kp7 rfl hR0 rfl (kpA rfl (kpnm rfl hR0 rfl (kp102 rfl hR0 rfl (kpX9 rfl rfl (kpFm rfl (kpFc rfl (kp6 rfl hR0 rfl (kp4 rfl (kp5 rfl hR0 rfl (kp0 rfl (kp1 rfl (kp2 rfl (kp3 rfl (sp_X11_man hB0 hR0 (fun x5 y10 I6 J7 hB8 p9 kq14 kq13 kq12 kq11 k16 k15 k17 w24 w23 w22 w21 w20 w19 w18 => ?_)))))))))))))))
  have i25 := i32 x5
  have b26 := Bd.o hB0 (show isO 112 3 6 = true from rfl) (show bnd 6 1 = some _ from rfl)
  have e27 : ((I6 3 1) : Int32).toInt = (I 3 1).toInt := Eq.trans (congrArg Int32.toInt kq11) rfl
  have kz28 : ((I6 3 1) : Int32).toInt = (I 3 1).toInt := e27
  have b29 := Bd.o hB0 (show isO 112 97 12 = true from rfl) (show bnd 12 8 = some _ from rfl)
  have e30 : ((I6 97 8) : Int32).toInt = (I 97 8).toInt := Eq.trans (congrArg Int32.toInt kq12) rfl
  have kz31 : ((I6 97 8) : Int32).toInt = (I 97 8).toInt := e30
  have b32 := Bd.o hB0 (show isO 112 1 11 = true from rfl) (show bnd 11 13 = some _ from rfl)
  have e33 : ((I6 1 13) : Int32).toInt = (I 1 13).toInt := Eq.trans (congrArg Int32.toInt kq13) rfl
  have kz34 : ((I6 1 13) : Int32).toInt = (I 1 13).toInt := e33
  have b35 := Bd.o hB0 (show isO 112 97 12 = true from rfl) (show bnd 12 23 = some _ from rfl)
  have e36 : ((I6 97 23) : Int32).toInt = (I 97 23).toInt := Eq.trans (congrArg Int32.toInt kq14) rfl
  have kz37 : ((I6 97 23) : Int32).toInt = (I 97 23).toInt := e36
  refine ⟨vp_of (a := (v3.toInt + 1)) e1 (by omega) (by omega), ?_⟩
  have z38 := i32 (xs (Int32.toNatClampNeg (v3 + 1)))
  refine ⟨vp_of (a := (v3.toInt + 2)) e3 (by omega) (by omega), ?_⟩
  have z39 := i32 (xs (Int32.toNatClampNeg (v3 + 2)))
  refine ⟨⟨hF0, rfl⟩, ?_⟩
  refine kp7 rfl hR0 rfl (kpA rfl (kpnm rfl hR0 rfl (kti rfl (kpW9 rfl hR0 rfl (kpFc rfl (kpFm rfl (kp6 rfl hR0 rfl (kp4 rfl (kp5 rfl hR0 rfl (kp0 rfl (kp1 rfl (kp2 rfl (kp3 rfl (sp_X12_man hB8 hR0 (fun x40 y45 I41 J42 hB43 p44 kq49 kq48 kq47 kq46 k51 k50 k52 w59 w58 w57 w56 w55 w54 w53 => ?_)))))))))))))))
  have i60 := i32 x40
  have e61 : ((I41 3 1) : Int32).toInt = (I 3 1).toInt := Eq.trans (congrArg Int32.toInt (Eq.trans kq46 kq11)) rfl
  have kz62 : ((I41 3 1) : Int32).toInt = (I 3 1).toInt := e61
  have e63 : ((I41 97 8) : Int32).toInt = (I 97 8).toInt := Eq.trans (congrArg Int32.toInt (Eq.trans kq47 kq12)) rfl
  have kz64 : ((I41 97 8) : Int32).toInt = (I 97 8).toInt := e63
  have e65 : ((I41 1 13) : Int32).toInt = (I 1 13).toInt := Eq.trans (congrArg Int32.toInt (Eq.trans kq48 kq13)) rfl
  have kz66 : ((I41 1 13) : Int32).toInt = (I 1 13).toInt := e65
  have e67 : ((I41 97 23) : Int32).toInt = (I 97 23).toInt := Eq.trans (congrArg Int32.toInt (Eq.trans kq49 kq14)) rfl
  have kz68 : ((I41 97 23) : Int32).toInt = (I 97 23).toInt := e67
  exact hN _ _ R hB43 hR0 hF0 ⟨(Eq.trans (e61) (Eq.trans hL0 (Eq.symm (e63)))), (Eq.trans (e65) (Eq.trans hL1 (Eq.symm (e67)))), (RT.kp (RT.kp hL2 k15 k16) k50 k51), ((congrFun k52 0).trans ((congrFun k17 0).trans hL3))⟩ (R3.kp (R3.kp hR3 w18 (by have ya : ((I6 3 1) : Int32).toInt = (I 3 1).toInt := e27; have yb : ((I 3 1) : Int32).toInt = (I 3 1).toInt := rfl; omega)) w53 (by have ya : ((I41 3 1) : Int32).toInt = (I 3 1).toInt := e61; have yb : ((I6 3 1) : Int32).toInt = (I 3 1).toInt := e27; omega)) (RM.kp hR0 (RM.kp hR0 hRM ⟨w19, w20, (fun j _ => congrFun w21.1 j)⟩) ⟨w54, w55, (fun j _ => congrFun w56 j)⟩) trivial (W9.kp hR0 (W9.kp hR0 hW9 w22 w21.1 w19.2) w57 w56 w54.2) (FQ9.kp (FQ9.kp hFR w24 w23) w58 w59)
set_option maxHeartbeats 2000000 in
theorem lc_14 {Q : Nat → Qt} {P : Kt} {L : Nat} {xs : Nat → Int32} (hc : Cl (AM 640) false true L xs 2 112 kL_law Q P) (hL : L ≤ 3584) {v3 : Int32} {I : Im} {J : Jm} {R : Rm} (hB0 : Bd I) (hR0 : RI R) (hF0 : Fl R) (hL0 : (I 3 1).toInt = (I 97 8).toInt) (hL1 : (I 1 13).toInt = (I 97 23).toInt) (hL2 : RT I) (hL3 : J 47 0 = 0) (hR3 : R3 I J) (hRM : RM I J R) (hFQ : True) (hW9 : W9 I R) (hFR : FQ9 J) (h0 : 0 ≤ v3.toInt) (h7 : v3.toInt + 7 ≤ (L : Int)) (hN : ∀ (I : Im) (J : Jm) (R : Rm), Bd I → RI R → Fl R → RLk I J → R3 I J → RM I J R → True → W9 I R → FQ9 J → P 1890 112 [(0, .ref 0), (1, .ref 1), (2, .ref 97), (3, .int v3)] [] I J R) : P 707 112 [(0, .ref 0), (1, .ref 1), (2, .ref 97), (3, .int v3)] [] I J R := by
  have i_v3 := i32 v3
  have e97 : I 97 8 = nI (fl I) := (Int32.toInt_inj.mp hL0).symm.trans (fl_bd hB0).1
  have b31 := Bd.o hB0 (show isO 112 3 6 = true from rfl) (show bnd 6 1 = some _ from rfl)
  refine ls_707 hc v3 _ _ _ ?_
  have e1 : ((v3 + 1) : Int32).toInt = (v3.toInt) + (1) := ti_add rfl rfl (by omega)
  refine ⟨vp_of (a := (v3.toInt + 1)) e1 (by omega) (by omega), ?_⟩
  have z2 := i32 (xs (Int32.toNatClampNeg (v3 + 1)))
  refine ⟨⟨hF0, rfl⟩, ?_⟩
  refine kp7 rfl hR0 rfl (kpA rfl (kpnm rfl hR0 rfl (kp102 rfl hR0 rfl (kpW9 rfl hR0 rfl (kpFm rfl (kx (cf_has hB0 hR0 hRM.1.1 hW9) (kp6 rfl hR0 rfl (kp4 rfl (kp5 rfl hR0 rfl (kp0 rfl (kp1 rfl (kp2 rfl (kp3 rfl (sp_X11_has hB0 hR0 (fun x3 y8 I4 J5 hB6 p7 kq12 kq11 kq10 kq9 k14 k13 k15 w22 w21 w20 w19 w18 w17 w16 => ?_)))))))))))))))
  intro o23
  have i24 := i32 x3
  have b25 := Bd.o hB0 (show isO 112 3 6 = true from rfl) (show bnd 6 1 = some _ from rfl)
  have e26 : ((I4 3 1) : Int32).toInt = (I 3 1).toInt := Eq.trans (congrArg Int32.toInt kq9) rfl
  have kz27 : ((I4 3 1) : Int32).toInt = (I 3 1).toInt := e26
  have b28 := Bd.o hB0 (show isO 112 97 12 = true from rfl) (show bnd 12 8 = some _ from rfl)
  have e29 : ((I4 97 8) : Int32).toInt = (I 97 8).toInt := Eq.trans (congrArg Int32.toInt kq10) rfl
  have kz30 : ((I4 97 8) : Int32).toInt = (I 97 8).toInt := e29
  have b31 := Bd.o hB0 (show isO 112 1 11 = true from rfl) (show bnd 11 13 = some _ from rfl)
  have e32 : ((I4 1 13) : Int32).toInt = (I 1 13).toInt := Eq.trans (congrArg Int32.toInt kq11) rfl
  have kz33 : ((I4 1 13) : Int32).toInt = (I 1 13).toInt := e32
  have b34 := Bd.o hB0 (show isO 112 97 12 = true from rfl) (show bnd 12 23 = some _ from rfl)
  have e35 : ((I4 97 23) : Int32).toInt = (I 97 23).toInt := Eq.trans (congrArg Int32.toInt kq12) rfl
  have kz36 : ((I4 97 23) : Int32).toInt = (I 97 23).toInt := e35
  refine ⟨vp_of (a := (v3.toInt + 1)) e1 (by omega) (by omega), ?_⟩
  have z37 := i32 (xs (Int32.toNatClampNeg (v3 + 1)))
  refine ⟨⟨hF0, rfl⟩, ?_⟩
  refine kp7 rfl hR0 rfl (kpA rfl (kpnm rfl hR0 rfl (kti rfl (kpW9 rfl hR0 rfl (kpFc rfl (kx (mf_has hB6 w19.1 hW9) (kp6 rfl hR0 rfl (kp4 rfl (kp5 rfl hR0 rfl (kp0 rfl (kp1 rfl (kp2 rfl (kp3 rfl (sp_X12_has hB6 hR0 (fun x38 y43 I39 J40 hB41 p42 kq47 kq46 kq45 kq44 k49 k48 k50 w57 w56 w55 w54 w53 w52 w51 => ?_)))))))))))))))
  intro o58
  have i59 := i32 x38
  have e60 : ((I39 3 1) : Int32).toInt = (I 3 1).toInt := Eq.trans (congrArg Int32.toInt (Eq.trans kq44 kq9)) rfl
  have kz61 : ((I39 3 1) : Int32).toInt = (I 3 1).toInt := e60
  have e62 : ((I39 97 8) : Int32).toInt = (I 97 8).toInt := Eq.trans (congrArg Int32.toInt (Eq.trans kq45 kq10)) rfl
  have kz63 : ((I39 97 8) : Int32).toInt = (I 97 8).toInt := e62
  have e64 : ((I39 1 13) : Int32).toInt = (I 1 13).toInt := Eq.trans (congrArg Int32.toInt (Eq.trans kq46 kq11)) rfl
  have kz65 : ((I39 1 13) : Int32).toInt = (I 1 13).toInt := e64
  have e66 : ((I39 97 23) : Int32).toInt = (I 97 23).toInt := Eq.trans (congrArg Int32.toInt (Eq.trans kq47 kq12)) rfl
  have kz67 : ((I39 97 23) : Int32).toInt = (I 97 23).toInt := e66
  exact hN _ _ R hB41 hR0 hF0 ⟨(Eq.trans (e60) (Eq.trans hL0 (Eq.symm (e62)))), (Eq.trans (e64) (Eq.trans hL1 (Eq.symm (e66)))), (RT.kp (RT.kp hL2 k13 k14) k48 k49), ((congrFun k50 0).trans ((congrFun k15 0).trans hL3))⟩ (R3.kp (R3.kp hR3 w16 (by have ya : ((I4 3 1) : Int32).toInt = (I 3 1).toInt := e26; have yb : ((I 3 1) : Int32).toInt = (I 3 1).toInt := rfl; omega)) w51 (by have ya : ((I39 3 1) : Int32).toInt = (I 3 1).toInt := e60; have yb : ((I4 3 1) : Int32).toInt = (I 3 1).toInt := e26; omega)) (RM.kp hR0 (RM.kp hR0 hRM ⟨w17, w18, (fun j _ => congrFun w19.1 j)⟩) ⟨w52, w53, (fun j _ => congrFun w54 j)⟩) trivial (W9.kp hR0 (W9.kp hR0 hW9 w20 w19.1 w17.2) w55 w54 w52.2) (FQ9.two hFR w22 w21 w57 w56)
set_option maxHeartbeats 2000000 in
theorem lc_15 {Q : Nat → Qt} {P : Kt} {L : Nat} {xs : Nat → Int32} (hc : Cl (AM 640) false true L xs 2 112 kL_law Q P) (hL : L ≤ 3584) {v3 : Int32} {I : Im} {J : Jm} {R : Rm} (hB0 : Bd I) (hR0 : RI R) (hF0 : Fl R) (hL0 : (I 3 1).toInt = (I 97 8).toInt) (hL1 : (I 1 13).toInt = (I 97 23).toInt) (hL2 : RT I) (hL3 : J 47 0 = 0) (hR3 : R3 I J) (hRM : RM I J R) (hFQ : True) (hW9 : W9 I R) (hFR : FQ9 J) (h0 : 0 ≤ v3.toInt) (h7 : v3.toInt + 7 ≤ (L : Int)) (hN : ∀ (I : Im) (J : Jm) (R : Rm), Bd I → RI R → Fl R → RLk I J → R3 I J → RM I J R → True → W9 I R → FQ9 J → P 1890 112 [(0, .ref 0), (1, .ref 1), (2, .ref 97), (3, .int v3)] [] I J R) : P 730 112 [(0, .ref 0), (1, .ref 1), (2, .ref 97), (3, .int v3)] [] I J R := by
  have i_v3 := i32 v3
  have e97 : I 97 8 = nI (fl I) := (Int32.toInt_inj.mp hL0).symm.trans (fl_bd hB0).1
  have b31 := Bd.o hB0 (show isO 112 3 6 = true from rfl) (show bnd 6 1 = some _ from rfl)
  refine ls_730 hc v3 _ _ _ ?_
  have e1 : ((v3 + 1) : Int32).toInt = (v3.toInt) + (1) := ti_add rfl rfl (by omega)
  refine ⟨vp_of (a := (v3.toInt + 1)) e1 (by omega) (by omega), ?_⟩
  have z2 := i32 (xs (Int32.toNatClampNeg (v3 + 1)))
  refine ⟨⟨hF0, rfl⟩, ?_⟩
  refine kp7 rfl hR0 rfl (kpA rfl (kpnm rfl hR0 rfl (kp102 rfl hR0 rfl (kpW9 rfl hR0 rfl (kpFm rfl (kx (cf_lacks hB0 hR0 hRM.1.1 hW9) (kp6 rfl hR0 rfl (kp4 rfl (kp5 rfl hR0 rfl (kp0 rfl (kp1 rfl (kp2 rfl (kp3 rfl (sp_X11_lacks hB0 hR0 (fun x3 y8 I4 J5 hB6 p7 kq12 kq11 kq10 kq9 k14 k13 k15 w22 w21 w20 w19 w18 w17 w16 => ?_)))))))))))))))
  intro o23
  have i24 := i32 x3
  have b25 := Bd.o hB0 (show isO 112 3 6 = true from rfl) (show bnd 6 1 = some _ from rfl)
  have e26 : ((I4 3 1) : Int32).toInt = (I 3 1).toInt := Eq.trans (congrArg Int32.toInt kq9) rfl
  have kz27 : ((I4 3 1) : Int32).toInt = (I 3 1).toInt := e26
  have b28 := Bd.o hB0 (show isO 112 97 12 = true from rfl) (show bnd 12 8 = some _ from rfl)
  have e29 : ((I4 97 8) : Int32).toInt = (I 97 8).toInt := Eq.trans (congrArg Int32.toInt kq10) rfl
  have kz30 : ((I4 97 8) : Int32).toInt = (I 97 8).toInt := e29
  have b31 := Bd.o hB0 (show isO 112 1 11 = true from rfl) (show bnd 11 13 = some _ from rfl)
  have e32 : ((I4 1 13) : Int32).toInt = (I 1 13).toInt := Eq.trans (congrArg Int32.toInt kq11) rfl
  have kz33 : ((I4 1 13) : Int32).toInt = (I 1 13).toInt := e32
  have b34 := Bd.o hB0 (show isO 112 97 12 = true from rfl) (show bnd 12 23 = some _ from rfl)
  have e35 : ((I4 97 23) : Int32).toInt = (I 97 23).toInt := Eq.trans (congrArg Int32.toInt kq12) rfl
  have kz36 : ((I4 97 23) : Int32).toInt = (I 97 23).toInt := e35
  refine ⟨vp_of (a := (v3.toInt + 1)) e1 (by omega) (by omega), ?_⟩
  have z37 := i32 (xs (Int32.toNatClampNeg (v3 + 1)))
  refine ⟨⟨hF0, rfl⟩, ?_⟩
  refine kp7 rfl hR0 rfl (kpA rfl (kpnm rfl hR0 rfl (kp102 rfl hR0 rfl (kpW9 rfl hR0 rfl (kpFc rfl (kx (mf_lacks hB6 w19.1 hW9) (kp6 rfl hR0 rfl (kp4 rfl (kp5 rfl hR0 rfl (kp0 rfl (kp1 rfl (kp2 rfl (kp3 rfl (sp_X12_lacks hB6 hR0 (fun x38 y43 I39 J40 hB41 p42 kq47 kq46 kq45 kq44 k49 k48 k50 w57 w56 w55 w54 w53 w52 w51 => ?_)))))))))))))))
  intro o58
  have i59 := i32 x38
  have e60 : ((I39 3 1) : Int32).toInt = (I 3 1).toInt := Eq.trans (congrArg Int32.toInt (Eq.trans kq44 kq9)) rfl
  have kz61 : ((I39 3 1) : Int32).toInt = (I 3 1).toInt := e60
  have e62 : ((I39 97 8) : Int32).toInt = (I 97 8).toInt := Eq.trans (congrArg Int32.toInt (Eq.trans kq45 kq10)) rfl
  have kz63 : ((I39 97 8) : Int32).toInt = (I 97 8).toInt := e62
  have e64 : ((I39 1 13) : Int32).toInt = (I 1 13).toInt := Eq.trans (congrArg Int32.toInt (Eq.trans kq46 kq11)) rfl
  have kz65 : ((I39 1 13) : Int32).toInt = (I 1 13).toInt := e64
  have e66 : ((I39 97 23) : Int32).toInt = (I 97 23).toInt := Eq.trans (congrArg Int32.toInt (Eq.trans kq47 kq12)) rfl
  have kz67 : ((I39 97 23) : Int32).toInt = (I 97 23).toInt := e66
  exact hN _ _ R hB41 hR0 hF0 ⟨(Eq.trans (e60) (Eq.trans hL0 (Eq.symm (e62)))), (Eq.trans (e64) (Eq.trans hL1 (Eq.symm (e66)))), (RT.kp (RT.kp hL2 k13 k14) k48 k49), ((congrFun k50 0).trans ((congrFun k15 0).trans hL3))⟩ (R3.kp (R3.kp hR3 w16 (by have ya : ((I4 3 1) : Int32).toInt = (I 3 1).toInt := e26; have yb : ((I 3 1) : Int32).toInt = (I 3 1).toInt := rfl; omega)) w51 (by have ya : ((I39 3 1) : Int32).toInt = (I 3 1).toInt := e60; have yb : ((I4 3 1) : Int32).toInt = (I 3 1).toInt := e26; omega)) (RM.kp hR0 (RM.kp hR0 hRM ⟨w17, w18, (fun j _ => congrFun w19.1 j)⟩) ⟨w52, w53, (fun j _ => congrFun w54.1 j)⟩) trivial (W9.kp hR0 (W9.kp hR0 hW9 w20 w19.1 w17.2) w55 w54.1 w52.2) (FQ9.two hFR w22 w21 w57 w56)
set_option maxHeartbeats 2000000 in
theorem lc_16 {Q : Nat → Qt} {P : Kt} {L : Nat} {xs : Nat → Int32} (hc : Cl (AM 640) false true L xs 2 112 kL_law Q P) (hL : L ≤ 3584) {v3 : Int32} {I : Im} {J : Jm} {R : Rm} (hB0 : Bd I) (hR0 : RI R) (hF0 : Fl R) (hL0 : (I 3 1).toInt = (I 97 8).toInt) (hL1 : (I 1 13).toInt = (I 97 23).toInt) (hL2 : RT I) (hL3 : J 47 0 = 0) (hR3 : R3 I J) (hRM : RM I J R) (hFQ : True) (hW9 : W9 I R) (hFR : FQ9 J) (h0 : 0 ≤ v3.toInt) (h7 : v3.toInt + 7 ≤ (L : Int)) (hN : ∀ (I : Im) (J : Jm) (R : Rm), Bd I → RI R → Fl R → RLk I J → R3 I J → RM I J R → True → W9 I R → FQ9 J → P 1890 112 [(0, .ref 0), (1, .ref 1), (2, .ref 97), (3, .int v3)] [] I J R) : P 753 112 [(0, .ref 0), (1, .ref 1), (2, .ref 97), (3, .int v3)] [] I J R := by
  have i_v3 := i32 v3
  have e97 : I 97 8 = nI (fl I) := (Int32.toInt_inj.mp hL0).symm.trans (fl_bd hB0).1
  have b31 := Bd.o hB0 (show isO 112 3 6 = true from rfl) (show bnd 6 1 = some _ from rfl)
  refine ls_753 hc v3 _ _ _ ?_
  refine ⟨⟨hF0, rfl⟩, ?_⟩
  refine kp7 rfl hR0 rfl (kpA rfl (kpnm rfl hR0 rfl (kp102 rfl hR0 rfl (kpW9 rfl hR0 rfl (kpFm rfl (kx (cf_worth hR0 hW9) (kp6 rfl hR0 rfl (kp4 rfl (kp5 rfl hR0 rfl (kp0 rfl (kp1 rfl (kp2 rfl (kp3 rfl (sp_X11_worth hB0 hR0 (fun x1 y6 I2 J3 hB4 p5 kq10 kq9 kq8 kq7 k12 k11 k13 w20 w19 w18 w17 w16 w15 w14 => ?_)))))))))))))))
  intro o21
  have i22 := i32 x1
  have b23 := Bd.o hB0 (show isO 112 3 6 = true from rfl) (show bnd 6 1 = some _ from rfl)
  have e24 : ((I2 3 1) : Int32).toInt = (I 3 1).toInt := Eq.trans (congrArg Int32.toInt kq7) rfl
  have kz25 : ((I2 3 1) : Int32).toInt = (I 3 1).toInt := e24
  have b26 := Bd.o hB0 (show isO 112 97 12 = true from rfl) (show bnd 12 8 = some _ from rfl)
  have e27 : ((I2 97 8) : Int32).toInt = (I 97 8).toInt := Eq.trans (congrArg Int32.toInt kq8) rfl
  have kz28 : ((I2 97 8) : Int32).toInt = (I 97 8).toInt := e27
  have b29 := Bd.o hB0 (show isO 112 1 11 = true from rfl) (show bnd 11 13 = some _ from rfl)
  have e30 : ((I2 1 13) : Int32).toInt = (I 1 13).toInt := Eq.trans (congrArg Int32.toInt kq9) rfl
  have kz31 : ((I2 1 13) : Int32).toInt = (I 1 13).toInt := e30
  have b32 := Bd.o hB0 (show isO 112 97 12 = true from rfl) (show bnd 12 23 = some _ from rfl)
  have e33 : ((I2 97 23) : Int32).toInt = (I 97 23).toInt := Eq.trans (congrArg Int32.toInt kq10) rfl
  have kz34 : ((I2 97 23) : Int32).toInt = (I 97 23).toInt := e33
  refine ⟨⟨hF0, rfl⟩, ?_⟩
  refine kp7 rfl hR0 rfl (kpA rfl (kpnm rfl hR0 rfl (kti rfl (kpW9 rfl hR0 rfl (kpFc rfl (kx (mf_worth w17.1 hW9) (kp6 rfl hR0 rfl (kp4 rfl (kp5 rfl hR0 rfl (kp0 rfl (kp1 rfl (kp2 rfl (kp3 rfl (sp_X12_worth hB4 hR0 (fun x35 y40 I36 J37 hB38 p39 kq44 kq43 kq42 kq41 k46 k45 k47 w54 w53 w52 w51 w50 w49 w48 => ?_)))))))))))))))
  intro o55
  have i56 := i32 x35
  have e57 : ((I36 3 1) : Int32).toInt = (I 3 1).toInt := Eq.trans (congrArg Int32.toInt (Eq.trans kq41 kq7)) rfl
  have kz58 : ((I36 3 1) : Int32).toInt = (I 3 1).toInt := e57
  have e59 : ((I36 97 8) : Int32).toInt = (I 97 8).toInt := Eq.trans (congrArg Int32.toInt (Eq.trans kq42 kq8)) rfl
  have kz60 : ((I36 97 8) : Int32).toInt = (I 97 8).toInt := e59
  have e61 : ((I36 1 13) : Int32).toInt = (I 1 13).toInt := Eq.trans (congrArg Int32.toInt (Eq.trans kq43 kq9)) rfl
  have kz62 : ((I36 1 13) : Int32).toInt = (I 1 13).toInt := e61
  have e63 : ((I36 97 23) : Int32).toInt = (I 97 23).toInt := Eq.trans (congrArg Int32.toInt (Eq.trans kq44 kq10)) rfl
  have kz64 : ((I36 97 23) : Int32).toInt = (I 97 23).toInt := e63
  exact hN _ _ R hB38 hR0 hF0 ⟨(Eq.trans (e57) (Eq.trans hL0 (Eq.symm (e59)))), (Eq.trans (e61) (Eq.trans hL1 (Eq.symm (e63)))), (RT.kp (RT.kp hL2 k11 k12) k45 k46), ((congrFun k47 0).trans ((congrFun k13 0).trans hL3))⟩ (R3.kp (R3.kp hR3 w14 (by have ya : ((I2 3 1) : Int32).toInt = (I 3 1).toInt := e24; have yb : ((I 3 1) : Int32).toInt = (I 3 1).toInt := rfl; omega)) w48 (by have ya : ((I36 3 1) : Int32).toInt = (I 3 1).toInt := e57; have yb : ((I2 3 1) : Int32).toInt = (I 3 1).toInt := e24; omega)) (RM.kp hR0 (RM.kp hR0 hRM ⟨w15, w16, (fun j _ => congrFun w17.1 j)⟩) ⟨w49, w50, (fun j _ => congrFun w51 j)⟩) trivial (W9.kp hR0 (W9.kp hR0 hW9 w18 w17.1 w15.2) w52 w51 w49.2) (FQ9.two hFR w20 w19 w54 w53)
set_option maxHeartbeats 2000000 in
theorem lc_17 {Q : Nat → Qt} {P : Kt} {L : Nat} {xs : Nat → Int32} (hc : Cl (AM 640) false true L xs 2 112 kL_law Q P) (hL : L ≤ 3584) {v3 : Int32} {I : Im} {J : Jm} {R : Rm} (hB0 : Bd I) (hR0 : RI R) (hF0 : Fl R) (hL0 : (I 3 1).toInt = (I 97 8).toInt) (hL1 : (I 1 13).toInt = (I 97 23).toInt) (hL2 : RT I) (hL3 : J 47 0 = 0) (hR3 : R3 I J) (hRM : RM I J R) (hFQ : True) (hW9 : W9 I R) (hFR : FQ9 J) (h0 : 0 ≤ v3.toInt) (h7 : v3.toInt + 7 ≤ (L : Int)) (hN : ∀ (I : Im) (J : Jm) (R : Rm), Bd I → RI R → Fl R → RLk I J → R3 I J → RM I J R → True → W9 I R → FQ9 J → P 1890 112 [(0, .ref 0), (1, .ref 1), (2, .ref 97), (3, .int v3)] [] I J R) : P 766 112 [(0, .ref 0), (1, .ref 1), (2, .ref 97), (3, .int v3)] [] I J R := by
  have i_v3 := i32 v3
  have e97 : I 97 8 = nI (fl I) := (Int32.toInt_inj.mp hL0).symm.trans (fl_bd hB0).1
  have b31 := Bd.o hB0 (show isO 112 3 6 = true from rfl) (show bnd 6 1 = some _ from rfl)
  refine ls_766 hc v3 _ _ _ ?_
  have e1 : ((v3 + 1) : Int32).toInt = (v3.toInt) + (1) := ti_add rfl rfl (by omega)
  refine ⟨vp_of (a := (v3.toInt + 1)) e1 (by omega) (by omega), ?_⟩
  have z2 := i32 (xs (Int32.toNatClampNeg (v3 + 1)))
  have e3 : ((v3 + 2) : Int32).toInt = (v3.toInt) + (2) := ti_add rfl rfl (by omega)
  refine ⟨vp_of (a := (v3.toInt + 2)) e3 (by omega) (by omega), ?_⟩
  have z4 := i32 (xs (Int32.toNatClampNeg (v3 + 2)))
  refine ⟨⟨hF0, rfl⟩, ?_⟩
  refine kp7 rfl hR0 rfl (kpA rfl (kpnm rfl hR0 rfl (kp102 rfl hR0 rfl (kpX9 rfl rfl (kpFm rfl (kpFc rfl (kp6 rfl hR0 rfl (kp4 rfl (kp5 rfl hR0 rfl (kp0 rfl (kp1 rfl (kp2 rfl (kp3 rfl (sp_X11_copyStore hB0 hR0 (fun x5 y10 I6 J7 hB8 p9 kq14 kq13 kq12 kq11 k16 k15 k17 w24 w23 w22 w21 w20 w19 w18 => ?_)))))))))))))))
  have i25 := i32 x5
  have b26 := Bd.o hB0 (show isO 112 3 6 = true from rfl) (show bnd 6 1 = some _ from rfl)
  have e27 : ((I6 3 1) : Int32).toInt = (I 3 1).toInt := Eq.trans (congrArg Int32.toInt kq11) rfl
  have kz28 : ((I6 3 1) : Int32).toInt = (I 3 1).toInt := e27
  have b29 := Bd.o hB0 (show isO 112 97 12 = true from rfl) (show bnd 12 8 = some _ from rfl)
  have e30 : ((I6 97 8) : Int32).toInt = (I 97 8).toInt := Eq.trans (congrArg Int32.toInt kq12) rfl
  have kz31 : ((I6 97 8) : Int32).toInt = (I 97 8).toInt := e30
  have b32 := Bd.o hB0 (show isO 112 1 11 = true from rfl) (show bnd 11 13 = some _ from rfl)
  have e33 : ((I6 1 13) : Int32).toInt = (I 1 13).toInt := Eq.trans (congrArg Int32.toInt kq13) rfl
  have kz34 : ((I6 1 13) : Int32).toInt = (I 1 13).toInt := e33
  have b35 := Bd.o hB0 (show isO 112 97 12 = true from rfl) (show bnd 12 23 = some _ from rfl)
  have e36 : ((I6 97 23) : Int32).toInt = (I 97 23).toInt := Eq.trans (congrArg Int32.toInt kq14) rfl
  have kz37 : ((I6 97 23) : Int32).toInt = (I 97 23).toInt := e36
  have hw38 : 0 ≤ ((xs (Int32.toNatClampNeg (v3 + 1))) : Int32).toInt → ((xs (Int32.toNatClampNeg (v3 + 1))) : Int32).toInt ≤ 3 → (I (R 2 (Int32.toNatClampNeg (xs (Int32.toNatClampNeg (v3 + 1))))) 1).toInt = (I6 99 (Int32.toNatClampNeg (xs (Int32.toNatClampNeg (v3 + 1))))).toInt := fun a b => RT.a1 hL2 hR0 k16 a b
  refine ⟨vp_of (a := (v3.toInt + 1)) e1 (by omega) (by omega), ?_⟩
  have z39 := i32 (xs (Int32.toNatClampNeg (v3 + 1)))
  refine ⟨vp_of (a := (v3.toInt + 2)) e3 (by omega) (by omega), ?_⟩
  have z40 := i32 (xs (Int32.toNatClampNeg (v3 + 2)))
  refine ⟨⟨hF0, rfl⟩, ?_⟩
  refine kp7 rfl hR0 rfl (kpA rfl (kpnm rfl hR0 rfl (kti rfl (kpW9 rfl hR0 rfl (kpFc rfl (kpFm rfl (kp6 rfl hR0 rfl (kp4 rfl (kp0 rfl (kp1 rfl (kp2 rfl (kp3 rfl (sp_X12_copyStore hB8 hR0 (fun x41 y46 I42 J43 hB44 p45 kq50 kq49 kq48 kq47 k51 k52 w59 w58 w57 w56 w55 w54 w53 => ?_))))))))))))))
  have i60 := i32 x41
  have e61 : ((I42 3 1) : Int32).toInt = (I 3 1).toInt := Eq.trans (congrArg Int32.toInt (Eq.trans kq47 kq11)) rfl
  have kz62 : ((I42 3 1) : Int32).toInt = (I 3 1).toInt := e61
  have e63 : ((I42 97 8) : Int32).toInt = (I 97 8).toInt := Eq.trans (congrArg Int32.toInt (Eq.trans kq48 kq12)) rfl
  have kz64 : ((I42 97 8) : Int32).toInt = (I 97 8).toInt := e63
  have e65 : ((I42 1 13) : Int32).toInt = (I 1 13).toInt := Eq.trans (congrArg Int32.toInt (Eq.trans kq49 kq13)) rfl
  have kz66 : ((I42 1 13) : Int32).toInt = (I 1 13).toInt := e65
  have e67 : ((I42 97 23) : Int32).toInt = (I 97 23).toInt := Eq.trans (congrArg Int32.toInt (Eq.trans kq50 kq14)) rfl
  have kz68 : ((I42 97 23) : Int32).toInt = (I 97 23).toInt := e67
  exact hN _ _ R hB44 hR0 hF0 ⟨(Eq.trans (e61) (Eq.trans hL0 (Eq.symm (e63)))), (Eq.trans (e65) (Eq.trans hL1 (Eq.symm (e67)))), (RT.kp (RT.kp hL2 k15 k16) k51 (p45.2)), ((congrFun k52 0).trans ((congrFun k17 0).trans hL3))⟩ (R3.kp (R3.kp hR3 w18 (by have ya : ((I6 3 1) : Int32).toInt = (I 3 1).toInt := e27; have yb : ((I 3 1) : Int32).toInt = (I 3 1).toInt := rfl; omega)) w53 (by have ya : ((I42 3 1) : Int32).toInt = (I 3 1).toInt := e61; have yb : ((I6 3 1) : Int32).toInt = (I 3 1).toInt := e27; omega)) (RM.kp hR0 (RM.kp hR0 hRM ⟨w19, w20, (fun j _ => congrFun w21.1 j)⟩) ⟨w54, w55, (fun j _ => congrFun w56 j)⟩) trivial (W9.kp hR0 (W9.kp hR0 hW9 w22 w21.1 w19.2) w57 w56 w54.2) (FQ9.kp (FQ9.kp hFR w24 w23) w58 w59)
set_option maxHeartbeats 2000000 in
theorem lc_18 {Q : Nat → Qt} {P : Kt} {L : Nat} {xs : Nat → Int32} (hc : Cl (AM 640) false true L xs 2 112 kL_law Q P) (hL : L ≤ 3584) {v3 : Int32} {I : Im} {J : Jm} {R : Rm} (hB0 : Bd I) (hR0 : RI R) (hF0 : Fl R) (hL0 : (I 3 1).toInt = (I 97 8).toInt) (hL1 : (I 1 13).toInt = (I 97 23).toInt) (hL2 : RT I) (hL3 : J 47 0 = 0) (hR3 : R3 I J) (hRM : RM I J R) (hFQ : True) (hW9 : W9 I R) (hFR : FQ9 J) (h0 : 0 ≤ v3.toInt) (h7 : v3.toInt + 7 ≤ (L : Int)) (hN : ∀ (I : Im) (J : Jm) (R : Rm), Bd I → RI R → Fl R → RLk I J → R3 I J → RM I J R → True → W9 I R → FQ9 J → P 1890 112 [(0, .ref 0), (1, .ref 1), (2, .ref 97), (3, .int v3)] [] I J R) : P 799 112 [(0, .ref 0), (1, .ref 1), (2, .ref 97), (3, .int v3)] [] I J R := by
  have i_v3 := i32 v3
  have e97 : I 97 8 = nI (fl I) := (Int32.toInt_inj.mp hL0).symm.trans (fl_bd hB0).1
  have b31 := Bd.o hB0 (show isO 112 3 6 = true from rfl) (show bnd 6 1 = some _ from rfl)
  refine ls_799 hc v3 _ _ _ ?_
  have e1 : ((v3 + 1) : Int32).toInt = (v3.toInt) + (1) := ti_add rfl rfl (by omega)
  refine ⟨vp_of (a := (v3.toInt + 1)) e1 (by omega) (by omega), ?_⟩
  have z2 := i32 (xs (Int32.toNatClampNeg (v3 + 1)))
  refine ⟨⟨hF0, rfl⟩, ?_⟩
  refine kp7 rfl hR0 rfl (kpA rfl (kpnm rfl hR0 rfl (kp102 rfl hR0 rfl (kx (cx_bake9 hR0 (W9.hs hW9)) (kpFm rfl (kpFc rfl (kp6 rfl hR0 rfl (kp4 rfl (kp5 rfl hR0 rfl (kp0 rfl (kp1 rfl (kp2 rfl (kp3 rfl (sp_X11_bake hB0 hR0 (fun x3 y8 I4 J5 hB6 p7 kq12 kq11 kq10 kq9 k14 k13 k15 w22 w21 w20 w19 w18 w17 w16 => ?_)))))))))))))))
  have i23 := i32 x3
  have b24 := Bd.o hB0 (show isO 112 3 6 = true from rfl) (show bnd 6 1 = some _ from rfl)
  have e25 : ((I4 3 1) : Int32).toInt = (I 3 1).toInt := Eq.trans (congrArg Int32.toInt kq9) rfl
  have kz26 : ((I4 3 1) : Int32).toInt = (I 3 1).toInt := e25
  have b27 := Bd.o hB0 (show isO 112 97 12 = true from rfl) (show bnd 12 8 = some _ from rfl)
  have e28 : ((I4 97 8) : Int32).toInt = (I 97 8).toInt := Eq.trans (congrArg Int32.toInt kq10) rfl
  have kz29 : ((I4 97 8) : Int32).toInt = (I 97 8).toInt := e28
  have b30 := Bd.o hB0 (show isO 112 1 11 = true from rfl) (show bnd 11 13 = some _ from rfl)
  have e31 : ((I4 1 13) : Int32).toInt = (I 1 13).toInt := Eq.trans (congrArg Int32.toInt kq11) rfl
  have kz32 : ((I4 1 13) : Int32).toInt = (I 1 13).toInt := e31
  have b33 := Bd.o hB0 (show isO 112 97 12 = true from rfl) (show bnd 12 23 = some _ from rfl)
  have e34 : ((I4 97 23) : Int32).toInt = (I 97 23).toInt := Eq.trans (congrArg Int32.toInt kq12) rfl
  have kz35 : ((I4 97 23) : Int32).toInt = (I 97 23).toInt := e34
  refine ⟨vp_of (a := (v3.toInt + 1)) e1 (by omega) (by omega), ?_⟩
  have z36 := i32 (xs (Int32.toNatClampNeg (v3 + 1)))
  refine ⟨⟨hF0, rfl⟩, ?_⟩
  refine kp7 rfl hR0 rfl (kpA rfl (kpnm rfl hR0 rfl (kx (mx_bake9 (now_9 hR0) w20.2.1) (kpFc rfl (kpFm rfl (kp6 rfl hR0 rfl (kp4 rfl (kp5 rfl hR0 rfl (kp0 rfl (kp1 rfl (kp2 rfl (kp3 rfl (sp_X12_bake hB6 hR0 (fun x37 y42 I38 J39 hB40 p41 kq46 kq45 kq44 kq43 k48 k47 k49 w55 w54 w53 w52 w51 w50 => ?_))))))))))))))
  have f56 : Fr pK I4 I38 := p41
  have i57 := i32 x37
  have e58 : ((I38 3 1) : Int32).toInt = (I 3 1).toInt := Eq.trans (congrArg Int32.toInt (Eq.trans kq43 kq9)) rfl
  have kz59 : ((I38 3 1) : Int32).toInt = (I 3 1).toInt := e58
  have e60 : ((I38 97 8) : Int32).toInt = (I 97 8).toInt := Eq.trans (congrArg Int32.toInt (Eq.trans kq44 kq10)) rfl
  have kz61 : ((I38 97 8) : Int32).toInt = (I 97 8).toInt := e60
  have e62 : ((I38 1 13) : Int32).toInt = (I 1 13).toInt := Eq.trans (congrArg Int32.toInt (Eq.trans kq45 kq11)) rfl
  have kz63 : ((I38 1 13) : Int32).toInt = (I 1 13).toInt := e62
  have e64 : ((I38 97 23) : Int32).toInt = (I 97 23).toInt := Eq.trans (congrArg Int32.toInt (Eq.trans kq46 kq12)) rfl
  have kz65 : ((I38 97 23) : Int32).toInt = (I 97 23).toInt := e64
  have hg66 : (x37 : Int32).toInt = (x3 : Int32).toInt := congrArg Int32.toInt (w53.1.trans w20.1.symm)
  exact hN _ _ R hB40 hR0 hF0 ⟨(Eq.trans (e58) (Eq.trans hL0 (Eq.symm (e60)))), (Eq.trans (e62) (Eq.trans hL1 (Eq.symm (e64)))), (RT.kp (RT.kp hL2 k13 k14) k47 k48), ((congrFun k49 0).trans ((congrFun k15 0).trans hL3))⟩ (R3.kp (R3.kp hR3 w16 (by have ya : ((I4 3 1) : Int32).toInt = (I 3 1).toInt := e25; have yb : ((I 3 1) : Int32).toInt = (I 3 1).toInt := rfl; omega)) w50 (by have ya : ((I38 3 1) : Int32).toInt = (I 3 1).toInt := e58; have yb : ((I4 3 1) : Int32).toInt = (I 3 1).toInt := e25; omega)) (RM.kp hR0 (RM.kp hR0 hRM ⟨w17, w18, (fun j _ => congrFun w19.1 j)⟩) ⟨w51, w52, (fun j hj => f56.1 j hj)⟩) trivial (W9.two hR0 hW9 w20.2.2 w53.2.2 w53.2.1) (FQ9.kp (FQ9.kp hFR w22 w21) w54 w55)
set_option maxHeartbeats 2000000 in
theorem lc_19 {Q : Nat → Qt} {P : Kt} {L : Nat} {xs : Nat → Int32} (hc : Cl (AM 640) false true L xs 2 112 kL_law Q P) (hL : L ≤ 3584) {v3 : Int32} {I : Im} {J : Jm} {R : Rm} (hB0 : Bd I) (hR0 : RI R) (hF0 : Fl R) (hL0 : (I 3 1).toInt = (I 97 8).toInt) (hL1 : (I 1 13).toInt = (I 97 23).toInt) (hL2 : RT I) (hL3 : J 47 0 = 0) (hR3 : R3 I J) (hRM : RM I J R) (hFQ : True) (hW9 : W9 I R) (hFR : FQ9 J) (h0 : 0 ≤ v3.toInt) (h7 : v3.toInt + 7 ≤ (L : Int)) (hN : ∀ (I : Im) (J : Jm) (R : Rm), Bd I → RI R → Fl R → RLk I J → R3 I J → RM I J R → True → W9 I R → FQ9 J → P 1890 112 [(0, .ref 0), (1, .ref 1), (2, .ref 97), (3, .int v3)] [] I J R) : P 822 112 [(0, .ref 0), (1, .ref 1), (2, .ref 97), (3, .int v3)] [] I J R := by
  have i_v3 := i32 v3
  have e97 : I 97 8 = nI (fl I) := (Int32.toInt_inj.mp hL0).symm.trans (fl_bd hB0).1
  have b31 := Bd.o hB0 (show isO 112 3 6 = true from rfl) (show bnd 6 1 = some _ from rfl)
  refine ls_822 hc v3 _ _ _ ?_
  have e1 : ((v3 + 1) : Int32).toInt = (v3.toInt) + (1) := ti_add rfl rfl (by omega)
  refine ⟨vp_of (a := (v3.toInt + 1)) e1 (by omega) (by omega), ?_⟩
  have z2 := i32 (xs (Int32.toNatClampNeg (v3 + 1)))
  have e3 : ((v3 + 2) : Int32).toInt = (v3.toInt) + (2) := ti_add rfl rfl (by omega)
  refine ⟨vp_of (a := (v3.toInt + 2)) e3 (by omega) (by omega), ?_⟩
  have z4 := i32 (xs (Int32.toNatClampNeg (v3 + 2)))
  have e5 : ((v3 + 3) : Int32).toInt = (v3.toInt) + (3) := ti_add rfl rfl (by omega)
  refine ⟨vp_of (a := (v3.toInt + 3)) e5 (by omega) (by omega), ?_⟩
  have z6 := i32 (xs (Int32.toNatClampNeg (v3 + 3)))
  refine ⟨⟨hF0, rfl⟩, ?_⟩
  refine kp7 rfl hR0 rfl (kpA rfl (kpnm rfl hR0 rfl (kp102 rfl hR0 rfl (kx (cx_cut9 hR0 (W9.hs hW9)) (kpFm rfl (kpFc rfl (kp6 rfl hR0 rfl (kp4 rfl (kp5 rfl hR0 rfl (kp0 rfl (kp1 rfl (kp2 rfl (kp3 rfl (sp_X11_cut hB0 hR0 (fun x7 y12 I8 J9 hB10 p11 kq16 kq15 kq14 kq13 k18 k17 k19 w26 w25 w24 w23 w22 w21 w20 => ?_)))))))))))))))
  have i27 := i32 x7
  have b28 := Bd.o hB0 (show isO 112 3 6 = true from rfl) (show bnd 6 1 = some _ from rfl)
  have e29 : ((I8 3 1) : Int32).toInt = (I 3 1).toInt := Eq.trans (congrArg Int32.toInt kq13) rfl
  have kz30 : ((I8 3 1) : Int32).toInt = (I 3 1).toInt := e29
  have b31 := Bd.o hB0 (show isO 112 97 12 = true from rfl) (show bnd 12 8 = some _ from rfl)
  have e32 : ((I8 97 8) : Int32).toInt = (I 97 8).toInt := Eq.trans (congrArg Int32.toInt kq14) rfl
  have kz33 : ((I8 97 8) : Int32).toInt = (I 97 8).toInt := e32
  have b34 := Bd.o hB0 (show isO 112 1 11 = true from rfl) (show bnd 11 13 = some _ from rfl)
  have e35 : ((I8 1 13) : Int32).toInt = (I 1 13).toInt := Eq.trans (congrArg Int32.toInt kq15) rfl
  have kz36 : ((I8 1 13) : Int32).toInt = (I 1 13).toInt := e35
  have b37 := Bd.o hB0 (show isO 112 97 12 = true from rfl) (show bnd 12 23 = some _ from rfl)
  have e38 : ((I8 97 23) : Int32).toInt = (I 97 23).toInt := Eq.trans (congrArg Int32.toInt kq16) rfl
  have kz39 : ((I8 97 23) : Int32).toInt = (I 97 23).toInt := e38
  refine ⟨vp_of (a := (v3.toInt + 1)) e1 (by omega) (by omega), ?_⟩
  have z40 := i32 (xs (Int32.toNatClampNeg (v3 + 1)))
  refine ⟨vp_of (a := (v3.toInt + 2)) e3 (by omega) (by omega), ?_⟩
  have z41 := i32 (xs (Int32.toNatClampNeg (v3 + 2)))
  refine ⟨vp_of (a := (v3.toInt + 3)) e5 (by omega) (by omega), ?_⟩
  have z42 := i32 (xs (Int32.toNatClampNeg (v3 + 3)))
  refine ⟨⟨hF0, rfl⟩, ?_⟩
  refine kp7 rfl hR0 rfl (kpA rfl (kpnm rfl hR0 rfl (kx (mx_cut9 (now_9 hR0) w24.2.1) (kpFc rfl (kpFm rfl (kp6 rfl hR0 rfl (kp4 rfl (kp5 rfl hR0 rfl (kp0 rfl (kp1 rfl (kp2 rfl (kp3 rfl (sp_X12_cut hB10 hR0 (fun x43 y48 I44 J45 hB46 p47 kq52 kq51 kq50 kq49 k54 k53 k55 w61 w60 w59 w58 w57 w56 => ?_))))))))))))))
  have f62 : Fr pK I8 I44 := p47
  have i63 := i32 x43
  have e64 : ((I44 3 1) : Int32).toInt = (I 3 1).toInt := Eq.trans (congrArg Int32.toInt (Eq.trans kq49 kq13)) rfl
  have kz65 : ((I44 3 1) : Int32).toInt = (I 3 1).toInt := e64
  have e66 : ((I44 97 8) : Int32).toInt = (I 97 8).toInt := Eq.trans (congrArg Int32.toInt (Eq.trans kq50 kq14)) rfl
  have kz67 : ((I44 97 8) : Int32).toInt = (I 97 8).toInt := e66
  have e68 : ((I44 1 13) : Int32).toInt = (I 1 13).toInt := Eq.trans (congrArg Int32.toInt (Eq.trans kq51 kq15)) rfl
  have kz69 : ((I44 1 13) : Int32).toInt = (I 1 13).toInt := e68
  have e70 : ((I44 97 23) : Int32).toInt = (I 97 23).toInt := Eq.trans (congrArg Int32.toInt (Eq.trans kq52 kq16)) rfl
  have kz71 : ((I44 97 23) : Int32).toInt = (I 97 23).toInt := e70
  have hg72 : (x43 : Int32).toInt = (x7 : Int32).toInt := congrArg Int32.toInt (w59.1.trans w24.1.symm)
  exact hN _ _ R hB46 hR0 hF0 ⟨(Eq.trans (e64) (Eq.trans hL0 (Eq.symm (e66)))), (Eq.trans (e68) (Eq.trans hL1 (Eq.symm (e70)))), (RT.kp (RT.kp hL2 k17 k18) k53 k54), ((congrFun k55 0).trans ((congrFun k19 0).trans hL3))⟩ (R3.kp (R3.kp hR3 w20 (by have ya : ((I8 3 1) : Int32).toInt = (I 3 1).toInt := e29; have yb : ((I 3 1) : Int32).toInt = (I 3 1).toInt := rfl; omega)) w56 (by have ya : ((I44 3 1) : Int32).toInt = (I 3 1).toInt := e64; have yb : ((I8 3 1) : Int32).toInt = (I 3 1).toInt := e29; omega)) (RM.kp hR0 (RM.kp hR0 hRM ⟨w21, w22, (fun j _ => congrFun w23.1 j)⟩) ⟨w57, w58, (fun j hj => f62.1 j hj)⟩) trivial (W9.two hR0 hW9 w24.2.2 w59.2.2 w59.2.1) (FQ9.kp (FQ9.kp hFR w26 w25) w60 w61)
set_option maxHeartbeats 2000000 in
theorem lc_20 {Q : Nat → Qt} {P : Kt} {L : Nat} {xs : Nat → Int32} (hc : Cl (AM 640) false true L xs 2 112 kL_law Q P) (hL : L ≤ 3584) {v3 : Int32} {I : Im} {J : Jm} {R : Rm} (hB0 : Bd I) (hR0 : RI R) (hF0 : Fl R) (hL0 : (I 3 1).toInt = (I 97 8).toInt) (hL1 : (I 1 13).toInt = (I 97 23).toInt) (hL2 : RT I) (hL3 : J 47 0 = 0) (hR3 : R3 I J) (hRM : RM I J R) (hFQ : True) (hW9 : W9 I R) (hFR : FQ9 J) (h0 : 0 ≤ v3.toInt) (h7 : v3.toInt + 7 ≤ (L : Int)) (hN : ∀ (I : Im) (J : Jm) (R : Rm), Bd I → RI R → Fl R → RLk I J → R3 I J → RM I J R → True → W9 I R → FQ9 J → P 1890 112 [(0, .ref 0), (1, .ref 1), (2, .ref 97), (3, .int v3)] [] I J R) : P 865 112 [(0, .ref 0), (1, .ref 1), (2, .ref 97), (3, .int v3)] [] I J R := by
  have i_v3 := i32 v3
  have e97 : I 97 8 = nI (fl I) := (Int32.toInt_inj.mp hL0).symm.trans (fl_bd hB0).1
  have b31 := Bd.o hB0 (show isO 112 3 6 = true from rfl) (show bnd 6 1 = some _ from rfl)
  refine ls_865 hc v3 _ _ _ ?_
  have e1 : ((v3 + 1) : Int32).toInt = (v3.toInt) + (1) := ti_add rfl rfl (by omega)
  refine ⟨vp_of (a := (v3.toInt + 1)) e1 (by omega) (by omega), ?_⟩
  have z2 := i32 (xs (Int32.toNatClampNeg (v3 + 1)))
  have e3 : ((v3 + 2) : Int32).toInt = (v3.toInt) + (2) := ti_add rfl rfl (by omega)
  refine ⟨vp_of (a := (v3.toInt + 2)) e3 (by omega) (by omega), ?_⟩
  have z4 := i32 (xs (Int32.toNatClampNeg (v3 + 2)))
  refine ⟨⟨hF0, rfl⟩, ?_⟩
  refine kp7 rfl hR0 rfl (kpA rfl (kpnm rfl hR0 rfl (kp102 rfl hR0 rfl (kx (cx_split9 hR0 (W9.hs hW9)) (kpFm rfl (kpFc rfl (kp6 rfl hR0 rfl (kp4 rfl (kp5 rfl hR0 rfl (kp0 rfl (kp1 rfl (kp2 rfl (kp3 rfl (sp_X11_split hB0 hR0 (fun x5 y10 I6 J7 hB8 p9 kq14 kq13 kq12 kq11 k16 k15 k17 w24 w23 w22 w21 w20 w19 w18 => ?_)))))))))))))))
  have i25 := i32 x5
  have b26 := Bd.o hB0 (show isO 112 3 6 = true from rfl) (show bnd 6 1 = some _ from rfl)
  have e27 : ((I6 3 1) : Int32).toInt = (I 3 1).toInt := Eq.trans (congrArg Int32.toInt kq11) rfl
  have kz28 : ((I6 3 1) : Int32).toInt = (I 3 1).toInt := e27
  have b29 := Bd.o hB0 (show isO 112 97 12 = true from rfl) (show bnd 12 8 = some _ from rfl)
  have e30 : ((I6 97 8) : Int32).toInt = (I 97 8).toInt := Eq.trans (congrArg Int32.toInt kq12) rfl
  have kz31 : ((I6 97 8) : Int32).toInt = (I 97 8).toInt := e30
  have b32 := Bd.o hB0 (show isO 112 1 11 = true from rfl) (show bnd 11 13 = some _ from rfl)
  have e33 : ((I6 1 13) : Int32).toInt = (I 1 13).toInt := Eq.trans (congrArg Int32.toInt kq13) rfl
  have kz34 : ((I6 1 13) : Int32).toInt = (I 1 13).toInt := e33
  have b35 := Bd.o hB0 (show isO 112 97 12 = true from rfl) (show bnd 12 23 = some _ from rfl)
  have e36 : ((I6 97 23) : Int32).toInt = (I 97 23).toInt := Eq.trans (congrArg Int32.toInt kq14) rfl
  have kz37 : ((I6 97 23) : Int32).toInt = (I 97 23).toInt := e36
  refine ⟨vp_of (a := (v3.toInt + 1)) e1 (by omega) (by omega), ?_⟩
  have z38 := i32 (xs (Int32.toNatClampNeg (v3 + 1)))
  refine ⟨vp_of (a := (v3.toInt + 2)) e3 (by omega) (by omega), ?_⟩
  have z39 := i32 (xs (Int32.toNatClampNeg (v3 + 2)))
  refine ⟨⟨hF0, rfl⟩, ?_⟩
  refine kp7 rfl hR0 rfl (kpA rfl (kpnm rfl hR0 rfl (kx (mx_split9 (now_9 hR0) w22.2.1) (kpFc rfl (kpFm rfl (kp6 rfl hR0 rfl (kp4 rfl (kp5 rfl hR0 rfl (kp0 rfl (kp1 rfl (kp2 rfl (kp3 rfl (sp_X12_split hB8 hR0 (fun x40 y45 I41 J42 hB43 p44 kq49 kq48 kq47 kq46 k51 k50 k52 w58 w57 w56 w55 w54 w53 => ?_))))))))))))))
  have f59 : Fr pK I6 I41 := p44
  have i60 := i32 x40
  have e61 : ((I41 3 1) : Int32).toInt = (I 3 1).toInt := Eq.trans (congrArg Int32.toInt (Eq.trans kq46 kq11)) rfl
  have kz62 : ((I41 3 1) : Int32).toInt = (I 3 1).toInt := e61
  have e63 : ((I41 97 8) : Int32).toInt = (I 97 8).toInt := Eq.trans (congrArg Int32.toInt (Eq.trans kq47 kq12)) rfl
  have kz64 : ((I41 97 8) : Int32).toInt = (I 97 8).toInt := e63
  have e65 : ((I41 1 13) : Int32).toInt = (I 1 13).toInt := Eq.trans (congrArg Int32.toInt (Eq.trans kq48 kq13)) rfl
  have kz66 : ((I41 1 13) : Int32).toInt = (I 1 13).toInt := e65
  have e67 : ((I41 97 23) : Int32).toInt = (I 97 23).toInt := Eq.trans (congrArg Int32.toInt (Eq.trans kq49 kq14)) rfl
  have kz68 : ((I41 97 23) : Int32).toInt = (I 97 23).toInt := e67
  have hg69 : (x40 : Int32).toInt = (x5 : Int32).toInt := congrArg Int32.toInt (w56.1.trans w22.1.symm)
  exact hN _ _ R hB43 hR0 hF0 ⟨(Eq.trans (e61) (Eq.trans hL0 (Eq.symm (e63)))), (Eq.trans (e65) (Eq.trans hL1 (Eq.symm (e67)))), (RT.kp (RT.kp hL2 k15 k16) k50 k51), ((congrFun k52 0).trans ((congrFun k17 0).trans hL3))⟩ (R3.kp (R3.kp hR3 w18 (by have ya : ((I6 3 1) : Int32).toInt = (I 3 1).toInt := e27; have yb : ((I 3 1) : Int32).toInt = (I 3 1).toInt := rfl; omega)) w53 (by have ya : ((I41 3 1) : Int32).toInt = (I 3 1).toInt := e61; have yb : ((I6 3 1) : Int32).toInt = (I 3 1).toInt := e27; omega)) (RM.kp hR0 (RM.kp hR0 hRM ⟨w19, w20, (fun j _ => congrFun w21.1 j)⟩) ⟨w54, w55, (fun j hj => f59.1 j hj)⟩) trivial (W9.two hR0 hW9 w22.2.2 w56.2.2 w56.2.1) (FQ9.kp (FQ9.kp hFR w24 w23) w57 w58)
set_option maxHeartbeats 2000000 in
theorem lc_21 {Q : Nat → Qt} {P : Kt} {L : Nat} {xs : Nat → Int32} (hc : Cl (AM 640) false true L xs 2 112 kL_law Q P) (hL : L ≤ 3584) {v3 : Int32} {I : Im} {J : Jm} {R : Rm} (hB0 : Bd I) (hR0 : RI R) (hF0 : Fl R) (hL0 : (I 3 1).toInt = (I 97 8).toInt) (hL1 : (I 1 13).toInt = (I 97 23).toInt) (hL2 : RT I) (hL3 : J 47 0 = 0) (hR3 : R3 I J) (hRM : RM I J R) (hFQ : True) (hW9 : W9 I R) (hFR : FQ9 J) (h0 : 0 ≤ v3.toInt) (h7 : v3.toInt + 7 ≤ (L : Int)) (hN : ∀ (I : Im) (J : Jm) (R : Rm), Bd I → RI R → Fl R → RLk I J → R3 I J → RM I J R → True → W9 I R → FQ9 J → P 1890 112 [(0, .ref 0), (1, .ref 1), (2, .ref 97), (3, .int v3)] [] I J R) : P 898 112 [(0, .ref 0), (1, .ref 1), (2, .ref 97), (3, .int v3)] [] I J R := by
  have i_v3 := i32 v3
  have e97 : I 97 8 = nI (fl I) := (Int32.toInt_inj.mp hL0).symm.trans (fl_bd hB0).1
  have b31 := Bd.o hB0 (show isO 112 3 6 = true from rfl) (show bnd 6 1 = some _ from rfl)
  refine ls_898 hc v3 _ _ _ ?_
  have e1 : ((v3 + 1) : Int32).toInt = (v3.toInt) + (1) := ti_add rfl rfl (by omega)
  refine ⟨vp_of (a := (v3.toInt + 1)) e1 (by omega) (by omega), ?_⟩
  have z2 := i32 (xs (Int32.toNatClampNeg (v3 + 1)))
  have e3 : ((v3 + 2) : Int32).toInt = (v3.toInt) + (2) := ti_add rfl rfl (by omega)
  refine ⟨vp_of (a := (v3.toInt + 2)) e3 (by omega) (by omega), ?_⟩
  have z4 := i32 (xs (Int32.toNatClampNeg (v3 + 2)))
  refine ⟨⟨hF0, rfl⟩, ?_⟩
  refine kp7 rfl hR0 rfl (kpA rfl (kpnm rfl hR0 rfl (kp102 rfl hR0 rfl (kx (cx_give9 hR0 hRM.1.1 (W9.mm hW9) (W9.hs hW9)) (kpFm rfl (kpFc rfl (kp6 rfl hR0 rfl (kp4 rfl (kp5 rfl hR0 rfl (kp0 rfl (kp1 rfl (kp2 rfl (kp3 rfl (sp_X11_give hB0 hR0 (fun x5 y10 I6 J7 hB8 p9 kq14 kq13 kq12 kq11 k16 k15 k17 w24 w23 w22 w21 w20 w19 w18 => ?_)))))))))))))))
  have i25 := i32 x5
  have b26 := Bd.o hB0 (show isO 112 3 6 = true from rfl) (show bnd 6 1 = some _ from rfl)
  have e27 : ((I6 3 1) : Int32).toInt = (I 3 1).toInt := Eq.trans (congrArg Int32.toInt kq11) rfl
  have kz28 : ((I6 3 1) : Int32).toInt = (I 3 1).toInt := e27
  have b29 := Bd.o hB0 (show isO 112 97 12 = true from rfl) (show bnd 12 8 = some _ from rfl)
  have e30 : ((I6 97 8) : Int32).toInt = (I 97 8).toInt := Eq.trans (congrArg Int32.toInt kq12) rfl
  have kz31 : ((I6 97 8) : Int32).toInt = (I 97 8).toInt := e30
  have b32 := Bd.o hB0 (show isO 112 1 11 = true from rfl) (show bnd 11 13 = some _ from rfl)
  have e33 : ((I6 1 13) : Int32).toInt = (I 1 13).toInt := Eq.trans (congrArg Int32.toInt kq13) rfl
  have kz34 : ((I6 1 13) : Int32).toInt = (I 1 13).toInt := e33
  have b35 := Bd.o hB0 (show isO 112 97 12 = true from rfl) (show bnd 12 23 = some _ from rfl)
  have e36 : ((I6 97 23) : Int32).toInt = (I 97 23).toInt := Eq.trans (congrArg Int32.toInt kq14) rfl
  have kz37 : ((I6 97 23) : Int32).toInt = (I 97 23).toInt := e36
  refine ⟨vp_of (a := (v3.toInt + 1)) e1 (by omega) (by omega), ?_⟩
  have z38 := i32 (xs (Int32.toNatClampNeg (v3 + 1)))
  refine ⟨vp_of (a := (v3.toInt + 2)) e3 (by omega) (by omega), ?_⟩
  have z39 := i32 (xs (Int32.toNatClampNeg (v3 + 2)))
  refine ⟨⟨hF0, rfl⟩, ?_⟩
  refine kp7 rfl hR0 rfl (kpA rfl (kpnm rfl hR0 rfl (kx (mx_give9 (now_9 hR0) (FrCk.z102 (now_9 hR0) w22.2.2) (W9.mm hW9) w22.2.1) (kpFc rfl (kpFm rfl (kp6 rfl hR0 rfl (kp4 rfl (kp5 rfl hR0 rfl (kp0 rfl (kp1 rfl (kp2 rfl (kp3 rfl (sp_X12_give hB8 hR0 (fun x40 y45 I41 J42 hB43 p44 kq49 kq48 kq47 kq46 k51 k50 k52 w58 w57 w56 w55 w54 w53 => ?_))))))))))))))
  have f59 : Fr pK I6 I41 := p44
  have i60 := i32 x40
  have e61 : ((I41 3 1) : Int32).toInt = (I 3 1).toInt := Eq.trans (congrArg Int32.toInt (Eq.trans kq46 kq11)) rfl
  have kz62 : ((I41 3 1) : Int32).toInt = (I 3 1).toInt := e61
  have e63 : ((I41 97 8) : Int32).toInt = (I 97 8).toInt := Eq.trans (congrArg Int32.toInt (Eq.trans kq47 kq12)) rfl
  have kz64 : ((I41 97 8) : Int32).toInt = (I 97 8).toInt := e63
  have e65 : ((I41 1 13) : Int32).toInt = (I 1 13).toInt := Eq.trans (congrArg Int32.toInt (Eq.trans kq48 kq13)) rfl
  have kz66 : ((I41 1 13) : Int32).toInt = (I 1 13).toInt := e65
  have e67 : ((I41 97 23) : Int32).toInt = (I 97 23).toInt := Eq.trans (congrArg Int32.toInt (Eq.trans kq49 kq14)) rfl
  have kz68 : ((I41 97 23) : Int32).toInt = (I 97 23).toInt := e67
  have hg69 : (x40 : Int32).toInt = (x5 : Int32).toInt := congrArg Int32.toInt (w56.1.trans w22.1.symm)
  exact hN _ _ R hB43 hR0 hF0 ⟨(Eq.trans (e61) (Eq.trans hL0 (Eq.symm (e63)))), (Eq.trans (e65) (Eq.trans hL1 (Eq.symm (e67)))), (RT.kp (RT.kp hL2 k15 k16) k50 k51), ((congrFun k52 0).trans ((congrFun k17 0).trans hL3))⟩ (R3.kp (R3.kp hR3 w18 (by have ya : ((I6 3 1) : Int32).toInt = (I 3 1).toInt := e27; have yb : ((I 3 1) : Int32).toInt = (I 3 1).toInt := rfl; omega)) w53 (by have ya : ((I41 3 1) : Int32).toInt = (I 3 1).toInt := e61; have yb : ((I6 3 1) : Int32).toInt = (I 3 1).toInt := e27; omega)) (RM.kp hR0 (RM.kp hR0 hRM ⟨w19, w20, (fun j _ => congrFun w21.1 j)⟩) ⟨w54, w55, (fun j hj => f59.1 j hj)⟩) trivial (W9.two hR0 hW9 w22.2.2 w56.2.2 w56.2.1) (FQ9.kp (FQ9.kp hFR w24 w23) w57 w58)
set_option maxHeartbeats 2000000 in
theorem lc_22 {Q : Nat → Qt} {P : Kt} {L : Nat} {xs : Nat → Int32} (hc : Cl (AM 640) false true L xs 2 112 kL_law Q P) (hL : L ≤ 3584) {v3 : Int32} {I : Im} {J : Jm} {R : Rm} (hB0 : Bd I) (hR0 : RI R) (hF0 : Fl R) (hL0 : (I 3 1).toInt = (I 97 8).toInt) (hL1 : (I 1 13).toInt = (I 97 23).toInt) (hL2 : RT I) (hL3 : J 47 0 = 0) (hR3 : R3 I J) (hRM : RM I J R) (hFQ : True) (hW9 : W9 I R) (hFR : FQ9 J) (h0 : 0 ≤ v3.toInt) (h7 : v3.toInt + 7 ≤ (L : Int)) (hN : ∀ (I : Im) (J : Jm) (R : Rm), Bd I → RI R → Fl R → RLk I J → R3 I J → RM I J R → True → W9 I R → FQ9 J → P 1890 112 [(0, .ref 0), (1, .ref 1), (2, .ref 97), (3, .int v3)] [] I J R) : P 931 112 [(0, .ref 0), (1, .ref 1), (2, .ref 97), (3, .int v3)] [] I J R := by
  have i_v3 := i32 v3
  have e97 : I 97 8 = nI (fl I) := (Int32.toInt_inj.mp hL0).symm.trans (fl_bd hB0).1
  have b31 := Bd.o hB0 (show isO 112 3 6 = true from rfl) (show bnd 6 1 = some _ from rfl)
  refine ls_931 hc v3 _ _ _ ?_
  have e1 : ((v3 + 1) : Int32).toInt = (v3.toInt) + (1) := ti_add rfl rfl (by omega)
  refine ⟨vp_of (a := (v3.toInt + 1)) e1 (by omega) (by omega), ?_⟩
  have z2 := i32 (xs (Int32.toNatClampNeg (v3 + 1)))
  have e3 : ((v3 + 2) : Int32).toInt = (v3.toInt) + (2) := ti_add rfl rfl (by omega)
  refine ⟨vp_of (a := (v3.toInt + 2)) e3 (by omega) (by omega), ?_⟩
  have z4 := i32 (xs (Int32.toNatClampNeg (v3 + 2)))
  refine ⟨⟨hF0, rfl⟩, ?_⟩
  refine kp7 rfl hR0 rfl (kpA rfl (kpnm rfl hR0 rfl (kp102 rfl hR0 rfl (kx (cx_take9 hR0 hRM.1.1 (W9.mm hW9) (W9.hs hW9)) (kpFm rfl (kpFc rfl (kp6 rfl hR0 rfl (kp4 rfl (kp5 rfl hR0 rfl (kp0 rfl (kp1 rfl (kp2 rfl (kp3 rfl (sp_X11_take hB0 hR0 (fun x5 y10 I6 J7 hB8 p9 kq14 kq13 kq12 kq11 k16 k15 k17 w24 w23 w22 w21 w20 w19 w18 => ?_)))))))))))))))
  have i25 := i32 x5
  have b26 := Bd.o hB0 (show isO 112 3 6 = true from rfl) (show bnd 6 1 = some _ from rfl)
  have e27 : ((I6 3 1) : Int32).toInt = (I 3 1).toInt := Eq.trans (congrArg Int32.toInt kq11) rfl
  have kz28 : ((I6 3 1) : Int32).toInt = (I 3 1).toInt := e27
  have b29 := Bd.o hB0 (show isO 112 97 12 = true from rfl) (show bnd 12 8 = some _ from rfl)
  have e30 : ((I6 97 8) : Int32).toInt = (I 97 8).toInt := Eq.trans (congrArg Int32.toInt kq12) rfl
  have kz31 : ((I6 97 8) : Int32).toInt = (I 97 8).toInt := e30
  have b32 := Bd.o hB0 (show isO 112 1 11 = true from rfl) (show bnd 11 13 = some _ from rfl)
  have e33 : ((I6 1 13) : Int32).toInt = (I 1 13).toInt := Eq.trans (congrArg Int32.toInt kq13) rfl
  have kz34 : ((I6 1 13) : Int32).toInt = (I 1 13).toInt := e33
  have b35 := Bd.o hB0 (show isO 112 97 12 = true from rfl) (show bnd 12 23 = some _ from rfl)
  have e36 : ((I6 97 23) : Int32).toInt = (I 97 23).toInt := Eq.trans (congrArg Int32.toInt kq14) rfl
  have kz37 : ((I6 97 23) : Int32).toInt = (I 97 23).toInt := e36
  refine ⟨vp_of (a := (v3.toInt + 1)) e1 (by omega) (by omega), ?_⟩
  have z38 := i32 (xs (Int32.toNatClampNeg (v3 + 1)))
  refine ⟨vp_of (a := (v3.toInt + 2)) e3 (by omega) (by omega), ?_⟩
  have z39 := i32 (xs (Int32.toNatClampNeg (v3 + 2)))
  refine ⟨⟨hF0, rfl⟩, ?_⟩
  refine kp7 rfl hR0 rfl (kpA rfl (kpnm rfl hR0 rfl (kx (mx_take9 (now_9 hR0) (FrCk.z102 (now_9 hR0) w22.2.2) (W9.mm hW9) w22.2.1) (kpFc rfl (kpFm rfl (kp6 rfl hR0 rfl (kp4 rfl (kp5 rfl hR0 rfl (kp0 rfl (kp1 rfl (kp2 rfl (kp3 rfl (sp_X12_take hB8 hR0 (fun x40 y45 I41 J42 hB43 p44 kq49 kq48 kq47 kq46 k51 k50 k52 w58 w57 w56 w55 w54 w53 => ?_))))))))))))))
  have f59 : Fr pK I6 I41 := p44
  have i60 := i32 x40
  have e61 : ((I41 3 1) : Int32).toInt = (I 3 1).toInt := Eq.trans (congrArg Int32.toInt (Eq.trans kq46 kq11)) rfl
  have kz62 : ((I41 3 1) : Int32).toInt = (I 3 1).toInt := e61
  have e63 : ((I41 97 8) : Int32).toInt = (I 97 8).toInt := Eq.trans (congrArg Int32.toInt (Eq.trans kq47 kq12)) rfl
  have kz64 : ((I41 97 8) : Int32).toInt = (I 97 8).toInt := e63
  have e65 : ((I41 1 13) : Int32).toInt = (I 1 13).toInt := Eq.trans (congrArg Int32.toInt (Eq.trans kq48 kq13)) rfl
  have kz66 : ((I41 1 13) : Int32).toInt = (I 1 13).toInt := e65
  have e67 : ((I41 97 23) : Int32).toInt = (I 97 23).toInt := Eq.trans (congrArg Int32.toInt (Eq.trans kq49 kq14)) rfl
  have kz68 : ((I41 97 23) : Int32).toInt = (I 97 23).toInt := e67
  have hg69 : (x40 : Int32).toInt = (x5 : Int32).toInt := congrArg Int32.toInt (w56.1.trans w22.1.symm)
  exact hN _ _ R hB43 hR0 hF0 ⟨(Eq.trans (e61) (Eq.trans hL0 (Eq.symm (e63)))), (Eq.trans (e65) (Eq.trans hL1 (Eq.symm (e67)))), (RT.kp (RT.kp hL2 k15 k16) k50 k51), ((congrFun k52 0).trans ((congrFun k17 0).trans hL3))⟩ (R3.kp (R3.kp hR3 w18 (by have ya : ((I6 3 1) : Int32).toInt = (I 3 1).toInt := e27; have yb : ((I 3 1) : Int32).toInt = (I 3 1).toInt := rfl; omega)) w53 (by have ya : ((I41 3 1) : Int32).toInt = (I 3 1).toInt := e61; have yb : ((I6 3 1) : Int32).toInt = (I 3 1).toInt := e27; omega)) (RM.kp hR0 (RM.kp hR0 hRM ⟨w19, w20, (fun j _ => congrFun w21.1 j)⟩) ⟨w54, w55, (fun j hj => f59.1 j hj)⟩) trivial (W9.two hR0 hW9 w22.2.2 w56.2.2 w56.2.1) (FQ9.kp (FQ9.kp hFR w24 w23) w57 w58)
set_option maxHeartbeats 2000000 in
theorem lc_23 {Q : Nat → Qt} {P : Kt} {L : Nat} {xs : Nat → Int32} (hc : Cl (AM 640) false true L xs 2 112 kL_law Q P) (hL : L ≤ 3584) {v3 : Int32} {I : Im} {J : Jm} {R : Rm} (hB0 : Bd I) (hR0 : RI R) (hF0 : Fl R) (hL0 : (I 3 1).toInt = (I 97 8).toInt) (hL1 : (I 1 13).toInt = (I 97 23).toInt) (hL2 : RT I) (hL3 : J 47 0 = 0) (hR3 : R3 I J) (hRM : RM I J R) (hFQ : True) (hW9 : W9 I R) (hFR : FQ9 J) (h0 : 0 ≤ v3.toInt) (h7 : v3.toInt + 7 ≤ (L : Int)) (hN : ∀ (I : Im) (J : Jm) (R : Rm), Bd I → RI R → Fl R → RLk I J → R3 I J → RM I J R → True → W9 I R → FQ9 J → P 1890 112 [(0, .ref 0), (1, .ref 1), (2, .ref 97), (3, .int v3)] [] I J R) : P 964 112 [(0, .ref 0), (1, .ref 1), (2, .ref 97), (3, .int v3)] [] I J R := by
  have i_v3 := i32 v3
  have e97 : I 97 8 = nI (fl I) := (Int32.toInt_inj.mp hL0).symm.trans (fl_bd hB0).1
  have b31 := Bd.o hB0 (show isO 112 3 6 = true from rfl) (show bnd 6 1 = some _ from rfl)
  refine ls_964 hc v3 _ _ _ ?_
  have e1 : ((v3 + 1) : Int32).toInt = (v3.toInt) + (1) := ti_add rfl rfl (by omega)
  refine ⟨vp_of (a := (v3.toInt + 1)) e1 (by omega) (by omega), ?_⟩
  have z2 := i32 (xs (Int32.toNatClampNeg (v3 + 1)))
  have e3 : ((v3 + 2) : Int32).toInt = (v3.toInt) + (2) := ti_add rfl rfl (by omega)
  refine ⟨vp_of (a := (v3.toInt + 2)) e3 (by omega) (by omega), ?_⟩
  have z4 := i32 (xs (Int32.toNatClampNeg (v3 + 2)))
  have e5 : ((v3 + 3) : Int32).toInt = (v3.toInt) + (3) := ti_add rfl rfl (by omega)
  refine ⟨vp_of (a := (v3.toInt + 3)) e5 (by omega) (by omega), ?_⟩
  have z6 := i32 (xs (Int32.toNatClampNeg (v3 + 3)))
  refine ⟨⟨hF0, rfl⟩, ?_⟩
  refine kp7 rfl hR0 rfl (kpA rfl (kpnm rfl hR0 rfl (kp102 rfl hR0 rfl (kx (cx_owe9 hB0 hR0) (kpFm rfl (kpFc rfl (kp6 rfl hR0 rfl (kp4 rfl (kp5 rfl hR0 rfl (kp0 rfl (kp1 rfl (kp2 rfl (kp3 rfl (sp_X11_owe hB0 hR0 (fun x7 y12 I8 J9 hB10 p11 kq16 kq15 kq14 kq13 k18 k17 k19 w26 w25 w24 w23 w22 w21 w20 => ?_)))))))))))))))
  intro o27
  have i28 := i32 x7
  have b29 := Bd.o hB0 (show isO 112 3 6 = true from rfl) (show bnd 6 1 = some _ from rfl)
  have e30 : ((I8 3 1) : Int32).toInt = (I 3 1).toInt := Eq.trans (congrArg Int32.toInt kq13) rfl
  have kz31 : ((I8 3 1) : Int32).toInt = (I 3 1).toInt := e30
  have b32 := Bd.o hB0 (show isO 112 97 12 = true from rfl) (show bnd 12 8 = some _ from rfl)
  have e33 : ((I8 97 8) : Int32).toInt = (I 97 8).toInt := Eq.trans (congrArg Int32.toInt kq14) rfl
  have kz34 : ((I8 97 8) : Int32).toInt = (I 97 8).toInt := e33
  have b35 := Bd.o hB0 (show isO 112 1 11 = true from rfl) (show bnd 11 13 = some _ from rfl)
  have e36 : ((I8 1 13) : Int32).toInt = (I 1 13).toInt := Eq.trans (congrArg Int32.toInt kq15) rfl
  have kz37 : ((I8 1 13) : Int32).toInt = (I 1 13).toInt := e36
  have b38 := Bd.o hB0 (show isO 112 97 12 = true from rfl) (show bnd 12 23 = some _ from rfl)
  have e39 : ((I8 97 23) : Int32).toInt = (I 97 23).toInt := Eq.trans (congrArg Int32.toInt kq16) rfl
  have kz40 : ((I8 97 23) : Int32).toInt = (I 97 23).toInt := e39
  refine ⟨vp_of (a := (v3.toInt + 1)) e1 (by omega) (by omega), ?_⟩
  have z41 := i32 (xs (Int32.toNatClampNeg (v3 + 1)))
  refine ⟨vp_of (a := (v3.toInt + 2)) e3 (by omega) (by omega), ?_⟩
  have z42 := i32 (xs (Int32.toNatClampNeg (v3 + 2)))
  refine ⟨vp_of (a := (v3.toInt + 3)) e5 (by omega) (by omega), ?_⟩
  have z43 := i32 (xs (Int32.toNatClampNeg (v3 + 3)))
  refine ⟨⟨hF0, rfl⟩, ?_⟩
  refine kp7 rfl hR0 rfl (kpA rfl (kpnm rfl hR0 rfl (kx (mx_owe9 hR0 hRM.1.1 hW9 w24) (kpFc rfl (kpFm rfl (kp6 rfl hR0 rfl (kp4 rfl (kp5 rfl hR0 rfl (kp0 rfl (kp1 rfl (kp2 rfl (kp3 rfl (sp_X12_owe hB10 hR0 (fun x44 y49 I45 J46 hB47 p48 kq53 kq52 kq51 kq50 k55 k54 k56 w62 w61 w60 w59 w58 w57 => ?_))))))))))))))
  intro o63
  have f64 : Fr pK I8 I45 := p48
  have i65 := i32 x44
  have e66 : ((I45 3 1) : Int32).toInt = (I 3 1).toInt := Eq.trans (congrArg Int32.toInt (Eq.trans kq50 kq13)) rfl
  have kz67 : ((I45 3 1) : Int32).toInt = (I 3 1).toInt := e66
  have e68 : ((I45 97 8) : Int32).toInt = (I 97 8).toInt := Eq.trans (congrArg Int32.toInt (Eq.trans kq51 kq14)) rfl
  have kz69 : ((I45 97 8) : Int32).toInt = (I 97 8).toInt := e68
  have e70 : ((I45 1 13) : Int32).toInt = (I 1 13).toInt := Eq.trans (congrArg Int32.toInt (Eq.trans kq52 kq15)) rfl
  have kz71 : ((I45 1 13) : Int32).toInt = (I 1 13).toInt := e70
  have e72 : ((I45 97 23) : Int32).toInt = (I 97 23).toInt := Eq.trans (congrArg Int32.toInt (Eq.trans kq53 kq16)) rfl
  have kz73 : ((I45 97 23) : Int32).toInt = (I 97 23).toInt := e72
  have hg74 : (x44 : Int32).toInt = (x7 : Int32).toInt := congrArg Int32.toInt (w60.1)
  exact hN _ _ R hB47 hR0 hF0 ⟨(Eq.trans (e66) (Eq.trans hL0 (Eq.symm (e68)))), (Eq.trans (e70) (Eq.trans hL1 (Eq.symm (e72)))), (RT.kp (RT.kp hL2 k17 k18) k54 k55), ((congrFun k56 0).trans ((congrFun k19 0).trans hL3))⟩ (R3.kp (R3.kp hR3 w20 (by have ya : ((I8 3 1) : Int32).toInt = (I 3 1).toInt := e30; have yb : ((I 3 1) : Int32).toInt = (I 3 1).toInt := rfl; omega)) w57 (by have ya : ((I45 3 1) : Int32).toInt = (I 3 1).toInt := e66; have yb : ((I8 3 1) : Int32).toInt = (I 3 1).toInt := e30; omega)) (RM.kp hR0 (RM.kp hR0 hRM ⟨w21, w22, (fun j _ => congrFun w23.1 j)⟩) ⟨w58, w59, (fun j hj => f64.1 j hj)⟩) trivial (w60.2) (FQ9.kp (FQ9.kp hFR w26 w25) w61 w62)
set_option maxHeartbeats 2000000 in
theorem lc_24 {Q : Nat → Qt} {P : Kt} {L : Nat} {xs : Nat → Int32} (hc : Cl (AM 640) false true L xs 2 112 kL_law Q P) (hL : L ≤ 3584) {v3 : Int32} {I : Im} {J : Jm} {R : Rm} (hB0 : Bd I) (hR0 : RI R) (hF0 : Fl R) (hL0 : (I 3 1).toInt = (I 97 8).toInt) (hL1 : (I 1 13).toInt = (I 97 23).toInt) (hL2 : RT I) (hL3 : J 47 0 = 0) (hR3 : R3 I J) (hRM : RM I J R) (hFQ : True) (hW9 : W9 I R) (hFR : FQ9 J) (h0 : 0 ≤ v3.toInt) (h7 : v3.toInt + 7 ≤ (L : Int)) (hN : ∀ (I : Im) (J : Jm) (R : Rm), Bd I → RI R → Fl R → RLk I J → R3 I J → RM I J R → True → W9 I R → FQ9 J → P 1890 112 [(0, .ref 0), (1, .ref 1), (2, .ref 97), (3, .int v3)] [] I J R) : P 1007 112 [(0, .ref 0), (1, .ref 1), (2, .ref 97), (3, .int v3)] [] I J R := by
  have i_v3 := i32 v3
  have e97 : I 97 8 = nI (fl I) := (Int32.toInt_inj.mp hL0).symm.trans (fl_bd hB0).1
  have b31 := Bd.o hB0 (show isO 112 3 6 = true from rfl) (show bnd 6 1 = some _ from rfl)
  refine ls_1007 hc v3 _ _ _ ?_
  have e1 : ((v3 + 1) : Int32).toInt = (v3.toInt) + (1) := ti_add rfl rfl (by omega)
  refine ⟨vp_of (a := (v3.toInt + 1)) e1 (by omega) (by omega), ?_⟩
  have z2 := i32 (xs (Int32.toNatClampNeg (v3 + 1)))
  have e3 : ((v3 + 2) : Int32).toInt = (v3.toInt) + (2) := ti_add rfl rfl (by omega)
  refine ⟨vp_of (a := (v3.toInt + 2)) e3 (by omega) (by omega), ?_⟩
  have z4 := i32 (xs (Int32.toNatClampNeg (v3 + 2)))
  refine ⟨⟨hF0, rfl⟩, ?_⟩
  refine kp7 rfl hR0 rfl (kx (cx_come hB0 hR0) (kx (cx_come9 hB0 hR0) (kpFm rfl (kpFc rfl (kp6 rfl hR0 rfl (kp4 rfl (kp5 rfl hR0 rfl (kp0 rfl (kp1 rfl (kp2 rfl (kp3 rfl (sp_X11_come hB0 hR0 (fun x5 y10 I6 J7 hB8 p9 kq14 kq13 kq12 kq11 k16 k15 k17 w22 w21 w20 w19 w18 => ?_)))))))))))))
  have i23 := i32 x5
  have b24 := Bd.o hB0 (show isO 112 3 6 = true from rfl) (show bnd 6 1 = some _ from rfl)
  have e25 : ((I6 3 1) : Int32).toInt = (I 3 1).toInt := Eq.trans (congrArg Int32.toInt kq11) rfl
  have kz26 : ((I6 3 1) : Int32).toInt = (I 3 1).toInt := e25
  have b27 := Bd.o hB0 (show isO 112 97 12 = true from rfl) (show bnd 12 8 = some _ from rfl)
  have e28 : ((I6 97 8) : Int32).toInt = (I 97 8).toInt := Eq.trans (congrArg Int32.toInt kq12) rfl
  have kz29 : ((I6 97 8) : Int32).toInt = (I 97 8).toInt := e28
  have b30 := Bd.o hB0 (show isO 112 1 11 = true from rfl) (show bnd 11 13 = some _ from rfl)
  have e31 : ((I6 1 13) : Int32).toInt = (I 1 13).toInt := Eq.trans (congrArg Int32.toInt kq13) rfl
  have kz32 : ((I6 1 13) : Int32).toInt = (I 1 13).toInt := e31
  have b33 := Bd.o hB0 (show isO 112 97 12 = true from rfl) (show bnd 12 23 = some _ from rfl)
  have e34 : ((I6 97 23) : Int32).toInt = (I 97 23).toInt := Eq.trans (congrArg Int32.toInt kq14) rfl
  have kz35 : ((I6 97 23) : Int32).toInt = (I 97 23).toInt := e34
  refine ⟨vp_of (a := (v3.toInt + 1)) e1 (by omega) (by omega), ?_⟩
  have z36 := i32 (xs (Int32.toNatClampNeg (v3 + 1)))
  refine ⟨vp_of (a := (v3.toInt + 2)) e3 (by omega) (by omega), ?_⟩
  have z37 := i32 (xs (Int32.toNatClampNeg (v3 + 2)))
  refine ⟨⟨hF0, rfl⟩, ?_⟩
  refine kp7 rfl hR0 rfl (kx (mx_come hB8) (kx (mx_come9 (J := J) hR0 hRM.1.1 hW9 w20) (kpFc rfl (kpFm rfl (kp6 rfl hR0 rfl (kp4 rfl (kp5 rfl hR0 rfl (kp0 rfl (kp1 rfl (kp2 rfl (kp3 rfl (sp_X12_come hB8 hR0 (fun x38 y43 I39 J40 hB41 p42 kq47 kq46 kq45 kq44 k49 k48 k50 w55 w54 w53 w52 w51 => ?_)))))))))))))
  have i56 := i32 x38
  have e57 : ((I39 3 1) : Int32).toInt = (I 3 1).toInt := Eq.trans (congrArg Int32.toInt (Eq.trans kq44 kq11)) rfl
  have kz58 : ((I39 3 1) : Int32).toInt = (I 3 1).toInt := e57
  have e59 : ((I39 97 8) : Int32).toInt = (I 97 8).toInt := Eq.trans (congrArg Int32.toInt (Eq.trans kq45 kq12)) rfl
  have kz60 : ((I39 97 8) : Int32).toInt = (I 97 8).toInt := e59
  have e61 : ((I39 1 13) : Int32).toInt = (I 1 13).toInt := Eq.trans (congrArg Int32.toInt (Eq.trans kq46 kq13)) rfl
  have kz62 : ((I39 1 13) : Int32).toInt = (I 1 13).toInt := e61
  have e63 : ((I39 97 23) : Int32).toInt = (I 97 23).toInt := Eq.trans (congrArg Int32.toInt (Eq.trans kq47 kq14)) rfl
  have kz64 : ((I39 97 23) : Int32).toInt = (I 97 23).toInt := e63
  have hg65 : (x38 : Int32).toInt = (x5 : Int32).toInt := congrArg Int32.toInt (w53.1)
  have hr66 := RM.come hB0 hR0 hRM w19 w52
  have hg67 : (x38 : Int32).toInt = (x5 : Int32).toInt := congrArg Int32.toInt hr66.2
  exact hN _ _ R hB41 hR0 hF0 ⟨(Eq.trans (e57) (Eq.trans hL0 (Eq.symm (e59)))), (Eq.trans (e61) (Eq.trans hL1 (Eq.symm (e63)))), (RT.kp (RT.kp hL2 k15 k16) k48 k49), ((congrFun k50 0).trans ((congrFun k17 0).trans hL3))⟩ (R3.kp (R3.kp hR3 w18 (by have ya : ((I6 3 1) : Int32).toInt = (I 3 1).toInt := e25; have yb : ((I 3 1) : Int32).toInt = (I 3 1).toInt := rfl; omega)) w51 (by have ya : ((I39 3 1) : Int32).toInt = (I 3 1).toInt := e57; have yb : ((I6 3 1) : Int32).toInt = (I 3 1).toInt := e25; omega)) (hr66.1) trivial (w53.2) (FQ9.kp (FQ9.kp hFR w22 w21) w54 w55)
set_option maxHeartbeats 2000000 in
theorem lc_25 {Q : Nat → Qt} {P : Kt} {L : Nat} {xs : Nat → Int32} (hc : Cl (AM 640) false true L xs 2 112 kL_law Q P) (hL : L ≤ 3584) {v3 : Int32} {I : Im} {J : Jm} {R : Rm} (hB0 : Bd I) (hR0 : RI R) (hF0 : Fl R) (hL0 : (I 3 1).toInt = (I 97 8).toInt) (hL1 : (I 1 13).toInt = (I 97 23).toInt) (hL2 : RT I) (hL3 : J 47 0 = 0) (hR3 : R3 I J) (hRM : RM I J R) (hFQ : True) (hW9 : W9 I R) (hFR : FQ9 J) (h0 : 0 ≤ v3.toInt) (h7 : v3.toInt + 7 ≤ (L : Int)) (hN : ∀ (I : Im) (J : Jm) (R : Rm), Bd I → RI R → Fl R → RLk I J → R3 I J → RM I J R → True → W9 I R → FQ9 J → P 1890 112 [(0, .ref 0), (1, .ref 1), (2, .ref 97), (3, .int v3)] [] I J R) : P 1040 112 [(0, .ref 0), (1, .ref 1), (2, .ref 97), (3, .int v3)] [] I J R := by
  have i_v3 := i32 v3
  have e97 : I 97 8 = nI (fl I) := (Int32.toInt_inj.mp hL0).symm.trans (fl_bd hB0).1
  have b31 := Bd.o hB0 (show isO 112 3 6 = true from rfl) (show bnd 6 1 = some _ from rfl)
  refine ls_1040 hc v3 _ _ _ ?_
  have e1 : ((v3 + 1) : Int32).toInt = (v3.toInt) + (1) := ti_add rfl rfl (by omega)
  refine ⟨vp_of (a := (v3.toInt + 1)) e1 (by omega) (by omega), ?_⟩
  have z2 := i32 (xs (Int32.toNatClampNeg (v3 + 1)))
  have e3 : ((v3 + 2) : Int32).toInt = (v3.toInt) + (2) := ti_add rfl rfl (by omega)
  refine ⟨vp_of (a := (v3.toInt + 2)) e3 (by omega) (by omega), ?_⟩
  have z4 := i32 (xs (Int32.toNatClampNeg (v3 + 2)))
  refine ⟨fun c5 => ?_, fun c5 => ?_⟩
  · skip
    have d6 : (((xs (Int32.toNatClampNeg (v3 + 2))).toInt) : Int) = (0) := ci_eq rfl rfl c5
    refine ⟨⟨hF0, rfl⟩, ?_⟩
    refine kp7 rfl hR0 rfl (kx (cx_learn (Or.inl rfl) hR0) (kx (cx_learn9 hR0) (kpFm rfl (kpFc rfl (kp6 rfl hR0 rfl (kp4 rfl (kp5 rfl hR0 rfl (kp0 rfl (kp1 rfl (kp2 rfl (kp3 rfl (sp_X11_learn hB0 hR0 (fun x7 y12 I8 J9 hB10 p11 kq16 kq15 kq14 kq13 k18 k17 k19 w24 w23 w22 w21 w20 => ?_)))))))))))))
    intro o25
    have i26 := i32 x7
    have b27 := Bd.o hB0 (show isO 112 3 6 = true from rfl) (show bnd 6 1 = some _ from rfl)
    have e28 : ((I8 3 1) : Int32).toInt = (I 3 1).toInt := Eq.trans (congrArg Int32.toInt kq13) rfl
    have kz29 : ((I8 3 1) : Int32).toInt = (I 3 1).toInt := e28
    have b30 := Bd.o hB0 (show isO 112 97 12 = true from rfl) (show bnd 12 8 = some _ from rfl)
    have e31 : ((I8 97 8) : Int32).toInt = (I 97 8).toInt := Eq.trans (congrArg Int32.toInt kq14) rfl
    have kz32 : ((I8 97 8) : Int32).toInt = (I 97 8).toInt := e31
    have b33 := Bd.o hB0 (show isO 112 1 11 = true from rfl) (show bnd 11 13 = some _ from rfl)
    have e34 : ((I8 1 13) : Int32).toInt = (I 1 13).toInt := Eq.trans (congrArg Int32.toInt kq15) rfl
    have kz35 : ((I8 1 13) : Int32).toInt = (I 1 13).toInt := e34
    have b36 := Bd.o hB0 (show isO 112 97 12 = true from rfl) (show bnd 12 23 = some _ from rfl)
    have e37 : ((I8 97 23) : Int32).toInt = (I 97 23).toInt := Eq.trans (congrArg Int32.toInt kq16) rfl
    have kz38 : ((I8 97 23) : Int32).toInt = (I 97 23).toInt := e37
    refine ⟨vp_of (a := (v3.toInt + 1)) e1 (by omega) (by omega), ?_⟩
    have z39 := i32 (xs (Int32.toNatClampNeg (v3 + 1)))
    refine ⟨vp_of (a := (v3.toInt + 2)) e3 (by omega) (by omega), ?_⟩
    have z40 := i32 (xs (Int32.toNatClampNeg (v3 + 2)))
    refine ⟨fun c41 => ?_, fun c41 => ?_⟩
    · skip
      have d42 : (((xs (Int32.toNatClampNeg (v3 + 2))).toInt) : Int) = (0) := ci_eq rfl rfl c41
      refine ⟨⟨hF0, rfl⟩, ?_⟩
      refine kp7 rfl hR0 rfl (kx (mx_learn hB10 (Or.inl rfl)) (kx (mx_learn9 hB10) (kpFc rfl (kpFm rfl (kp6 rfl hR0 rfl (kp4 rfl (kp5 rfl hR0 rfl (kp0 rfl (kp1 rfl (kp2 rfl (kp3 rfl (sp_X12_learn hB10 hR0 (fun x43 y48 I44 J45 hB46 p47 kq52 kq51 kq50 kq49 k54 k53 k55 w60 w59 w58 w57 w56 => ?_)))))))))))))
      intro o61
      have i62 := i32 x43
      have e63 : ((I44 3 1) : Int32).toInt = (I 3 1).toInt := Eq.trans (congrArg Int32.toInt (Eq.trans kq49 kq13)) rfl
      have kz64 : ((I44 3 1) : Int32).toInt = (I 3 1).toInt := e63
      have e65 : ((I44 97 8) : Int32).toInt = (I 97 8).toInt := Eq.trans (congrArg Int32.toInt (Eq.trans kq50 kq14)) rfl
      have kz66 : ((I44 97 8) : Int32).toInt = (I 97 8).toInt := e65
      have e67 : ((I44 1 13) : Int32).toInt = (I 1 13).toInt := Eq.trans (congrArg Int32.toInt (Eq.trans kq51 kq15)) rfl
      have kz68 : ((I44 1 13) : Int32).toInt = (I 1 13).toInt := e67
      have e69 : ((I44 97 23) : Int32).toInt = (I 97 23).toInt := Eq.trans (congrArg Int32.toInt (Eq.trans kq52 kq16)) rfl
      have kz70 : ((I44 97 23) : Int32).toInt = (I 97 23).toInt := e69
      have hr71 := RM.learn hR0 hRM w21 w57
      have hg72 : (x43 : Int32).toInt = (x7 : Int32).toInt := congrArg Int32.toInt hr71.2
      exact hN _ _ R hB46 hR0 hF0 ⟨(Eq.trans (e63) (Eq.trans hL0 (Eq.symm (e65)))), (Eq.trans (e67) (Eq.trans hL1 (Eq.symm (e69)))), (RT.kp (RT.kp hL2 k17 k18) k53 k54), ((congrFun k55 0).trans ((congrFun k19 0).trans hL3))⟩ (R3.kp (R3.kp hR3 w20 (by have ya : ((I8 3 1) : Int32).toInt = (I 3 1).toInt := e28; have yb : ((I 3 1) : Int32).toInt = (I 3 1).toInt := rfl; omega)) w56 (by have ya : ((I44 3 1) : Int32).toInt = (I 3 1).toInt := e63; have yb : ((I8 3 1) : Int32).toInt = (I 3 1).toInt := e28; omega)) (hr71.1) trivial (W9.learn hR0 hW9 w22 w58) (FQ9.kp (FQ9.kp hFR w24 w23) w59 w60)
    · skip
      have d73 : ¬ (((xs (Int32.toNatClampNeg (v3 + 2))).toInt) : Int) = (0) := ci_ne rfl rfl c41
      refine ⟨⟨hF0, rfl⟩, ?_⟩
      refine kp7 rfl hR0 rfl (kx (mx_learn hB10 (Or.inr rfl)) (kx (mx_learn9 hB10) (kpFc rfl (kpFm rfl (kp6 rfl hR0 rfl (kp4 rfl (kp5 rfl hR0 rfl (kp0 rfl (kp1 rfl (kp2 rfl (kp3 rfl (sp_X12_learn hB10 hR0 (fun x74 y79 I75 J76 hB77 p78 kq83 kq82 kq81 kq80 k85 k84 k86 w91 w90 w89 w88 w87 => ?_)))))))))))))
      intro o92
      have i93 := i32 x74
      have e94 : ((I75 3 1) : Int32).toInt = (I 3 1).toInt := Eq.trans (congrArg Int32.toInt (Eq.trans kq80 kq13)) rfl
      have kz95 : ((I75 3 1) : Int32).toInt = (I 3 1).toInt := e94
      have e96 : ((I75 97 8) : Int32).toInt = (I 97 8).toInt := Eq.trans (congrArg Int32.toInt (Eq.trans kq81 kq14)) rfl
      have kz97 : ((I75 97 8) : Int32).toInt = (I 97 8).toInt := e96
      have e98 : ((I75 1 13) : Int32).toInt = (I 1 13).toInt := Eq.trans (congrArg Int32.toInt (Eq.trans kq82 kq15)) rfl
      have kz99 : ((I75 1 13) : Int32).toInt = (I 1 13).toInt := e98
      have e100 : ((I75 97 23) : Int32).toInt = (I 97 23).toInt := Eq.trans (congrArg Int32.toInt (Eq.trans kq83 kq16)) rfl
      have kz101 : ((I75 97 23) : Int32).toInt = (I 97 23).toInt := e100
      have hr102 : RM I75 J76 R ∧ x74 = x7 := False.elim (by omega)
      have hg103 : (x74 : Int32).toInt = (x7 : Int32).toInt := congrArg Int32.toInt hr102.2
      exact hN _ _ R hB77 hR0 hF0 ⟨(Eq.trans (e94) (Eq.trans hL0 (Eq.symm (e96)))), (Eq.trans (e98) (Eq.trans hL1 (Eq.symm (e100)))), (RT.kp (RT.kp hL2 k17 k18) k84 k85), ((congrFun k86 0).trans ((congrFun k19 0).trans hL3))⟩ (R3.kp (R3.kp hR3 w20 (by have ya : ((I8 3 1) : Int32).toInt = (I 3 1).toInt := e28; have yb : ((I 3 1) : Int32).toInt = (I 3 1).toInt := rfl; omega)) w87 (by have ya : ((I75 3 1) : Int32).toInt = (I 3 1).toInt := e94; have yb : ((I8 3 1) : Int32).toInt = (I 3 1).toInt := e28; omega)) (hr102.1) trivial (W9.learn hR0 hW9 w22 w89) (FQ9.kp (FQ9.kp hFR w24 w23) w90 w91)
  · skip
    have d104 : ¬ (((xs (Int32.toNatClampNeg (v3 + 2))).toInt) : Int) = (0) := ci_ne rfl rfl c5
    refine ⟨⟨hF0, rfl⟩, ?_⟩
    refine kp7 rfl hR0 rfl (kx (cx_learn (Or.inr rfl) hR0) (kx (cx_learn9 hR0) (kpFm rfl (kpFc rfl (kp6 rfl hR0 rfl (kp4 rfl (kp5 rfl hR0 rfl (kp0 rfl (kp1 rfl (kp2 rfl (kp3 rfl (sp_X11_learn hB0 hR0 (fun x105 y110 I106 J107 hB108 p109 kq114 kq113 kq112 kq111 k116 k115 k117 w122 w121 w120 w119 w118 => ?_)))))))))))))
    intro o123
    have i124 := i32 x105
    have b125 := Bd.o hB0 (show isO 112 3 6 = true from rfl) (show bnd 6 1 = some _ from rfl)
    have e126 : ((I106 3 1) : Int32).toInt = (I 3 1).toInt := Eq.trans (congrArg Int32.toInt kq111) rfl
    have kz127 : ((I106 3 1) : Int32).toInt = (I 3 1).toInt := e126
    have b128 := Bd.o hB0 (show isO 112 97 12 = true from rfl) (show bnd 12 8 = some _ from rfl)
    have e129 : ((I106 97 8) : Int32).toInt = (I 97 8).toInt := Eq.trans (congrArg Int32.toInt kq112) rfl
    have kz130 : ((I106 97 8) : Int32).toInt = (I 97 8).toInt := e129
    have b131 := Bd.o hB0 (show isO 112 1 11 = true from rfl) (show bnd 11 13 = some _ from rfl)
    have e132 : ((I106 1 13) : Int32).toInt = (I 1 13).toInt := Eq.trans (congrArg Int32.toInt kq113) rfl
    have kz133 : ((I106 1 13) : Int32).toInt = (I 1 13).toInt := e132
    have b134 := Bd.o hB0 (show isO 112 97 12 = true from rfl) (show bnd 12 23 = some _ from rfl)
    have e135 : ((I106 97 23) : Int32).toInt = (I 97 23).toInt := Eq.trans (congrArg Int32.toInt kq114) rfl
    have kz136 : ((I106 97 23) : Int32).toInt = (I 97 23).toInt := e135
    refine ⟨vp_of (a := (v3.toInt + 1)) e1 (by omega) (by omega), ?_⟩
    have z137 := i32 (xs (Int32.toNatClampNeg (v3 + 1)))
    refine ⟨vp_of (a := (v3.toInt + 2)) e3 (by omega) (by omega), ?_⟩
    have z138 := i32 (xs (Int32.toNatClampNeg (v3 + 2)))
    refine ⟨fun c139 => ?_, fun c139 => ?_⟩
    · skip
      have d140 : (((xs (Int32.toNatClampNeg (v3 + 2))).toInt) : Int) = (0) := ci_eq rfl rfl c139
      refine ⟨⟨hF0, rfl⟩, ?_⟩
      refine kp7 rfl hR0 rfl (kx (mx_learn hB108 (Or.inl rfl)) (kx (mx_learn9 hB108) (kpFc rfl (kpFm rfl (kp6 rfl hR0 rfl (kp4 rfl (kp5 rfl hR0 rfl (kp0 rfl (kp1 rfl (kp2 rfl (kp3 rfl (sp_X12_learn hB108 hR0 (fun x141 y146 I142 J143 hB144 p145 kq150 kq149 kq148 kq147 k152 k151 k153 w158 w157 w156 w155 w154 => ?_)))))))))))))
      intro o159
      have i160 := i32 x141
      have e161 : ((I142 3 1) : Int32).toInt = (I 3 1).toInt := Eq.trans (congrArg Int32.toInt (Eq.trans kq147 kq111)) rfl
      have kz162 : ((I142 3 1) : Int32).toInt = (I 3 1).toInt := e161
      have e163 : ((I142 97 8) : Int32).toInt = (I 97 8).toInt := Eq.trans (congrArg Int32.toInt (Eq.trans kq148 kq112)) rfl
      have kz164 : ((I142 97 8) : Int32).toInt = (I 97 8).toInt := e163
      have e165 : ((I142 1 13) : Int32).toInt = (I 1 13).toInt := Eq.trans (congrArg Int32.toInt (Eq.trans kq149 kq113)) rfl
      have kz166 : ((I142 1 13) : Int32).toInt = (I 1 13).toInt := e165
      have e167 : ((I142 97 23) : Int32).toInt = (I 97 23).toInt := Eq.trans (congrArg Int32.toInt (Eq.trans kq150 kq114)) rfl
      have kz168 : ((I142 97 23) : Int32).toInt = (I 97 23).toInt := e167
      have hr169 : RM I142 J143 R ∧ x141 = x105 := False.elim (by omega)
      have hg170 : (x141 : Int32).toInt = (x105 : Int32).toInt := congrArg Int32.toInt hr169.2
      exact hN _ _ R hB144 hR0 hF0 ⟨(Eq.trans (e161) (Eq.trans hL0 (Eq.symm (e163)))), (Eq.trans (e165) (Eq.trans hL1 (Eq.symm (e167)))), (RT.kp (RT.kp hL2 k115 k116) k151 k152), ((congrFun k153 0).trans ((congrFun k117 0).trans hL3))⟩ (R3.kp (R3.kp hR3 w118 (by have ya : ((I106 3 1) : Int32).toInt = (I 3 1).toInt := e126; have yb : ((I 3 1) : Int32).toInt = (I 3 1).toInt := rfl; omega)) w154 (by have ya : ((I142 3 1) : Int32).toInt = (I 3 1).toInt := e161; have yb : ((I106 3 1) : Int32).toInt = (I 3 1).toInt := e126; omega)) (hr169.1) trivial (W9.learn hR0 hW9 w120 w156) (FQ9.kp (FQ9.kp hFR w122 w121) w157 w158)
    · skip
      have d171 : ¬ (((xs (Int32.toNatClampNeg (v3 + 2))).toInt) : Int) = (0) := ci_ne rfl rfl c139
      refine ⟨⟨hF0, rfl⟩, ?_⟩
      refine kp7 rfl hR0 rfl (kx (mx_learn hB108 (Or.inr rfl)) (kx (mx_learn9 hB108) (kpFc rfl (kpFm rfl (kp6 rfl hR0 rfl (kp4 rfl (kp5 rfl hR0 rfl (kp0 rfl (kp1 rfl (kp2 rfl (kp3 rfl (sp_X12_learn hB108 hR0 (fun x172 y177 I173 J174 hB175 p176 kq181 kq180 kq179 kq178 k183 k182 k184 w189 w188 w187 w186 w185 => ?_)))))))))))))
      intro o190
      have i191 := i32 x172
      have e192 : ((I173 3 1) : Int32).toInt = (I 3 1).toInt := Eq.trans (congrArg Int32.toInt (Eq.trans kq178 kq111)) rfl
      have kz193 : ((I173 3 1) : Int32).toInt = (I 3 1).toInt := e192
      have e194 : ((I173 97 8) : Int32).toInt = (I 97 8).toInt := Eq.trans (congrArg Int32.toInt (Eq.trans kq179 kq112)) rfl
      have kz195 : ((I173 97 8) : Int32).toInt = (I 97 8).toInt := e194
      have e196 : ((I173 1 13) : Int32).toInt = (I 1 13).toInt := Eq.trans (congrArg Int32.toInt (Eq.trans kq180 kq113)) rfl
      have kz197 : ((I173 1 13) : Int32).toInt = (I 1 13).toInt := e196
      have e198 : ((I173 97 23) : Int32).toInt = (I 97 23).toInt := Eq.trans (congrArg Int32.toInt (Eq.trans kq181 kq114)) rfl
      have kz199 : ((I173 97 23) : Int32).toInt = (I 97 23).toInt := e198
      have hr200 := RM.learn hR0 hRM w119 w186
      have hg201 : (x172 : Int32).toInt = (x105 : Int32).toInt := congrArg Int32.toInt hr200.2
      exact hN _ _ R hB175 hR0 hF0 ⟨(Eq.trans (e192) (Eq.trans hL0 (Eq.symm (e194)))), (Eq.trans (e196) (Eq.trans hL1 (Eq.symm (e198)))), (RT.kp (RT.kp hL2 k115 k116) k182 k183), ((congrFun k184 0).trans ((congrFun k117 0).trans hL3))⟩ (R3.kp (R3.kp hR3 w118 (by have ya : ((I106 3 1) : Int32).toInt = (I 3 1).toInt := e126; have yb : ((I 3 1) : Int32).toInt = (I 3 1).toInt := rfl; omega)) w185 (by have ya : ((I173 3 1) : Int32).toInt = (I 3 1).toInt := e192; have yb : ((I106 3 1) : Int32).toInt = (I 3 1).toInt := e126; omega)) (hr200.1) trivial (W9.learn hR0 hW9 w120 w187) (FQ9.kp (FQ9.kp hFR w122 w121) w188 w189)
set_option maxHeartbeats 2000000 in
theorem lc_26 {Q : Nat → Qt} {P : Kt} {L : Nat} {xs : Nat → Int32} (hc : Cl (AM 640) false true L xs 2 112 kL_law Q P) (hL : L ≤ 3584) {v3 : Int32} {I : Im} {J : Jm} {R : Rm} (hB0 : Bd I) (hR0 : RI R) (hF0 : Fl R) (hL0 : (I 3 1).toInt = (I 97 8).toInt) (hL1 : (I 1 13).toInt = (I 97 23).toInt) (hL2 : RT I) (hL3 : J 47 0 = 0) (hR3 : R3 I J) (hRM : RM I J R) (hFQ : True) (hW9 : W9 I R) (hFR : FQ9 J) (h0 : 0 ≤ v3.toInt) (h7 : v3.toInt + 7 ≤ (L : Int)) (hN : ∀ (I : Im) (J : Jm) (R : Rm), Bd I → RI R → Fl R → RLk I J → R3 I J → RM I J R → True → W9 I R → FQ9 J → P 1890 112 [(0, .ref 0), (1, .ref 1), (2, .ref 97), (3, .int v3)] [] I J R) : P 1089 112 [(0, .ref 0), (1, .ref 1), (2, .ref 97), (3, .int v3)] [] I J R := by
  have i_v3 := i32 v3
  have e97 : I 97 8 = nI (fl I) := (Int32.toInt_inj.mp hL0).symm.trans (fl_bd hB0).1
  have b31 := Bd.o hB0 (show isO 112 3 6 = true from rfl) (show bnd 6 1 = some _ from rfl)
  refine ls_1089 hc v3 _ _ _ ?_
  have e1 : ((v3 + 1) : Int32).toInt = (v3.toInt) + (1) := ti_add rfl rfl (by omega)
  refine ⟨vp_of (a := (v3.toInt + 1)) e1 (by omega) (by omega), ?_⟩
  have z2 := i32 (xs (Int32.toNatClampNeg (v3 + 1)))
  refine ⟨⟨hF0, rfl⟩, ?_⟩
  refine kp7 rfl hR0 rfl (kpA rfl (kpnm rfl hR0 rfl (kp102 rfl hR0 rfl (kx (cx_rule9 hR0) (kpFm rfl (kpFc rfl (kp6 rfl hR0 rfl (kp4 rfl (kp5 rfl hR0 rfl (kp0 rfl (kp1 rfl (kp2 rfl (kp3 rfl (sp_X11_rule hB0 hR0 (fun x3 y8 I4 J5 hB6 p7 kq12 kq11 kq10 kq9 k14 k13 k15 w22 w21 w20 w19 w18 w17 w16 => ?_)))))))))))))))
  intro o23
  have i24 := i32 x3
  have b25 := Bd.o hB0 (show isO 112 3 6 = true from rfl) (show bnd 6 1 = some _ from rfl)
  have e26 : ((I4 3 1) : Int32).toInt = (I 3 1).toInt := Eq.trans (congrArg Int32.toInt kq9) rfl
  have kz27 : ((I4 3 1) : Int32).toInt = (I 3 1).toInt := e26
  have b28 := Bd.o hB0 (show isO 112 97 12 = true from rfl) (show bnd 12 8 = some _ from rfl)
  have e29 : ((I4 97 8) : Int32).toInt = (I 97 8).toInt := Eq.trans (congrArg Int32.toInt kq10) rfl
  have kz30 : ((I4 97 8) : Int32).toInt = (I 97 8).toInt := e29
  have b31 := Bd.o hB0 (show isO 112 1 11 = true from rfl) (show bnd 11 13 = some _ from rfl)
  have e32 : ((I4 1 13) : Int32).toInt = (I 1 13).toInt := Eq.trans (congrArg Int32.toInt kq11) rfl
  have kz33 : ((I4 1 13) : Int32).toInt = (I 1 13).toInt := e32
  have b34 := Bd.o hB0 (show isO 112 97 12 = true from rfl) (show bnd 12 23 = some _ from rfl)
  have e35 : ((I4 97 23) : Int32).toInt = (I 97 23).toInt := Eq.trans (congrArg Int32.toInt kq12) rfl
  have kz36 : ((I4 97 23) : Int32).toInt = (I 97 23).toInt := e35
  refine ⟨vp_of (a := (v3.toInt + 1)) e1 (by omega) (by omega), ?_⟩
  have z37 := i32 (xs (Int32.toNatClampNeg (v3 + 1)))
  refine ⟨⟨hF0, rfl⟩, ?_⟩
  refine kp7 rfl hR0 rfl (kpA rfl (kpnm rfl hR0 rfl (kx (mx_rule9 hR0 hW9 w20) (kpFc rfl (kpFm rfl (kp6 rfl hR0 rfl (kp4 rfl (kp5 rfl hR0 rfl (kp0 rfl (kp1 rfl (kp2 rfl (kp3 rfl (sp_X12_rule hB6 hR0 (fun x38 y43 I39 J40 hB41 p42 kq47 kq46 kq45 kq44 k49 k48 k50 w56 w55 w54 w53 w52 w51 => ?_))))))))))))))
  intro o57
  have f58 : Fr pK I4 I39 := p42.1
  have i59 := i32 x38
  have e60 : ((I39 3 1) : Int32).toInt = (I 3 1).toInt := Eq.trans (congrArg Int32.toInt (Eq.trans kq44 kq9)) rfl
  have kz61 : ((I39 3 1) : Int32).toInt = (I 3 1).toInt := e60
  have e62 : ((I39 97 8) : Int32).toInt = (I 97 8).toInt := Eq.trans (congrArg Int32.toInt (Eq.trans kq45 kq10)) rfl
  have kz63 : ((I39 97 8) : Int32).toInt = (I 97 8).toInt := e62
  have e64 : ((I39 1 13) : Int32).toInt = (I 1 13).toInt := Eq.trans (congrArg Int32.toInt (Eq.trans kq46 kq11)) rfl
  have kz65 : ((I39 1 13) : Int32).toInt = (I 1 13).toInt := e64
  have e66 : ((I39 97 23) : Int32).toInt = (I 97 23).toInt := Eq.trans (congrArg Int32.toInt (Eq.trans kq47 kq12)) rfl
  have kz67 : ((I39 97 23) : Int32).toInt = (I 97 23).toInt := e66
  have hg68 : (x38 : Int32).toInt = (x3 : Int32).toInt := congrArg Int32.toInt (w54.1)
  exact hN _ _ R hB41 hR0 hF0 ⟨(Eq.trans (e60) (Eq.trans hL0 (Eq.symm (e62)))), (Eq.trans (e64) (Eq.trans hL1 (Eq.symm (e66)))), (RT.kp (RT.kp hL2 k13 k14) k48 k49), ((congrFun k50 0).trans ((congrFun k15 0).trans hL3))⟩ (R3.kp (R3.kp hR3 w16 (by have ya : ((I4 3 1) : Int32).toInt = (I 3 1).toInt := e26; have yb : ((I 3 1) : Int32).toInt = (I 3 1).toInt := rfl; omega)) w51 (by have ya : ((I39 3 1) : Int32).toInt = (I 3 1).toInt := e60; have yb : ((I4 3 1) : Int32).toInt = (I 3 1).toInt := e26; omega)) (RM.kp hR0 (RM.kp hR0 hRM ⟨w17, w18, (fun j _ => congrFun w19.1 j)⟩) ⟨w52, w53, (fun j hj => f58.1 j hj)⟩) trivial (w54.2) (FQ9.kp (FQ9.kp hFR w22 w21) w55 w56)
set_option maxHeartbeats 2000000 in
theorem lc_27 {Q : Nat → Qt} {P : Kt} {L : Nat} {xs : Nat → Int32} (hc : Cl (AM 640) false true L xs 2 112 kL_law Q P) (hL : L ≤ 3584) {v3 : Int32} {I : Im} {J : Jm} {R : Rm} (hB0 : Bd I) (hR0 : RI R) (hF0 : Fl R) (hL0 : (I 3 1).toInt = (I 97 8).toInt) (hL1 : (I 1 13).toInt = (I 97 23).toInt) (hL2 : RT I) (hL3 : J 47 0 = 0) (hR3 : R3 I J) (hRM : RM I J R) (hFQ : True) (hW9 : W9 I R) (hFR : FQ9 J) (h0 : 0 ≤ v3.toInt) (h7 : v3.toInt + 7 ≤ (L : Int)) (hN : ∀ (I : Im) (J : Jm) (R : Rm), Bd I → RI R → Fl R → RLk I J → R3 I J → RM I J R → True → W9 I R → FQ9 J → P 1890 112 [(0, .ref 0), (1, .ref 1), (2, .ref 97), (3, .int v3)] [] I J R) : P 1112 112 [(0, .ref 0), (1, .ref 1), (2, .ref 97), (3, .int v3)] [] I J R := by
  have i_v3 := i32 v3
  have e97 : I 97 8 = nI (fl I) := (Int32.toInt_inj.mp hL0).symm.trans (fl_bd hB0).1
  have b31 := Bd.o hB0 (show isO 112 3 6 = true from rfl) (show bnd 6 1 = some _ from rfl)
  refine ls_1112 hc v3 _ _ _ ?_
  have e1 : ((v3 + 1) : Int32).toInt = (v3.toInt) + (1) := ti_add rfl rfl (by omega)
  refine ⟨vp_of (a := (v3.toInt + 1)) e1 (by omega) (by omega), ?_⟩
  have z2 := i32 (xs (Int32.toNatClampNeg (v3 + 1)))
  have e3 : ((v3 + 2) : Int32).toInt = (v3.toInt) + (2) := ti_add rfl rfl (by omega)
  refine ⟨vp_of (a := (v3.toInt + 2)) e3 (by omega) (by omega), ?_⟩
  have z4 := i32 (xs (Int32.toNatClampNeg (v3 + 2)))
  refine ⟨⟨hF0, rfl⟩, ?_⟩
  refine kp7 rfl hR0 rfl (kpA rfl (kpnm rfl hR0 rfl (kp102 rfl hR0 rfl (kpW9 rfl hR0 rfl (kpFm rfl (kpFc rfl (kp6 rfl hR0 rfl (kp4 rfl (kp5 rfl hR0 rfl (kp0 rfl (kp1 rfl (kp2 rfl (kp3 rfl (sp_X11_fewest hB0 hR0 (fun x5 y10 I6 J7 hB8 p9 kq14 kq13 kq12 kq11 k16 k15 k17 w24 w23 w22 w21 w20 w19 w18 => ?_)))))))))))))))
  have i25 := i32 x5
  have b26 := Bd.o hB0 (show isO 112 3 6 = true from rfl) (show bnd 6 1 = some _ from rfl)
  have e27 : ((I6 3 1) : Int32).toInt = (I 3 1).toInt := Eq.trans (congrArg Int32.toInt kq11) rfl
  have kz28 : ((I6 3 1) : Int32).toInt = (I 3 1).toInt := e27
  have b29 := Bd.o hB0 (show isO 112 97 12 = true from rfl) (show bnd 12 8 = some _ from rfl)
  have e30 : ((I6 97 8) : Int32).toInt = (I 97 8).toInt := Eq.trans (congrArg Int32.toInt kq12) rfl
  have kz31 : ((I6 97 8) : Int32).toInt = (I 97 8).toInt := e30
  have b32 := Bd.o hB0 (show isO 112 1 11 = true from rfl) (show bnd 11 13 = some _ from rfl)
  have e33 : ((I6 1 13) : Int32).toInt = (I 1 13).toInt := Eq.trans (congrArg Int32.toInt kq13) rfl
  have kz34 : ((I6 1 13) : Int32).toInt = (I 1 13).toInt := e33
  have b35 := Bd.o hB0 (show isO 112 97 12 = true from rfl) (show bnd 12 23 = some _ from rfl)
  have e36 : ((I6 97 23) : Int32).toInt = (I 97 23).toInt := Eq.trans (congrArg Int32.toInt kq14) rfl
  have kz37 : ((I6 97 23) : Int32).toInt = (I 97 23).toInt := e36
  refine ⟨vp_of (a := (v3.toInt + 1)) e1 (by omega) (by omega), ?_⟩
  have z38 := i32 (xs (Int32.toNatClampNeg (v3 + 1)))
  refine ⟨vp_of (a := (v3.toInt + 2)) e3 (by omega) (by omega), ?_⟩
  have z39 := i32 (xs (Int32.toNatClampNeg (v3 + 2)))
  refine ⟨⟨hF0, rfl⟩, ?_⟩
  refine kp7 rfl hR0 rfl (kpA rfl (kpnm rfl hR0 rfl (kpW9 rfl hR0 rfl (kpFc rfl (kpFm rfl (kp6 rfl hR0 rfl (kp4 rfl (kp5 rfl hR0 rfl (kp0 rfl (kp1 rfl (kp2 rfl (kp3 rfl (sp_X12_fewest hB8 hR0 (fun x40 y45 I41 J42 hB43 p44 kq49 kq48 kq47 kq46 k51 k50 k52 w58 w57 w56 w55 w54 w53 => ?_))))))))))))))
  have f59 : Fr pT I6 I41 := p44
  have i60 := i32 x40
  have e61 : ((I41 3 1) : Int32).toInt = (I 3 1).toInt := Eq.trans (congrArg Int32.toInt (Eq.trans kq46 kq11)) rfl
  have kz62 : ((I41 3 1) : Int32).toInt = (I 3 1).toInt := e61
  have e63 : ((I41 97 8) : Int32).toInt = (I 97 8).toInt := Eq.trans (congrArg Int32.toInt (Eq.trans kq47 kq12)) rfl
  have kz64 : ((I41 97 8) : Int32).toInt = (I 97 8).toInt := e63
  have e65 : ((I41 1 13) : Int32).toInt = (I 1 13).toInt := Eq.trans (congrArg Int32.toInt (Eq.trans kq48 kq13)) rfl
  have kz66 : ((I41 1 13) : Int32).toInt = (I 1 13).toInt := e65
  have e67 : ((I41 97 23) : Int32).toInt = (I 97 23).toInt := Eq.trans (congrArg Int32.toInt (Eq.trans kq49 kq14)) rfl
  have kz68 : ((I41 97 23) : Int32).toInt = (I 97 23).toInt := e67
  exact hN _ _ R hB43 hR0 hF0 ⟨(Eq.trans (e61) (Eq.trans hL0 (Eq.symm (e63)))), (Eq.trans (e65) (Eq.trans hL1 (Eq.symm (e67)))), (RT.kp (RT.kp hL2 k15 k16) k50 k51), ((congrFun k52 0).trans ((congrFun k17 0).trans hL3))⟩ (R3.kp (R3.kp hR3 w18 (by have ya : ((I6 3 1) : Int32).toInt = (I 3 1).toInt := e27; have yb : ((I 3 1) : Int32).toInt = (I 3 1).toInt := rfl; omega)) w53 (by have ya : ((I41 3 1) : Int32).toInt = (I 3 1).toInt := e61; have yb : ((I6 3 1) : Int32).toInt = (I 3 1).toInt := e27; omega)) (RM.kp hR0 (RM.kp hR0 hRM ⟨w19, w20, (fun j _ => congrFun w21.1 j)⟩) ⟨w54, w55, (fun j _ => f59.1 j trivial)⟩) trivial (W9.kp hR0 (W9.kp hR0 hW9 w22 w21.1 w19.2) w56 (funext fun j => f59.1 j trivial) w54.2) (FQ9.kp (FQ9.kp hFR w24 w23) w57 w58)
set_option maxHeartbeats 2000000 in
theorem lc_28 {Q : Nat → Qt} {P : Kt} {L : Nat} {xs : Nat → Int32} (hc : Cl (AM 640) false true L xs 2 112 kL_law Q P) (hL : L ≤ 3584) {v3 : Int32} {I : Im} {J : Jm} {R : Rm} (hB0 : Bd I) (hR0 : RI R) (hF0 : Fl R) (hL0 : (I 3 1).toInt = (I 97 8).toInt) (hL1 : (I 1 13).toInt = (I 97 23).toInt) (hL2 : RT I) (hL3 : J 47 0 = 0) (hR3 : R3 I J) (hRM : RM I J R) (hFQ : True) (hW9 : W9 I R) (hFR : FQ9 J) (h0 : 0 ≤ v3.toInt) (h7 : v3.toInt + 7 ≤ (L : Int)) (hN : ∀ (I : Im) (J : Jm) (R : Rm), Bd I → RI R → Fl R → RLk I J → R3 I J → RM I J R → True → W9 I R → FQ9 J → P 1890 112 [(0, .ref 0), (1, .ref 1), (2, .ref 97), (3, .int v3)] [] I J R) : P 1145 112 [(0, .ref 0), (1, .ref 1), (2, .ref 97), (3, .int v3)] [] I J R := by
  have i_v3 := i32 v3
  have e97 : I 97 8 = nI (fl I) := (Int32.toInt_inj.mp hL0).symm.trans (fl_bd hB0).1
  have b31 := Bd.o hB0 (show isO 112 3 6 = true from rfl) (show bnd 6 1 = some _ from rfl)
  refine ls_1145 hc v3 _ _ _ ?_
  have e1 : ((v3 + 1) : Int32).toInt = (v3.toInt) + (1) := ti_add rfl rfl (by omega)
  refine ⟨vp_of (a := (v3.toInt + 1)) e1 (by omega) (by omega), ?_⟩
  have z2 := i32 (xs (Int32.toNatClampNeg (v3 + 1)))
  have e3 : ((v3 + 2) : Int32).toInt = (v3.toInt) + (2) := ti_add rfl rfl (by omega)
  refine ⟨vp_of (a := (v3.toInt + 2)) e3 (by omega) (by omega), ?_⟩
  have z4 := i32 (xs (Int32.toNatClampNeg (v3 + 2)))
  have e5 : ((v3 + 3) : Int32).toInt = (v3.toInt) + (3) := ti_add rfl rfl (by omega)
  refine ⟨vp_of (a := (v3.toInt + 3)) e5 (by omega) (by omega), ?_⟩
  have z6 := i32 (xs (Int32.toNatClampNeg (v3 + 3)))
  refine ⟨⟨hF0, rfl⟩, ?_⟩
  refine kp7 rfl hR0 rfl (kpA rfl (kpnm rfl hR0 rfl (kp102 rfl hR0 rfl (kpW9 rfl hR0 rfl (kpFm rfl (kpFc rfl (kp6 rfl hR0 rfl (kp4 rfl (kp5 rfl hR0 rfl (kp0 rfl (kp1 rfl (kp2 rfl (kp3 rfl (sp_X11_fewestAt hB0 hR0 (fun x7 y12 I8 J9 hB10 p11 kq16 kq15 kq14 kq13 k18 k17 k19 w26 w25 w24 w23 w22 w21 w20 => ?_)))))))))))))))
  have i27 := i32 x7
  have b28 := Bd.o hB0 (show isO 112 3 6 = true from rfl) (show bnd 6 1 = some _ from rfl)
  have e29 : ((I8 3 1) : Int32).toInt = (I 3 1).toInt := Eq.trans (congrArg Int32.toInt kq13) rfl
  have kz30 : ((I8 3 1) : Int32).toInt = (I 3 1).toInt := e29
  have b31 := Bd.o hB0 (show isO 112 97 12 = true from rfl) (show bnd 12 8 = some _ from rfl)
  have e32 : ((I8 97 8) : Int32).toInt = (I 97 8).toInt := Eq.trans (congrArg Int32.toInt kq14) rfl
  have kz33 : ((I8 97 8) : Int32).toInt = (I 97 8).toInt := e32
  have b34 := Bd.o hB0 (show isO 112 1 11 = true from rfl) (show bnd 11 13 = some _ from rfl)
  have e35 : ((I8 1 13) : Int32).toInt = (I 1 13).toInt := Eq.trans (congrArg Int32.toInt kq15) rfl
  have kz36 : ((I8 1 13) : Int32).toInt = (I 1 13).toInt := e35
  have b37 := Bd.o hB0 (show isO 112 97 12 = true from rfl) (show bnd 12 23 = some _ from rfl)
  have e38 : ((I8 97 23) : Int32).toInt = (I 97 23).toInt := Eq.trans (congrArg Int32.toInt kq16) rfl
  have kz39 : ((I8 97 23) : Int32).toInt = (I 97 23).toInt := e38
  refine ⟨vp_of (a := (v3.toInt + 1)) e1 (by omega) (by omega), ?_⟩
  have z40 := i32 (xs (Int32.toNatClampNeg (v3 + 1)))
  refine ⟨vp_of (a := (v3.toInt + 2)) e3 (by omega) (by omega), ?_⟩
  have z41 := i32 (xs (Int32.toNatClampNeg (v3 + 2)))
  refine ⟨vp_of (a := (v3.toInt + 3)) e5 (by omega) (by omega), ?_⟩
  have z42 := i32 (xs (Int32.toNatClampNeg (v3 + 3)))
  refine ⟨⟨hF0, rfl⟩, ?_⟩
  refine kp7 rfl hR0 rfl (kpA rfl (kpnm rfl hR0 rfl (kpW9 rfl hR0 rfl (kpFc rfl (kpFm rfl (kp6 rfl hR0 rfl (kp4 rfl (kp5 rfl hR0 rfl (kp0 rfl (kp1 rfl (kp2 rfl (kp3 rfl (sp_X12_fewestAt hB10 hR0 (fun x43 y48 I44 J45 hB46 p47 kq52 kq51 kq50 kq49 k54 k53 k55 w61 w60 w59 w58 w57 w56 => ?_))))))))))))))
  have f62 : Fr pT I8 I44 := p47
  have i63 := i32 x43
  have e64 : ((I44 3 1) : Int32).toInt = (I 3 1).toInt := Eq.trans (congrArg Int32.toInt (Eq.trans kq49 kq13)) rfl
  have kz65 : ((I44 3 1) : Int32).toInt = (I 3 1).toInt := e64
  have e66 : ((I44 97 8) : Int32).toInt = (I 97 8).toInt := Eq.trans (congrArg Int32.toInt (Eq.trans kq50 kq14)) rfl
  have kz67 : ((I44 97 8) : Int32).toInt = (I 97 8).toInt := e66
  have e68 : ((I44 1 13) : Int32).toInt = (I 1 13).toInt := Eq.trans (congrArg Int32.toInt (Eq.trans kq51 kq15)) rfl
  have kz69 : ((I44 1 13) : Int32).toInt = (I 1 13).toInt := e68
  have e70 : ((I44 97 23) : Int32).toInt = (I 97 23).toInt := Eq.trans (congrArg Int32.toInt (Eq.trans kq52 kq16)) rfl
  have kz71 : ((I44 97 23) : Int32).toInt = (I 97 23).toInt := e70
  exact hN _ _ R hB46 hR0 hF0 ⟨(Eq.trans (e64) (Eq.trans hL0 (Eq.symm (e66)))), (Eq.trans (e68) (Eq.trans hL1 (Eq.symm (e70)))), (RT.kp (RT.kp hL2 k17 k18) k53 k54), ((congrFun k55 0).trans ((congrFun k19 0).trans hL3))⟩ (R3.kp (R3.kp hR3 w20 (by have ya : ((I8 3 1) : Int32).toInt = (I 3 1).toInt := e29; have yb : ((I 3 1) : Int32).toInt = (I 3 1).toInt := rfl; omega)) w56 (by have ya : ((I44 3 1) : Int32).toInt = (I 3 1).toInt := e64; have yb : ((I8 3 1) : Int32).toInt = (I 3 1).toInt := e29; omega)) (RM.kp hR0 (RM.kp hR0 hRM ⟨w21, w22, (fun j _ => congrFun w23.1 j)⟩) ⟨w57, w58, (fun j _ => f62.1 j trivial)⟩) trivial (W9.kp hR0 (W9.kp hR0 hW9 w24 w23.1 w21.2) w59 (funext fun j => f62.1 j trivial) w57.2) (FQ9.kp (FQ9.kp hFR w26 w25) w60 w61)
set_option maxHeartbeats 2000000 in
theorem lc_29 {Q : Nat → Qt} {P : Kt} {L : Nat} {xs : Nat → Int32} (hc : Cl (AM 640) false true L xs 2 112 kL_law Q P) (hL : L ≤ 3584) {v3 : Int32} {I : Im} {J : Jm} {R : Rm} (hB0 : Bd I) (hR0 : RI R) (hF0 : Fl R) (hL0 : (I 3 1).toInt = (I 97 8).toInt) (hL1 : (I 1 13).toInt = (I 97 23).toInt) (hL2 : RT I) (hL3 : J 47 0 = 0) (hR3 : R3 I J) (hRM : RM I J R) (hFQ : True) (hW9 : W9 I R) (hFR : FQ9 J) (h0 : 0 ≤ v3.toInt) (h7 : v3.toInt + 7 ≤ (L : Int)) (hN : ∀ (I : Im) (J : Jm) (R : Rm), Bd I → RI R → Fl R → RLk I J → R3 I J → RM I J R → True → W9 I R → FQ9 J → P 1890 112 [(0, .ref 0), (1, .ref 1), (2, .ref 97), (3, .int v3)] [] I J R) : P 1188 112 [(0, .ref 0), (1, .ref 1), (2, .ref 97), (3, .int v3)] [] I J R := by
  have i_v3 := i32 v3
  have e97 : I 97 8 = nI (fl I) := (Int32.toInt_inj.mp hL0).symm.trans (fl_bd hB0).1
  have b31 := Bd.o hB0 (show isO 112 3 6 = true from rfl) (show bnd 6 1 = some _ from rfl)
  refine ls_1188 hc v3 _ _ _ ?_
  have e1 : ((v3 + 1) : Int32).toInt = (v3.toInt) + (1) := ti_add rfl rfl (by omega)
  refine ⟨vp_of (a := (v3.toInt + 1)) e1 (by omega) (by omega), ?_⟩
  have z2 := i32 (xs (Int32.toNatClampNeg (v3 + 1)))
  have e3 : ((v3 + 2) : Int32).toInt = (v3.toInt) + (2) := ti_add rfl rfl (by omega)
  refine ⟨vp_of (a := (v3.toInt + 2)) e3 (by omega) (by omega), ?_⟩
  have z4 := i32 (xs (Int32.toNatClampNeg (v3 + 2)))
  have e5 : ((v3 + 3) : Int32).toInt = (v3.toInt) + (3) := ti_add rfl rfl (by omega)
  refine ⟨vp_of (a := (v3.toInt + 3)) e5 (by omega) (by omega), ?_⟩
  have z6 := i32 (xs (Int32.toNatClampNeg (v3 + 3)))
  refine ⟨⟨hF0, rfl⟩, ?_⟩
  refine kp7 rfl hR0 rfl (kpA rfl (kpnm rfl hR0 rfl (kp102 rfl hR0 rfl (kpW9 rfl hR0 rfl (kpFm rfl (kpFc rfl (kp6 rfl hR0 rfl (kp4 rfl (kp5 rfl hR0 rfl (kp0 rfl (kp1 rfl (kp2 rfl (kp3 rfl (sp_X11_ways hB0 hR0 (fun x7 y12 I8 J9 hB10 p11 kq16 kq15 kq14 kq13 k18 k17 k19 w26 w25 w24 w23 w22 w21 w20 => ?_)))))))))))))))
  have i27 := i32 x7
  have b28 := Bd.o hB0 (show isO 112 3 6 = true from rfl) (show bnd 6 1 = some _ from rfl)
  have e29 : ((I8 3 1) : Int32).toInt = (I 3 1).toInt := Eq.trans (congrArg Int32.toInt kq13) rfl
  have kz30 : ((I8 3 1) : Int32).toInt = (I 3 1).toInt := e29
  have b31 := Bd.o hB0 (show isO 112 97 12 = true from rfl) (show bnd 12 8 = some _ from rfl)
  have e32 : ((I8 97 8) : Int32).toInt = (I 97 8).toInt := Eq.trans (congrArg Int32.toInt kq14) rfl
  have kz33 : ((I8 97 8) : Int32).toInt = (I 97 8).toInt := e32
  have b34 := Bd.o hB0 (show isO 112 1 11 = true from rfl) (show bnd 11 13 = some _ from rfl)
  have e35 : ((I8 1 13) : Int32).toInt = (I 1 13).toInt := Eq.trans (congrArg Int32.toInt kq15) rfl
  have kz36 : ((I8 1 13) : Int32).toInt = (I 1 13).toInt := e35
  have b37 := Bd.o hB0 (show isO 112 97 12 = true from rfl) (show bnd 12 23 = some _ from rfl)
  have e38 : ((I8 97 23) : Int32).toInt = (I 97 23).toInt := Eq.trans (congrArg Int32.toInt kq16) rfl
  have kz39 : ((I8 97 23) : Int32).toInt = (I 97 23).toInt := e38
  refine ⟨vp_of (a := (v3.toInt + 1)) e1 (by omega) (by omega), ?_⟩
  have z40 := i32 (xs (Int32.toNatClampNeg (v3 + 1)))
  refine ⟨vp_of (a := (v3.toInt + 2)) e3 (by omega) (by omega), ?_⟩
  have z41 := i32 (xs (Int32.toNatClampNeg (v3 + 2)))
  refine ⟨vp_of (a := (v3.toInt + 3)) e5 (by omega) (by omega), ?_⟩
  have z42 := i32 (xs (Int32.toNatClampNeg (v3 + 3)))
  refine ⟨⟨hF0, rfl⟩, ?_⟩
  refine kp7 rfl hR0 rfl (kpA rfl (kpnm rfl hR0 rfl (kpW9 rfl hR0 rfl (kpFc rfl (kpFm rfl (kp6 rfl hR0 rfl (kp4 rfl (kp5 rfl hR0 rfl (kp0 rfl (kp1 rfl (kp2 rfl (kp3 rfl (sp_X12_ways hB10 hR0 (fun x43 y48 I44 J45 hB46 p47 kq52 kq51 kq50 kq49 k54 k53 k55 w61 w60 w59 w58 w57 w56 => ?_))))))))))))))
  have f62 : Fr pT I8 I44 := p47
  have i63 := i32 x43
  have e64 : ((I44 3 1) : Int32).toInt = (I 3 1).toInt := Eq.trans (congrArg Int32.toInt (Eq.trans kq49 kq13)) rfl
  have kz65 : ((I44 3 1) : Int32).toInt = (I 3 1).toInt := e64
  have e66 : ((I44 97 8) : Int32).toInt = (I 97 8).toInt := Eq.trans (congrArg Int32.toInt (Eq.trans kq50 kq14)) rfl
  have kz67 : ((I44 97 8) : Int32).toInt = (I 97 8).toInt := e66
  have e68 : ((I44 1 13) : Int32).toInt = (I 1 13).toInt := Eq.trans (congrArg Int32.toInt (Eq.trans kq51 kq15)) rfl
  have kz69 : ((I44 1 13) : Int32).toInt = (I 1 13).toInt := e68
  have e70 : ((I44 97 23) : Int32).toInt = (I 97 23).toInt := Eq.trans (congrArg Int32.toInt (Eq.trans kq52 kq16)) rfl
  have kz71 : ((I44 97 23) : Int32).toInt = (I 97 23).toInt := e70
  exact hN _ _ R hB46 hR0 hF0 ⟨(Eq.trans (e64) (Eq.trans hL0 (Eq.symm (e66)))), (Eq.trans (e68) (Eq.trans hL1 (Eq.symm (e70)))), (RT.kp (RT.kp hL2 k17 k18) k53 k54), ((congrFun k55 0).trans ((congrFun k19 0).trans hL3))⟩ (R3.kp (R3.kp hR3 w20 (by have ya : ((I8 3 1) : Int32).toInt = (I 3 1).toInt := e29; have yb : ((I 3 1) : Int32).toInt = (I 3 1).toInt := rfl; omega)) w56 (by have ya : ((I44 3 1) : Int32).toInt = (I 3 1).toInt := e64; have yb : ((I8 3 1) : Int32).toInt = (I 3 1).toInt := e29; omega)) (RM.kp hR0 (RM.kp hR0 hRM ⟨w21, w22, (fun j _ => congrFun w23.1 j)⟩) ⟨w57, w58, (fun j _ => f62.1 j trivial)⟩) trivial (W9.kp hR0 (W9.kp hR0 hW9 w24 w23.1 w21.2) w59 (funext fun j => f62.1 j trivial) w57.2) (FQ9.kp (FQ9.kp hFR w26 w25) w60 w61)
set_option maxHeartbeats 2000000 in
theorem lc_30 {Q : Nat → Qt} {P : Kt} {L : Nat} {xs : Nat → Int32} (hc : Cl (AM 640) false true L xs 2 112 kL_law Q P) (hL : L ≤ 3584) {v3 : Int32} {I : Im} {J : Jm} {R : Rm} (hB0 : Bd I) (hR0 : RI R) (hF0 : Fl R) (hL0 : (I 3 1).toInt = (I 97 8).toInt) (hL1 : (I 1 13).toInt = (I 97 23).toInt) (hL2 : RT I) (hL3 : J 47 0 = 0) (hR3 : R3 I J) (hRM : RM I J R) (hFQ : True) (hW9 : W9 I R) (hFR : FQ9 J) (h0 : 0 ≤ v3.toInt) (h7 : v3.toInt + 7 ≤ (L : Int)) (hN : ∀ (I : Im) (J : Jm) (R : Rm), Bd I → RI R → Fl R → RLk I J → R3 I J → RM I J R → True → W9 I R → FQ9 J → P 1890 112 [(0, .ref 0), (1, .ref 1), (2, .ref 97), (3, .int v3)] [] I J R) : P 1231 112 [(0, .ref 0), (1, .ref 1), (2, .ref 97), (3, .int v3)] [] I J R := by
  have i_v3 := i32 v3
  have e97 : I 97 8 = nI (fl I) := (Int32.toInt_inj.mp hL0).symm.trans (fl_bd hB0).1
  have b31 := Bd.o hB0 (show isO 112 3 6 = true from rfl) (show bnd 6 1 = some _ from rfl)
  refine ls_1231 hc v3 _ _ _ ?_
  have e1 : ((v3 + 1) : Int32).toInt = (v3.toInt) + (1) := ti_add rfl rfl (by omega)
  refine ⟨vp_of (a := (v3.toInt + 1)) e1 (by omega) (by omega), ?_⟩
  have z2 := i32 (xs (Int32.toNatClampNeg (v3 + 1)))
  have e3 : ((v3 + 2) : Int32).toInt = (v3.toInt) + (2) := ti_add rfl rfl (by omega)
  refine ⟨vp_of (a := (v3.toInt + 2)) e3 (by omega) (by omega), ?_⟩
  have z4 := i32 (xs (Int32.toNatClampNeg (v3 + 2)))
  have e5 : ((v3 + 3) : Int32).toInt = (v3.toInt) + (3) := ti_add rfl rfl (by omega)
  refine ⟨vp_of (a := (v3.toInt + 3)) e5 (by omega) (by omega), ?_⟩
  have z6 := i32 (xs (Int32.toNatClampNeg (v3 + 3)))
  have e7 : ((v3 + 4) : Int32).toInt = (v3.toInt) + (4) := ti_add rfl rfl (by omega)
  refine ⟨vp_of (a := (v3.toInt + 4)) e7 (by omega) (by omega), ?_⟩
  have z8 := i32 (xs (Int32.toNatClampNeg (v3 + 4)))
  refine ⟨⟨hF0, rfl⟩, ?_⟩
  refine kp7 rfl hR0 rfl (kpA rfl (kpnm rfl hR0 rfl (kp102 rfl hR0 rfl (kpW9 rfl hR0 rfl (kpFm rfl (kx (cf_oddsThat hR0 hRM.1.2.1) (kp6 rfl hR0 rfl (kp4 rfl (kp5 rfl hR0 rfl (kp0 rfl (kp1 rfl (kp2 rfl (kp3 rfl (sp_X11_oddsThat hB0 hR0 (fun x9 y14 I10 J11 hB12 p13 kq18 kq17 kq16 kq15 k20 k19 k21 w28 w27 w26 w25 w24 w23 w22 => ?_)))))))))))))))
  intro o29
  have i30 := i32 x9
  have b31 := Bd.o hB0 (show isO 112 3 6 = true from rfl) (show bnd 6 1 = some _ from rfl)
  have e32 : ((I10 3 1) : Int32).toInt = (I 3 1).toInt := Eq.trans (congrArg Int32.toInt kq15) rfl
  have kz33 : ((I10 3 1) : Int32).toInt = (I 3 1).toInt := e32
  have b34 := Bd.o hB0 (show isO 112 97 12 = true from rfl) (show bnd 12 8 = some _ from rfl)
  have e35 : ((I10 97 8) : Int32).toInt = (I 97 8).toInt := Eq.trans (congrArg Int32.toInt kq16) rfl
  have kz36 : ((I10 97 8) : Int32).toInt = (I 97 8).toInt := e35
  have b37 := Bd.o hB0 (show isO 112 1 11 = true from rfl) (show bnd 11 13 = some _ from rfl)
  have e38 : ((I10 1 13) : Int32).toInt = (I 1 13).toInt := Eq.trans (congrArg Int32.toInt kq17) rfl
  have kz39 : ((I10 1 13) : Int32).toInt = (I 1 13).toInt := e38
  have b40 := Bd.o hB0 (show isO 112 97 12 = true from rfl) (show bnd 12 23 = some _ from rfl)
  have e41 : ((I10 97 23) : Int32).toInt = (I 97 23).toInt := Eq.trans (congrArg Int32.toInt kq18) rfl
  have kz42 : ((I10 97 23) : Int32).toInt = (I 97 23).toInt := e41
  refine ⟨vp_of (a := (v3.toInt + 1)) e1 (by omega) (by omega), ?_⟩
  have z43 := i32 (xs (Int32.toNatClampNeg (v3 + 1)))
  refine ⟨vp_of (a := (v3.toInt + 2)) e3 (by omega) (by omega), ?_⟩
  have z44 := i32 (xs (Int32.toNatClampNeg (v3 + 2)))
  refine ⟨vp_of (a := (v3.toInt + 3)) e5 (by omega) (by omega), ?_⟩
  have z45 := i32 (xs (Int32.toNatClampNeg (v3 + 3)))
  refine ⟨vp_of (a := (v3.toInt + 4)) e7 (by omega) (by omega), ?_⟩
  have z46 := i32 (xs (Int32.toNatClampNeg (v3 + 4)))
  refine ⟨⟨hF0, rfl⟩, ?_⟩
  refine kp7 rfl hR0 rfl (kpA rfl (kpnm rfl hR0 rfl (kpW9 rfl hR0 rfl (kpFc rfl (kx (mf_oddsThat hB12 w25.1) (kp6 rfl hR0 rfl (kp4 rfl (kp5 rfl hR0 rfl (kp0 rfl (kp1 rfl (kp2 rfl (kp3 rfl (sp_X12_oddsThat hB12 hR0 (fun x47 y52 I48 J49 hB50 p51 kq56 kq55 kq54 kq53 k58 k57 k59 w65 w64 w63 w62 w61 w60 => ?_))))))))))))))
  intro o66
  have f67 : Fr pT I10 I48 := p51
  have i68 := i32 x47
  have e69 : ((I48 3 1) : Int32).toInt = (I 3 1).toInt := Eq.trans (congrArg Int32.toInt (Eq.trans kq53 kq15)) rfl
  have kz70 : ((I48 3 1) : Int32).toInt = (I 3 1).toInt := e69
  have e71 : ((I48 97 8) : Int32).toInt = (I 97 8).toInt := Eq.trans (congrArg Int32.toInt (Eq.trans kq54 kq16)) rfl
  have kz72 : ((I48 97 8) : Int32).toInt = (I 97 8).toInt := e71
  have e73 : ((I48 1 13) : Int32).toInt = (I 1 13).toInt := Eq.trans (congrArg Int32.toInt (Eq.trans kq55 kq17)) rfl
  have kz74 : ((I48 1 13) : Int32).toInt = (I 1 13).toInt := e73
  have e75 : ((I48 97 23) : Int32).toInt = (I 97 23).toInt := Eq.trans (congrArg Int32.toInt (Eq.trans kq56 kq18)) rfl
  have kz76 : ((I48 97 23) : Int32).toInt = (I 97 23).toInt := e75
  exact hN _ _ R hB50 hR0 hF0 ⟨(Eq.trans (e69) (Eq.trans hL0 (Eq.symm (e71)))), (Eq.trans (e73) (Eq.trans hL1 (Eq.symm (e75)))), (RT.kp (RT.kp hL2 k19 k20) k57 k58), ((congrFun k59 0).trans ((congrFun k21 0).trans hL3))⟩ (R3.kp (R3.kp hR3 w22 (by have ya : ((I10 3 1) : Int32).toInt = (I 3 1).toInt := e32; have yb : ((I 3 1) : Int32).toInt = (I 3 1).toInt := rfl; omega)) w60 (by have ya : ((I48 3 1) : Int32).toInt = (I 3 1).toInt := e69; have yb : ((I10 3 1) : Int32).toInt = (I 3 1).toInt := e32; omega)) (RM.kp hR0 (RM.kp hR0 hRM ⟨w23, w24, (fun j _ => congrFun w25.1 j)⟩) ⟨w61, w62, (fun j _ => f67.1 j trivial)⟩) trivial (W9.kp hR0 (W9.kp hR0 hW9 w26 w25.1 w23.2) w63 (funext fun j => f67.1 j trivial) w61.2) (FQ9.two hFR w28 w27 w65 w64)
set_option maxHeartbeats 2000000 in
theorem lc_31 {Q : Nat → Qt} {P : Kt} {L : Nat} {xs : Nat → Int32} (hc : Cl (AM 640) false true L xs 2 112 kL_law Q P) (hL : L ≤ 3584) {v3 : Int32} {I : Im} {J : Jm} {R : Rm} (hB0 : Bd I) (hR0 : RI R) (hF0 : Fl R) (hL0 : (I 3 1).toInt = (I 97 8).toInt) (hL1 : (I 1 13).toInt = (I 97 23).toInt) (hL2 : RT I) (hL3 : J 47 0 = 0) (hR3 : R3 I J) (hRM : RM I J R) (hFQ : True) (hW9 : W9 I R) (hFR : FQ9 J) (h0 : 0 ≤ v3.toInt) (h7 : v3.toInt + 7 ≤ (L : Int)) (hN : ∀ (I : Im) (J : Jm) (R : Rm), Bd I → RI R → Fl R → RLk I J → R3 I J → RM I J R → True → W9 I R → FQ9 J → P 1890 112 [(0, .ref 0), (1, .ref 1), (2, .ref 97), (3, .int v3)] [] I J R) : P 1284 112 [(0, .ref 0), (1, .ref 1), (2, .ref 97), (3, .int v3)] [] I J R := by
  have i_v3 := i32 v3
  have e97 : I 97 8 = nI (fl I) := (Int32.toInt_inj.mp hL0).symm.trans (fl_bd hB0).1
  have b31 := Bd.o hB0 (show isO 112 3 6 = true from rfl) (show bnd 6 1 = some _ from rfl)
  refine ls_1284 hc v3 _ _ _ ?_
  have e1 : ((v3 + 1) : Int32).toInt = (v3.toInt) + (1) := ti_add rfl rfl (by omega)
  refine ⟨vp_of (a := (v3.toInt + 1)) e1 (by omega) (by omega), ?_⟩
  have z2 := i32 (xs (Int32.toNatClampNeg (v3 + 1)))
  have e3 : ((v3 + 2) : Int32).toInt = (v3.toInt) + (2) := ti_add rfl rfl (by omega)
  refine ⟨vp_of (a := (v3.toInt + 2)) e3 (by omega) (by omega), ?_⟩
  have z4 := i32 (xs (Int32.toNatClampNeg (v3 + 2)))
  have e5 : ((v3 + 3) : Int32).toInt = (v3.toInt) + (3) := ti_add rfl rfl (by omega)
  refine ⟨vp_of (a := (v3.toInt + 3)) e5 (by omega) (by omega), ?_⟩
  have z6 := i32 (xs (Int32.toNatClampNeg (v3 + 3)))
  refine ⟨⟨hF0, rfl⟩, ?_⟩
  refine kp7 rfl hR0 rfl (kpA rfl (kpnm rfl hR0 rfl (kp102 rfl hR0 rfl (kpW9 rfl hR0 rfl (kpFm rfl (kpFc rfl (kp6 rfl hR0 rfl (kp4 rfl (kp5 rfl hR0 rfl (kp0 rfl (kp1 rfl (kp2 rfl (kp3 rfl (sp_X11_ask hB0 hR0 (fun x7 y12 I8 J9 hB10 p11 kq16 kq15 kq14 kq13 k18 k17 k19 w26 w25 w24 w23 w22 w21 w20 => ?_)))))))))))))))
  have i27 := i32 x7
  have b28 := Bd.o hB0 (show isO 112 3 6 = true from rfl) (show bnd 6 1 = some _ from rfl)
  have e29 : ((I8 3 1) : Int32).toInt = (I 3 1).toInt := Eq.trans (congrArg Int32.toInt kq13) rfl
  have kz30 : ((I8 3 1) : Int32).toInt = (I 3 1).toInt := e29
  have b31 := Bd.o hB0 (show isO 112 97 12 = true from rfl) (show bnd 12 8 = some _ from rfl)
  have e32 : ((I8 97 8) : Int32).toInt = (I 97 8).toInt := Eq.trans (congrArg Int32.toInt kq14) rfl
  have kz33 : ((I8 97 8) : Int32).toInt = (I 97 8).toInt := e32
  have b34 := Bd.o hB0 (show isO 112 1 11 = true from rfl) (show bnd 11 13 = some _ from rfl)
  have e35 : ((I8 1 13) : Int32).toInt = (I 1 13).toInt := Eq.trans (congrArg Int32.toInt kq15) rfl
  have kz36 : ((I8 1 13) : Int32).toInt = (I 1 13).toInt := e35
  have b37 := Bd.o hB0 (show isO 112 97 12 = true from rfl) (show bnd 12 23 = some _ from rfl)
  have e38 : ((I8 97 23) : Int32).toInt = (I 97 23).toInt := Eq.trans (congrArg Int32.toInt kq16) rfl
  have kz39 : ((I8 97 23) : Int32).toInt = (I 97 23).toInt := e38
  refine ⟨vp_of (a := (v3.toInt + 1)) e1 (by omega) (by omega), ?_⟩
  have z40 := i32 (xs (Int32.toNatClampNeg (v3 + 1)))
  refine ⟨vp_of (a := (v3.toInt + 2)) e3 (by omega) (by omega), ?_⟩
  have z41 := i32 (xs (Int32.toNatClampNeg (v3 + 2)))
  refine ⟨vp_of (a := (v3.toInt + 3)) e5 (by omega) (by omega), ?_⟩
  have z42 := i32 (xs (Int32.toNatClampNeg (v3 + 3)))
  refine ⟨⟨hF0, rfl⟩, ?_⟩
  refine kp7 rfl hR0 rfl (kpA rfl (kpnm rfl hR0 rfl (kpW9 rfl hR0 rfl (kpFc rfl (kpFm rfl (kp6 rfl hR0 rfl (kp4 rfl (kp5 rfl hR0 rfl (kp0 rfl (kp1 rfl (kp2 rfl (kp3 rfl (sp_X12_ask hB10 hR0 (fun x43 y48 I44 J45 hB46 p47 kq52 kq51 kq50 kq49 k54 k53 k55 w61 w60 w59 w58 w57 w56 => ?_))))))))))))))
  have f62 : Fr pT I8 I44 := p47
  have i63 := i32 x43
  have e64 : ((I44 3 1) : Int32).toInt = (I 3 1).toInt := Eq.trans (congrArg Int32.toInt (Eq.trans kq49 kq13)) rfl
  have kz65 : ((I44 3 1) : Int32).toInt = (I 3 1).toInt := e64
  have e66 : ((I44 97 8) : Int32).toInt = (I 97 8).toInt := Eq.trans (congrArg Int32.toInt (Eq.trans kq50 kq14)) rfl
  have kz67 : ((I44 97 8) : Int32).toInt = (I 97 8).toInt := e66
  have e68 : ((I44 1 13) : Int32).toInt = (I 1 13).toInt := Eq.trans (congrArg Int32.toInt (Eq.trans kq51 kq15)) rfl
  have kz69 : ((I44 1 13) : Int32).toInt = (I 1 13).toInt := e68
  have e70 : ((I44 97 23) : Int32).toInt = (I 97 23).toInt := Eq.trans (congrArg Int32.toInt (Eq.trans kq52 kq16)) rfl
  have kz71 : ((I44 97 23) : Int32).toInt = (I 97 23).toInt := e70
  exact hN _ _ R hB46 hR0 hF0 ⟨(Eq.trans (e64) (Eq.trans hL0 (Eq.symm (e66)))), (Eq.trans (e68) (Eq.trans hL1 (Eq.symm (e70)))), (RT.kp (RT.kp hL2 k17 k18) k53 k54), ((congrFun k55 0).trans ((congrFun k19 0).trans hL3))⟩ (R3.kp (R3.kp hR3 w20 (by have ya : ((I8 3 1) : Int32).toInt = (I 3 1).toInt := e29; have yb : ((I 3 1) : Int32).toInt = (I 3 1).toInt := rfl; omega)) w56 (by have ya : ((I44 3 1) : Int32).toInt = (I 3 1).toInt := e64; have yb : ((I8 3 1) : Int32).toInt = (I 3 1).toInt := e29; omega)) (RM.kp hR0 (RM.kp hR0 hRM ⟨w21, w22, (fun j _ => congrFun w23.1 j)⟩) ⟨w57, w58, (fun j _ => f62.1 j trivial)⟩) trivial (W9.kp hR0 (W9.kp hR0 hW9 w24 w23.1 w21.2) w59 (funext fun j => f62.1 j trivial) w57.2) (FQ9.kp (FQ9.kp hFR w26 w25) w60 w61)
set_option maxHeartbeats 2000000 in
theorem lc_32 {Q : Nat → Qt} {P : Kt} {L : Nat} {xs : Nat → Int32} (hc : Cl (AM 640) false true L xs 2 112 kL_law Q P) (hL : L ≤ 3584) {v3 : Int32} {I : Im} {J : Jm} {R : Rm} (hB0 : Bd I) (hR0 : RI R) (hF0 : Fl R) (hL0 : (I 3 1).toInt = (I 97 8).toInt) (hL1 : (I 1 13).toInt = (I 97 23).toInt) (hL2 : RT I) (hL3 : J 47 0 = 0) (hR3 : R3 I J) (hRM : RM I J R) (hFQ : True) (hW9 : W9 I R) (hFR : FQ9 J) (h0 : 0 ≤ v3.toInt) (h7 : v3.toInt + 7 ≤ (L : Int)) (hN : ∀ (I : Im) (J : Jm) (R : Rm), Bd I → RI R → Fl R → RLk I J → R3 I J → RM I J R → True → W9 I R → FQ9 J → P 1890 112 [(0, .ref 0), (1, .ref 1), (2, .ref 97), (3, .int v3)] [] I J R) : P 1327 112 [(0, .ref 0), (1, .ref 1), (2, .ref 97), (3, .int v3)] [] I J R := by
  have i_v3 := i32 v3
  have e97 : I 97 8 = nI (fl I) := (Int32.toInt_inj.mp hL0).symm.trans (fl_bd hB0).1
  have b31 := Bd.o hB0 (show isO 112 3 6 = true from rfl) (show bnd 6 1 = some _ from rfl)
  refine ls_1327 hc v3 _ _ _ ?_
  have e1 : ((v3 + 1) : Int32).toInt = (v3.toInt) + (1) := ti_add rfl rfl (by omega)
  refine ⟨vp_of (a := (v3.toInt + 1)) e1 (by omega) (by omega), ?_⟩
  have z2 := i32 (xs (Int32.toNatClampNeg (v3 + 1)))
  have e3 : ((v3 + 2) : Int32).toInt = (v3.toInt) + (2) := ti_add rfl rfl (by omega)
  refine ⟨vp_of (a := (v3.toInt + 2)) e3 (by omega) (by omega), ?_⟩
  have z4 := i32 (xs (Int32.toNatClampNeg (v3 + 2)))
  have e5 : ((v3 + 3) : Int32).toInt = (v3.toInt) + (3) := ti_add rfl rfl (by omega)
  refine ⟨vp_of (a := (v3.toInt + 3)) e5 (by omega) (by omega), ?_⟩
  have z6 := i32 (xs (Int32.toNatClampNeg (v3 + 3)))
  refine ⟨⟨hF0, rfl⟩, ?_⟩
  refine kp7 rfl hR0 rfl (kpA rfl (kpnm rfl hR0 rfl (kp102 rfl hR0 rfl (kpW9 rfl hR0 rfl (kpFm rfl (kpFc rfl (kp6 rfl hR0 rfl (kp4 rfl (kp5 rfl hR0 rfl (kp0 rfl (kp1 rfl (kp2 rfl (kp3 rfl (sp_X11_kindestAt hB0 hR0 (fun x7 y12 I8 J9 hB10 p11 kq16 kq15 kq14 kq13 k18 k17 k19 w26 w25 w24 w23 w22 w21 w20 => ?_)))))))))))))))
  have i27 := i32 x7
  have b28 := Bd.o hB0 (show isO 112 3 6 = true from rfl) (show bnd 6 1 = some _ from rfl)
  have e29 : ((I8 3 1) : Int32).toInt = (I 3 1).toInt := Eq.trans (congrArg Int32.toInt kq13) rfl
  have kz30 : ((I8 3 1) : Int32).toInt = (I 3 1).toInt := e29
  have b31 := Bd.o hB0 (show isO 112 97 12 = true from rfl) (show bnd 12 8 = some _ from rfl)
  have e32 : ((I8 97 8) : Int32).toInt = (I 97 8).toInt := Eq.trans (congrArg Int32.toInt kq14) rfl
  have kz33 : ((I8 97 8) : Int32).toInt = (I 97 8).toInt := e32
  have b34 := Bd.o hB0 (show isO 112 1 11 = true from rfl) (show bnd 11 13 = some _ from rfl)
  have e35 : ((I8 1 13) : Int32).toInt = (I 1 13).toInt := Eq.trans (congrArg Int32.toInt kq15) rfl
  have kz36 : ((I8 1 13) : Int32).toInt = (I 1 13).toInt := e35
  have b37 := Bd.o hB0 (show isO 112 97 12 = true from rfl) (show bnd 12 23 = some _ from rfl)
  have e38 : ((I8 97 23) : Int32).toInt = (I 97 23).toInt := Eq.trans (congrArg Int32.toInt kq16) rfl
  have kz39 : ((I8 97 23) : Int32).toInt = (I 97 23).toInt := e38
  refine ⟨vp_of (a := (v3.toInt + 1)) e1 (by omega) (by omega), ?_⟩
  have z40 := i32 (xs (Int32.toNatClampNeg (v3 + 1)))
  refine ⟨vp_of (a := (v3.toInt + 2)) e3 (by omega) (by omega), ?_⟩
  have z41 := i32 (xs (Int32.toNatClampNeg (v3 + 2)))
  refine ⟨vp_of (a := (v3.toInt + 3)) e5 (by omega) (by omega), ?_⟩
  have z42 := i32 (xs (Int32.toNatClampNeg (v3 + 3)))
  refine ⟨⟨hF0, rfl⟩, ?_⟩
  refine kp7 rfl hR0 rfl (kpA rfl (kpnm rfl hR0 rfl (kpW9 rfl hR0 rfl (kpFc rfl (kpFm rfl (kp6 rfl hR0 rfl (kp4 rfl (kp5 rfl hR0 rfl (kp0 rfl (kp1 rfl (kp2 rfl (kp3 rfl (sp_X12_kindestAt hB10 hR0 (fun x43 y48 I44 J45 hB46 p47 kq52 kq51 kq50 kq49 k54 k53 k55 w61 w60 w59 w58 w57 w56 => ?_))))))))))))))
  have f62 : Fr pT I8 I44 := p47
  have i63 := i32 x43
  have e64 : ((I44 3 1) : Int32).toInt = (I 3 1).toInt := Eq.trans (congrArg Int32.toInt (Eq.trans kq49 kq13)) rfl
  have kz65 : ((I44 3 1) : Int32).toInt = (I 3 1).toInt := e64
  have e66 : ((I44 97 8) : Int32).toInt = (I 97 8).toInt := Eq.trans (congrArg Int32.toInt (Eq.trans kq50 kq14)) rfl
  have kz67 : ((I44 97 8) : Int32).toInt = (I 97 8).toInt := e66
  have e68 : ((I44 1 13) : Int32).toInt = (I 1 13).toInt := Eq.trans (congrArg Int32.toInt (Eq.trans kq51 kq15)) rfl
  have kz69 : ((I44 1 13) : Int32).toInt = (I 1 13).toInt := e68
  have e70 : ((I44 97 23) : Int32).toInt = (I 97 23).toInt := Eq.trans (congrArg Int32.toInt (Eq.trans kq52 kq16)) rfl
  have kz71 : ((I44 97 23) : Int32).toInt = (I 97 23).toInt := e70
  exact hN _ _ R hB46 hR0 hF0 ⟨(Eq.trans (e64) (Eq.trans hL0 (Eq.symm (e66)))), (Eq.trans (e68) (Eq.trans hL1 (Eq.symm (e70)))), (RT.kp (RT.kp hL2 k17 k18) k53 k54), ((congrFun k55 0).trans ((congrFun k19 0).trans hL3))⟩ (R3.kp (R3.kp hR3 w20 (by have ya : ((I8 3 1) : Int32).toInt = (I 3 1).toInt := e29; have yb : ((I 3 1) : Int32).toInt = (I 3 1).toInt := rfl; omega)) w56 (by have ya : ((I44 3 1) : Int32).toInt = (I 3 1).toInt := e64; have yb : ((I8 3 1) : Int32).toInt = (I 3 1).toInt := e29; omega)) (RM.kp hR0 (RM.kp hR0 hRM ⟨w21, w22, (fun j _ => congrFun w23.1 j)⟩) ⟨w57, w58, (fun j _ => f62.1 j trivial)⟩) trivial (W9.kp hR0 (W9.kp hR0 hW9 w24 w23.1 w21.2) w59 (funext fun j => f62.1 j trivial) w57.2) (FQ9.kp (FQ9.kp hFR w26 w25) w60 w61)
set_option maxHeartbeats 2000000 in
theorem lc_33 {Q : Nat → Qt} {P : Kt} {L : Nat} {xs : Nat → Int32} (hc : Cl (AM 640) false true L xs 2 112 kL_law Q P) (hL : L ≤ 3584) {v3 : Int32} {I : Im} {J : Jm} {R : Rm} (hB0 : Bd I) (hR0 : RI R) (hF0 : Fl R) (hL0 : (I 3 1).toInt = (I 97 8).toInt) (hL1 : (I 1 13).toInt = (I 97 23).toInt) (hL2 : RT I) (hL3 : J 47 0 = 0) (hR3 : R3 I J) (hRM : RM I J R) (hFQ : True) (hW9 : W9 I R) (hFR : FQ9 J) (h0 : 0 ≤ v3.toInt) (h7 : v3.toInt + 7 ≤ (L : Int)) (hN : ∀ (I : Im) (J : Jm) (R : Rm), Bd I → RI R → Fl R → RLk I J → R3 I J → RM I J R → True → W9 I R → FQ9 J → P 1890 112 [(0, .ref 0), (1, .ref 1), (2, .ref 97), (3, .int v3)] [] I J R) : P 1370 112 [(0, .ref 0), (1, .ref 1), (2, .ref 97), (3, .int v3)] [] I J R := by
  have i_v3 := i32 v3
  have e97 : I 97 8 = nI (fl I) := (Int32.toInt_inj.mp hL0).symm.trans (fl_bd hB0).1
  have b31 := Bd.o hB0 (show isO 112 3 6 = true from rfl) (show bnd 6 1 = some _ from rfl)
  refine ls_1370 hc v3 _ _ _ ?_
  have e1 : ((v3 + 1) : Int32).toInt = (v3.toInt) + (1) := ti_add rfl rfl (by omega)
  refine ⟨vp_of (a := (v3.toInt + 1)) e1 (by omega) (by omega), ?_⟩
  have z2 := i32 (xs (Int32.toNatClampNeg (v3 + 1)))
  have e3 : ((v3 + 2) : Int32).toInt = (v3.toInt) + (2) := ti_add rfl rfl (by omega)
  refine ⟨vp_of (a := (v3.toInt + 2)) e3 (by omega) (by omega), ?_⟩
  have z4 := i32 (xs (Int32.toNatClampNeg (v3 + 2)))
  have e5 : ((v3 + 3) : Int32).toInt = (v3.toInt) + (3) := ti_add rfl rfl (by omega)
  refine ⟨vp_of (a := (v3.toInt + 3)) e5 (by omega) (by omega), ?_⟩
  have z6 := i32 (xs (Int32.toNatClampNeg (v3 + 3)))
  refine ⟨⟨hF0, rfl⟩, ?_⟩
  refine kp7 rfl hR0 rfl (kpA rfl (kpnm rfl hR0 rfl (kp102 rfl hR0 rfl (kpW9 rfl hR0 rfl (kpFm rfl (kpFc rfl (kp6 rfl hR0 rfl (kp4 rfl (kp5 rfl hR0 rfl (kp0 rfl (kp1 rfl (kp2 rfl (kp3 rfl (sp_X11_greedyAt hB0 hR0 (fun x7 y12 I8 J9 hB10 p11 kq16 kq15 kq14 kq13 k18 k17 k19 w26 w25 w24 w23 w22 w21 w20 => ?_)))))))))))))))
  have i27 := i32 x7
  have b28 := Bd.o hB0 (show isO 112 3 6 = true from rfl) (show bnd 6 1 = some _ from rfl)
  have e29 : ((I8 3 1) : Int32).toInt = (I 3 1).toInt := Eq.trans (congrArg Int32.toInt kq13) rfl
  have kz30 : ((I8 3 1) : Int32).toInt = (I 3 1).toInt := e29
  have b31 := Bd.o hB0 (show isO 112 97 12 = true from rfl) (show bnd 12 8 = some _ from rfl)
  have e32 : ((I8 97 8) : Int32).toInt = (I 97 8).toInt := Eq.trans (congrArg Int32.toInt kq14) rfl
  have kz33 : ((I8 97 8) : Int32).toInt = (I 97 8).toInt := e32
  have b34 := Bd.o hB0 (show isO 112 1 11 = true from rfl) (show bnd 11 13 = some _ from rfl)
  have e35 : ((I8 1 13) : Int32).toInt = (I 1 13).toInt := Eq.trans (congrArg Int32.toInt kq15) rfl
  have kz36 : ((I8 1 13) : Int32).toInt = (I 1 13).toInt := e35
  have b37 := Bd.o hB0 (show isO 112 97 12 = true from rfl) (show bnd 12 23 = some _ from rfl)
  have e38 : ((I8 97 23) : Int32).toInt = (I 97 23).toInt := Eq.trans (congrArg Int32.toInt kq16) rfl
  have kz39 : ((I8 97 23) : Int32).toInt = (I 97 23).toInt := e38
  refine ⟨vp_of (a := (v3.toInt + 1)) e1 (by omega) (by omega), ?_⟩
  have z40 := i32 (xs (Int32.toNatClampNeg (v3 + 1)))
  refine ⟨vp_of (a := (v3.toInt + 2)) e3 (by omega) (by omega), ?_⟩
  have z41 := i32 (xs (Int32.toNatClampNeg (v3 + 2)))
  refine ⟨vp_of (a := (v3.toInt + 3)) e5 (by omega) (by omega), ?_⟩
  have z42 := i32 (xs (Int32.toNatClampNeg (v3 + 3)))
  refine ⟨⟨hF0, rfl⟩, ?_⟩
  refine kp7 rfl hR0 rfl (kpA rfl (kpnm rfl hR0 rfl (kp102 rfl hR0 rfl (kpW9 rfl hR0 rfl (kpFc rfl (kpFm rfl (kp6 rfl hR0 rfl (kp4 rfl (kp5 rfl hR0 rfl (kp0 rfl (kp1 rfl (kp2 rfl (kp3 rfl (sp_X12_greedyAt hB10 hR0 (fun x43 y48 I44 J45 hB46 p47 kq52 kq51 kq50 kq49 k54 k53 k55 w62 w61 w60 w59 w58 w57 w56 => ?_)))))))))))))))
  have i63 := i32 x43
  have e64 : ((I44 3 1) : Int32).toInt = (I 3 1).toInt := Eq.trans (congrArg Int32.toInt (Eq.trans kq49 kq13)) rfl
  have kz65 : ((I44 3 1) : Int32).toInt = (I 3 1).toInt := e64
  have e66 : ((I44 97 8) : Int32).toInt = (I 97 8).toInt := Eq.trans (congrArg Int32.toInt (Eq.trans kq50 kq14)) rfl
  have kz67 : ((I44 97 8) : Int32).toInt = (I 97 8).toInt := e66
  have e68 : ((I44 1 13) : Int32).toInt = (I 1 13).toInt := Eq.trans (congrArg Int32.toInt (Eq.trans kq51 kq15)) rfl
  have kz69 : ((I44 1 13) : Int32).toInt = (I 1 13).toInt := e68
  have e70 : ((I44 97 23) : Int32).toInt = (I 97 23).toInt := Eq.trans (congrArg Int32.toInt (Eq.trans kq52 kq16)) rfl
  have kz71 : ((I44 97 23) : Int32).toInt = (I 97 23).toInt := e70
  exact hN _ _ R hB46 hR0 hF0 ⟨(Eq.trans (e64) (Eq.trans hL0 (Eq.symm (e66)))), (Eq.trans (e68) (Eq.trans hL1 (Eq.symm (e70)))), (RT.kp (RT.kp hL2 k17 k18) k53 k54), ((congrFun k55 0).trans ((congrFun k19 0).trans hL3))⟩ (R3.kp (R3.kp hR3 w20 (by have ya : ((I8 3 1) : Int32).toInt = (I 3 1).toInt := e29; have yb : ((I 3 1) : Int32).toInt = (I 3 1).toInt := rfl; omega)) w56 (by have ya : ((I44 3 1) : Int32).toInt = (I 3 1).toInt := e64; have yb : ((I8 3 1) : Int32).toInt = (I 3 1).toInt := e29; omega)) (RM.kp hR0 (RM.kp hR0 hRM ⟨w21, w22, (fun j _ => congrFun w23.1 j)⟩) ⟨w57, w58, (fun j _ => congrFun w59.1 j)⟩) trivial (W9.kp hR0 (W9.kp hR0 hW9 w24 w23.1 w21.2) w60 w59.1 w57.2) (FQ9.kp (FQ9.kp hFR w26 w25) w61 w62)
set_option maxHeartbeats 2000000 in
theorem lc_34 {Q : Nat → Qt} {P : Kt} {L : Nat} {xs : Nat → Int32} (hc : Cl (AM 640) false true L xs 2 112 kL_law Q P) (hL : L ≤ 3584) {v3 : Int32} {I : Im} {J : Jm} {R : Rm} (hB0 : Bd I) (hR0 : RI R) (hF0 : Fl R) (hL0 : (I 3 1).toInt = (I 97 8).toInt) (hL1 : (I 1 13).toInt = (I 97 23).toInt) (hL2 : RT I) (hL3 : J 47 0 = 0) (hR3 : R3 I J) (hRM : RM I J R) (hFQ : True) (hW9 : W9 I R) (hFR : FQ9 J) (h0 : 0 ≤ v3.toInt) (h7 : v3.toInt + 7 ≤ (L : Int)) (hN : ∀ (I : Im) (J : Jm) (R : Rm), Bd I → RI R → Fl R → RLk I J → R3 I J → RM I J R → True → W9 I R → FQ9 J → P 1890 112 [(0, .ref 0), (1, .ref 1), (2, .ref 97), (3, .int v3)] [] I J R) : P 1413 112 [(0, .ref 0), (1, .ref 1), (2, .ref 97), (3, .int v3)] [] I J R := by
  have i_v3 := i32 v3
  have e97 : I 97 8 = nI (fl I) := (Int32.toInt_inj.mp hL0).symm.trans (fl_bd hB0).1
  have b31 := Bd.o hB0 (show isO 112 3 6 = true from rfl) (show bnd 6 1 = some _ from rfl)
  refine ls_1413 hc v3 _ _ _ ?_
  have e1 : ((v3 + 1) : Int32).toInt = (v3.toInt) + (1) := ti_add rfl rfl (by omega)
  refine ⟨vp_of (a := (v3.toInt + 1)) e1 (by omega) (by omega), ?_⟩
  have z2 := i32 (xs (Int32.toNatClampNeg (v3 + 1)))
  have e3 : ((v3 + 2) : Int32).toInt = (v3.toInt) + (2) := ti_add rfl rfl (by omega)
  refine ⟨vp_of (a := (v3.toInt + 2)) e3 (by omega) (by omega), ?_⟩
  have z4 := i32 (xs (Int32.toNatClampNeg (v3 + 2)))
  have e5 : ((v3 + 3) : Int32).toInt = (v3.toInt) + (3) := ti_add rfl rfl (by omega)
  refine ⟨vp_of (a := (v3.toInt + 3)) e5 (by omega) (by omega), ?_⟩
  have z6 := i32 (xs (Int32.toNatClampNeg (v3 + 3)))
  have e7 : ((v3 + 4) : Int32).toInt = (v3.toInt) + (4) := ti_add rfl rfl (by omega)
  refine ⟨vp_of (a := (v3.toInt + 4)) e7 (by omega) (by omega), ?_⟩
  have z8 := i32 (xs (Int32.toNatClampNeg (v3 + 4)))
  refine ⟨⟨hF0, rfl⟩, ?_⟩
  refine kp7 rfl hR0 rfl (kpA rfl (kpnm rfl hR0 rfl (kp102 rfl hR0 rfl (kpW9 rfl hR0 rfl (kpFm rfl (kpFc rfl (kp6 rfl hR0 rfl (kp4 rfl (kp5 rfl hR0 rfl (kp0 rfl (kp1 rfl (kp2 rfl (kp3 rfl (sp_X11_slips hB0 hR0 (fun x9 y14 I10 J11 hB12 p13 kq18 kq17 kq16 kq15 k20 k19 k21 w28 w27 w26 w25 w24 w23 w22 => ?_)))))))))))))))
  have i29 := i32 x9
  have b30 := Bd.o hB0 (show isO 112 3 6 = true from rfl) (show bnd 6 1 = some _ from rfl)
  have e31 : ((I10 3 1) : Int32).toInt = (I 3 1).toInt := Eq.trans (congrArg Int32.toInt kq15) rfl
  have kz32 : ((I10 3 1) : Int32).toInt = (I 3 1).toInt := e31
  have b33 := Bd.o hB0 (show isO 112 97 12 = true from rfl) (show bnd 12 8 = some _ from rfl)
  have e34 : ((I10 97 8) : Int32).toInt = (I 97 8).toInt := Eq.trans (congrArg Int32.toInt kq16) rfl
  have kz35 : ((I10 97 8) : Int32).toInt = (I 97 8).toInt := e34
  have b36 := Bd.o hB0 (show isO 112 1 11 = true from rfl) (show bnd 11 13 = some _ from rfl)
  have e37 : ((I10 1 13) : Int32).toInt = (I 1 13).toInt := Eq.trans (congrArg Int32.toInt kq17) rfl
  have kz38 : ((I10 1 13) : Int32).toInt = (I 1 13).toInt := e37
  have b39 := Bd.o hB0 (show isO 112 97 12 = true from rfl) (show bnd 12 23 = some _ from rfl)
  have e40 : ((I10 97 23) : Int32).toInt = (I 97 23).toInt := Eq.trans (congrArg Int32.toInt kq18) rfl
  have kz41 : ((I10 97 23) : Int32).toInt = (I 97 23).toInt := e40
  refine ⟨vp_of (a := (v3.toInt + 1)) e1 (by omega) (by omega), ?_⟩
  have z42 := i32 (xs (Int32.toNatClampNeg (v3 + 1)))
  refine ⟨vp_of (a := (v3.toInt + 2)) e3 (by omega) (by omega), ?_⟩
  have z43 := i32 (xs (Int32.toNatClampNeg (v3 + 2)))
  refine ⟨vp_of (a := (v3.toInt + 3)) e5 (by omega) (by omega), ?_⟩
  have z44 := i32 (xs (Int32.toNatClampNeg (v3 + 3)))
  refine ⟨vp_of (a := (v3.toInt + 4)) e7 (by omega) (by omega), ?_⟩
  have z45 := i32 (xs (Int32.toNatClampNeg (v3 + 4)))
  refine ⟨⟨hF0, rfl⟩, ?_⟩
  refine kp7 rfl hR0 rfl (kpA rfl (kpnm rfl hR0 rfl (kp102 rfl hR0 rfl (kpW9 rfl hR0 rfl (kpFc rfl (kpFm rfl (kp6 rfl hR0 rfl (kp4 rfl (kp5 rfl hR0 rfl (kp0 rfl (kp1 rfl (kp2 rfl (kp3 rfl (sp_X12_slips hB12 hR0 (fun x46 y51 I47 J48 hB49 p50 kq55 kq54 kq53 kq52 k57 k56 k58 w65 w64 w63 w62 w61 w60 w59 => ?_)))))))))))))))
  have i66 := i32 x46
  have e67 : ((I47 3 1) : Int32).toInt = (I 3 1).toInt := Eq.trans (congrArg Int32.toInt (Eq.trans kq52 kq15)) rfl
  have kz68 : ((I47 3 1) : Int32).toInt = (I 3 1).toInt := e67
  have e69 : ((I47 97 8) : Int32).toInt = (I 97 8).toInt := Eq.trans (congrArg Int32.toInt (Eq.trans kq53 kq16)) rfl
  have kz70 : ((I47 97 8) : Int32).toInt = (I 97 8).toInt := e69
  have e71 : ((I47 1 13) : Int32).toInt = (I 1 13).toInt := Eq.trans (congrArg Int32.toInt (Eq.trans kq54 kq17)) rfl
  have kz72 : ((I47 1 13) : Int32).toInt = (I 1 13).toInt := e71
  have e73 : ((I47 97 23) : Int32).toInt = (I 97 23).toInt := Eq.trans (congrArg Int32.toInt (Eq.trans kq55 kq18)) rfl
  have kz74 : ((I47 97 23) : Int32).toInt = (I 97 23).toInt := e73
  exact hN _ _ R hB49 hR0 hF0 ⟨(Eq.trans (e67) (Eq.trans hL0 (Eq.symm (e69)))), (Eq.trans (e71) (Eq.trans hL1 (Eq.symm (e73)))), (RT.kp (RT.kp hL2 k19 k20) k56 k57), ((congrFun k58 0).trans ((congrFun k21 0).trans hL3))⟩ (R3.kp (R3.kp hR3 w22 (by have ya : ((I10 3 1) : Int32).toInt = (I 3 1).toInt := e31; have yb : ((I 3 1) : Int32).toInt = (I 3 1).toInt := rfl; omega)) w59 (by have ya : ((I47 3 1) : Int32).toInt = (I 3 1).toInt := e67; have yb : ((I10 3 1) : Int32).toInt = (I 3 1).toInt := e31; omega)) (RM.kp hR0 (RM.kp hR0 hRM ⟨w23, w24, (fun j _ => congrFun w25.1 j)⟩) ⟨w60, w61, (fun j _ => congrFun w62.1 j)⟩) trivial (W9.kp hR0 (W9.kp hR0 hW9 w26 w25.1 w23.2) w63 w62.1 w60.2) (FQ9.kp (FQ9.kp hFR w28 w27) w64 w65)
set_option maxHeartbeats 2000000 in
theorem lc_35 {Q : Nat → Qt} {P : Kt} {L : Nat} {xs : Nat → Int32} (hc : Cl (AM 640) false true L xs 2 112 kL_law Q P) (hL : L ≤ 3584) {v3 : Int32} {I : Im} {J : Jm} {R : Rm} (hB0 : Bd I) (hR0 : RI R) (hF0 : Fl R) (hL0 : (I 3 1).toInt = (I 97 8).toInt) (hL1 : (I 1 13).toInt = (I 97 23).toInt) (hL2 : RT I) (hL3 : J 47 0 = 0) (hR3 : R3 I J) (hRM : RM I J R) (hFQ : True) (hW9 : W9 I R) (hFR : FQ9 J) (h0 : 0 ≤ v3.toInt) (h7 : v3.toInt + 7 ≤ (L : Int)) (hN : ∀ (I : Im) (J : Jm) (R : Rm), Bd I → RI R → Fl R → RLk I J → R3 I J → RM I J R → True → W9 I R → FQ9 J → P 1890 112 [(0, .ref 0), (1, .ref 1), (2, .ref 97), (3, .int v3)] [] I J R) : P 1466 112 [(0, .ref 0), (1, .ref 1), (2, .ref 97), (3, .int v3)] [] I J R := by
  have i_v3 := i32 v3
  have e97 : I 97 8 = nI (fl I) := (Int32.toInt_inj.mp hL0).symm.trans (fl_bd hB0).1
  have b31 := Bd.o hB0 (show isO 112 3 6 = true from rfl) (show bnd 6 1 = some _ from rfl)
  refine ls_1466 hc v3 _ _ _ ?_
  have e1 : ((v3 + 1) : Int32).toInt = (v3.toInt) + (1) := ti_add rfl rfl (by omega)
  refine ⟨vp_of (a := (v3.toInt + 1)) e1 (by omega) (by omega), ?_⟩
  have z2 := i32 (xs (Int32.toNatClampNeg (v3 + 1)))
  have e3 : ((v3 + 2) : Int32).toInt = (v3.toInt) + (2) := ti_add rfl rfl (by omega)
  refine ⟨vp_of (a := (v3.toInt + 2)) e3 (by omega) (by omega), ?_⟩
  have z4 := i32 (xs (Int32.toNatClampNeg (v3 + 2)))
  have e5 : ((v3 + 3) : Int32).toInt = (v3.toInt) + (3) := ti_add rfl rfl (by omega)
  refine ⟨vp_of (a := (v3.toInt + 3)) e5 (by omega) (by omega), ?_⟩
  have z6 := i32 (xs (Int32.toNatClampNeg (v3 + 3)))
  have e7 : ((v3 + 4) : Int32).toInt = (v3.toInt) + (4) := ti_add rfl rfl (by omega)
  refine ⟨vp_of (a := (v3.toInt + 4)) e7 (by omega) (by omega), ?_⟩
  have z8 := i32 (xs (Int32.toNatClampNeg (v3 + 4)))
  have e9 : ((v3 + 5) : Int32).toInt = (v3.toInt) + (5) := ti_add rfl rfl (by omega)
  refine ⟨vp_of (a := (v3.toInt + 5)) e9 (by omega) (by omega), ?_⟩
  have z10 := i32 (xs (Int32.toNatClampNeg (v3 + 5)))
  have e11 : ((v3 + 6) : Int32).toInt = (v3.toInt) + (6) := ti_add rfl rfl (by omega)
  refine ⟨vp_of (a := (v3.toInt + 6)) e11 (by omega) (by omega), ?_⟩
  have z12 := i32 (xs (Int32.toNatClampNeg (v3 + 6)))
  refine ⟨⟨hF0, rfl⟩, ?_⟩
  refine kp7 rfl hR0 rfl (kpA rfl (kpnm rfl hR0 rfl (kp102 rfl hR0 rfl (kpW9 rfl hR0 rfl (kpFm rfl (kpFc rfl (kp6 rfl hR0 rfl (kp4 rfl (kp5 rfl hR0 rfl (kp0 rfl (kp1 rfl (kp2 rfl (kp3 rfl (sp_X11_slipAt hB0 hR0 (fun x13 y18 I14 J15 hB16 p17 kq22 kq21 kq20 kq19 k24 k23 k25 w32 w31 w30 w29 w28 w27 w26 => ?_)))))))))))))))
  have i33 := i32 x13
  have b34 := Bd.o hB0 (show isO 112 3 6 = true from rfl) (show bnd 6 1 = some _ from rfl)
  have e35 : ((I14 3 1) : Int32).toInt = (I 3 1).toInt := Eq.trans (congrArg Int32.toInt kq19) rfl
  have kz36 : ((I14 3 1) : Int32).toInt = (I 3 1).toInt := e35
  have b37 := Bd.o hB0 (show isO 112 97 12 = true from rfl) (show bnd 12 8 = some _ from rfl)
  have e38 : ((I14 97 8) : Int32).toInt = (I 97 8).toInt := Eq.trans (congrArg Int32.toInt kq20) rfl
  have kz39 : ((I14 97 8) : Int32).toInt = (I 97 8).toInt := e38
  have b40 := Bd.o hB0 (show isO 112 1 11 = true from rfl) (show bnd 11 13 = some _ from rfl)
  have e41 : ((I14 1 13) : Int32).toInt = (I 1 13).toInt := Eq.trans (congrArg Int32.toInt kq21) rfl
  have kz42 : ((I14 1 13) : Int32).toInt = (I 1 13).toInt := e41
  have b43 := Bd.o hB0 (show isO 112 97 12 = true from rfl) (show bnd 12 23 = some _ from rfl)
  have e44 : ((I14 97 23) : Int32).toInt = (I 97 23).toInt := Eq.trans (congrArg Int32.toInt kq22) rfl
  have kz45 : ((I14 97 23) : Int32).toInt = (I 97 23).toInt := e44
  refine ⟨vp_of (a := (v3.toInt + 1)) e1 (by omega) (by omega), ?_⟩
  have z46 := i32 (xs (Int32.toNatClampNeg (v3 + 1)))
  refine ⟨vp_of (a := (v3.toInt + 2)) e3 (by omega) (by omega), ?_⟩
  have z47 := i32 (xs (Int32.toNatClampNeg (v3 + 2)))
  refine ⟨vp_of (a := (v3.toInt + 3)) e5 (by omega) (by omega), ?_⟩
  have z48 := i32 (xs (Int32.toNatClampNeg (v3 + 3)))
  refine ⟨vp_of (a := (v3.toInt + 4)) e7 (by omega) (by omega), ?_⟩
  have z49 := i32 (xs (Int32.toNatClampNeg (v3 + 4)))
  refine ⟨vp_of (a := (v3.toInt + 5)) e9 (by omega) (by omega), ?_⟩
  have z50 := i32 (xs (Int32.toNatClampNeg (v3 + 5)))
  refine ⟨vp_of (a := (v3.toInt + 6)) e11 (by omega) (by omega), ?_⟩
  have z51 := i32 (xs (Int32.toNatClampNeg (v3 + 6)))
  refine ⟨⟨hF0, rfl⟩, ?_⟩
  refine kp7 rfl hR0 rfl (kpA rfl (kpnm rfl hR0 rfl (kp102 rfl hR0 rfl (kpW9 rfl hR0 rfl (kpFc rfl (kpFm rfl (kp6 rfl hR0 rfl (kp4 rfl (kp5 rfl hR0 rfl (kp0 rfl (kp1 rfl (kp2 rfl (kp3 rfl (sp_X12_slipAt hB16 hR0 (fun x52 y57 I53 J54 hB55 p56 kq61 kq60 kq59 kq58 k63 k62 k64 w71 w70 w69 w68 w67 w66 w65 => ?_)))))))))))))))
  have i72 := i32 x52
  have e73 : ((I53 3 1) : Int32).toInt = (I 3 1).toInt := Eq.trans (congrArg Int32.toInt (Eq.trans kq58 kq19)) rfl
  have kz74 : ((I53 3 1) : Int32).toInt = (I 3 1).toInt := e73
  have e75 : ((I53 97 8) : Int32).toInt = (I 97 8).toInt := Eq.trans (congrArg Int32.toInt (Eq.trans kq59 kq20)) rfl
  have kz76 : ((I53 97 8) : Int32).toInt = (I 97 8).toInt := e75
  have e77 : ((I53 1 13) : Int32).toInt = (I 1 13).toInt := Eq.trans (congrArg Int32.toInt (Eq.trans kq60 kq21)) rfl
  have kz78 : ((I53 1 13) : Int32).toInt = (I 1 13).toInt := e77
  have e79 : ((I53 97 23) : Int32).toInt = (I 97 23).toInt := Eq.trans (congrArg Int32.toInt (Eq.trans kq61 kq22)) rfl
  have kz80 : ((I53 97 23) : Int32).toInt = (I 97 23).toInt := e79
  exact hN _ _ R hB55 hR0 hF0 ⟨(Eq.trans (e73) (Eq.trans hL0 (Eq.symm (e75)))), (Eq.trans (e77) (Eq.trans hL1 (Eq.symm (e79)))), (RT.kp (RT.kp hL2 k23 k24) k62 k63), ((congrFun k64 0).trans ((congrFun k25 0).trans hL3))⟩ (R3.kp (R3.kp hR3 w26 (by have ya : ((I14 3 1) : Int32).toInt = (I 3 1).toInt := e35; have yb : ((I 3 1) : Int32).toInt = (I 3 1).toInt := rfl; omega)) w65 (by have ya : ((I53 3 1) : Int32).toInt = (I 3 1).toInt := e73; have yb : ((I14 3 1) : Int32).toInt = (I 3 1).toInt := e35; omega)) (RM.kp hR0 (RM.kp hR0 hRM ⟨w27, w28, (fun j _ => congrFun w29.1 j)⟩) ⟨w66, w67, (fun j _ => congrFun w68.1 j)⟩) trivial (W9.kp hR0 (W9.kp hR0 hW9 w30 w29.1 w27.2) w69 w68.1 w66.2) (FQ9.kp (FQ9.kp hFR w32 w31) w70 w71)
set_option maxHeartbeats 2000000 in
theorem lc_36 {Q : Nat → Qt} {P : Kt} {L : Nat} {xs : Nat → Int32} (hc : Cl (AM 640) false true L xs 2 112 kL_law Q P) (hL : L ≤ 3584) {v3 : Int32} {I : Im} {J : Jm} {R : Rm} (hB0 : Bd I) (hR0 : RI R) (hF0 : Fl R) (hL0 : (I 3 1).toInt = (I 97 8).toInt) (hL1 : (I 1 13).toInt = (I 97 23).toInt) (hL2 : RT I) (hL3 : J 47 0 = 0) (hR3 : R3 I J) (hRM : RM I J R) (hFQ : True) (hW9 : W9 I R) (hFR : FQ9 J) (h0 : 0 ≤ v3.toInt) (h7 : v3.toInt + 7 ≤ (L : Int)) (hN : ∀ (I : Im) (J : Jm) (R : Rm), Bd I → RI R → Fl R → RLk I J → R3 I J → RM I J R → True → W9 I R → FQ9 J → P 1890 112 [(0, .ref 0), (1, .ref 1), (2, .ref 97), (3, .int v3)] [] I J R) : P 1541 112 [(0, .ref 0), (1, .ref 1), (2, .ref 97), (3, .int v3)] [] I J R := by
  have i_v3 := i32 v3
  have e97 : I 97 8 = nI (fl I) := (Int32.toInt_inj.mp hL0).symm.trans (fl_bd hB0).1
  have b31 := Bd.o hB0 (show isO 112 3 6 = true from rfl) (show bnd 6 1 = some _ from rfl)
  refine ls_1541 hc v3 _ _ _ ?_
  have e1 : ((v3 + 1) : Int32).toInt = (v3.toInt) + (1) := ti_add rfl rfl (by omega)
  refine ⟨vp_of (a := (v3.toInt + 1)) e1 (by omega) (by omega), ?_⟩
  have z2 := i32 (xs (Int32.toNatClampNeg (v3 + 1)))
  refine ⟨⟨hF0, rfl⟩, ?_⟩
  refine kp7 rfl hR0 rfl (kpA rfl (kpnm rfl hR0 rfl (kp102 rfl hR0 rfl (kpW9 rfl hR0 rfl (kpFm rfl (kpFc rfl (kp6 rfl hR0 rfl (kp4 rfl (kp5 rfl hR0 rfl (kp0 rfl (kp1 rfl (kp2 rfl (kp3 rfl (sp_X11_reach hB0 hR0 (fun x3 y8 I4 J5 hB6 p7 kq12 kq11 kq10 kq9 k14 k13 k15 w22 w21 w20 w19 w18 w17 w16 => ?_)))))))))))))))
  have i23 := i32 x3
  have b24 := Bd.o hB0 (show isO 112 3 6 = true from rfl) (show bnd 6 1 = some _ from rfl)
  have e25 : ((I4 3 1) : Int32).toInt = (I 3 1).toInt := Eq.trans (congrArg Int32.toInt kq9) rfl
  have kz26 : ((I4 3 1) : Int32).toInt = (I 3 1).toInt := e25
  have b27 := Bd.o hB0 (show isO 112 97 12 = true from rfl) (show bnd 12 8 = some _ from rfl)
  have e28 : ((I4 97 8) : Int32).toInt = (I 97 8).toInt := Eq.trans (congrArg Int32.toInt kq10) rfl
  have kz29 : ((I4 97 8) : Int32).toInt = (I 97 8).toInt := e28
  have b30 := Bd.o hB0 (show isO 112 1 11 = true from rfl) (show bnd 11 13 = some _ from rfl)
  have e31 : ((I4 1 13) : Int32).toInt = (I 1 13).toInt := Eq.trans (congrArg Int32.toInt kq11) rfl
  have kz32 : ((I4 1 13) : Int32).toInt = (I 1 13).toInt := e31
  have b33 := Bd.o hB0 (show isO 112 97 12 = true from rfl) (show bnd 12 23 = some _ from rfl)
  have e34 : ((I4 97 23) : Int32).toInt = (I 97 23).toInt := Eq.trans (congrArg Int32.toInt kq12) rfl
  have kz35 : ((I4 97 23) : Int32).toInt = (I 97 23).toInt := e34
  refine ⟨vp_of (a := (v3.toInt + 1)) e1 (by omega) (by omega), ?_⟩
  have z36 := i32 (xs (Int32.toNatClampNeg (v3 + 1)))
  refine ⟨⟨hF0, rfl⟩, ?_⟩
  refine kp7 rfl hR0 rfl (kpA rfl (kpnm rfl hR0 rfl (kpW9 rfl hR0 rfl (kpFc rfl (kpFm rfl (kp6 rfl hR0 rfl (kp4 rfl (kp5 rfl hR0 rfl (kp0 rfl (kp1 rfl (kp2 rfl (kp3 rfl (sp_X12_reach hB6 hR0 (fun x37 y42 I38 J39 hB40 p41 kq46 kq45 kq44 kq43 k48 k47 k49 w55 w54 w53 w52 w51 w50 => ?_))))))))))))))
  have f56 : Fr pT I4 I38 := p41
  have i57 := i32 x37
  have e58 : ((I38 3 1) : Int32).toInt = (I 3 1).toInt := Eq.trans (congrArg Int32.toInt (Eq.trans kq43 kq9)) rfl
  have kz59 : ((I38 3 1) : Int32).toInt = (I 3 1).toInt := e58
  have e60 : ((I38 97 8) : Int32).toInt = (I 97 8).toInt := Eq.trans (congrArg Int32.toInt (Eq.trans kq44 kq10)) rfl
  have kz61 : ((I38 97 8) : Int32).toInt = (I 97 8).toInt := e60
  have e62 : ((I38 1 13) : Int32).toInt = (I 1 13).toInt := Eq.trans (congrArg Int32.toInt (Eq.trans kq45 kq11)) rfl
  have kz63 : ((I38 1 13) : Int32).toInt = (I 1 13).toInt := e62
  have e64 : ((I38 97 23) : Int32).toInt = (I 97 23).toInt := Eq.trans (congrArg Int32.toInt (Eq.trans kq46 kq12)) rfl
  have kz65 : ((I38 97 23) : Int32).toInt = (I 97 23).toInt := e64
  exact hN _ _ R hB40 hR0 hF0 ⟨(Eq.trans (e58) (Eq.trans hL0 (Eq.symm (e60)))), (Eq.trans (e62) (Eq.trans hL1 (Eq.symm (e64)))), (RT.kp (RT.kp hL2 k13 k14) k47 k48), ((congrFun k49 0).trans ((congrFun k15 0).trans hL3))⟩ (R3.kp (R3.kp hR3 w16 (by have ya : ((I4 3 1) : Int32).toInt = (I 3 1).toInt := e25; have yb : ((I 3 1) : Int32).toInt = (I 3 1).toInt := rfl; omega)) w50 (by have ya : ((I38 3 1) : Int32).toInt = (I 3 1).toInt := e58; have yb : ((I4 3 1) : Int32).toInt = (I 3 1).toInt := e25; omega)) (RM.kp hR0 (RM.kp hR0 hRM ⟨w17, w18, (fun j _ => congrFun w19.1 j)⟩) ⟨w51, w52, (fun j _ => f56.1 j trivial)⟩) trivial (W9.kp hR0 (W9.kp hR0 hW9 w20 w19.1 w17.2) w53 (funext fun j => f56.1 j trivial) w51.2) (FQ9.kp (FQ9.kp hFR w22 w21) w54 w55)
set_option maxHeartbeats 2000000 in
theorem lc_37 {Q : Nat → Qt} {P : Kt} {L : Nat} {xs : Nat → Int32} (hc : Cl (AM 640) false true L xs 2 112 kL_law Q P) (hL : L ≤ 3584) {v3 : Int32} {I : Im} {J : Jm} {R : Rm} (hB0 : Bd I) (hR0 : RI R) (hF0 : Fl R) (hL0 : (I 3 1).toInt = (I 97 8).toInt) (hL1 : (I 1 13).toInt = (I 97 23).toInt) (hL2 : RT I) (hL3 : J 47 0 = 0) (hR3 : R3 I J) (hRM : RM I J R) (hFQ : True) (hW9 : W9 I R) (hFR : FQ9 J) (h0 : 0 ≤ v3.toInt) (h7 : v3.toInt + 7 ≤ (L : Int)) (hN : ∀ (I : Im) (J : Jm) (R : Rm), Bd I → RI R → Fl R → RLk I J → R3 I J → RM I J R → True → W9 I R → FQ9 J → P 1890 112 [(0, .ref 0), (1, .ref 1), (2, .ref 97), (3, .int v3)] [] I J R) : P 1564 112 [(0, .ref 0), (1, .ref 1), (2, .ref 97), (3, .int v3)] [] I J R := by
  have i_v3 := i32 v3
  have e97 : I 97 8 = nI (fl I) := (Int32.toInt_inj.mp hL0).symm.trans (fl_bd hB0).1
  have b31 := Bd.o hB0 (show isO 112 3 6 = true from rfl) (show bnd 6 1 = some _ from rfl)
  refine ls_1564 hc v3 _ _ _ ?_
  have e1 : ((v3 + 1) : Int32).toInt = (v3.toInt) + (1) := ti_add rfl rfl (by omega)
  refine ⟨vp_of (a := (v3.toInt + 1)) e1 (by omega) (by omega), ?_⟩
  have z2 := i32 (xs (Int32.toNatClampNeg (v3 + 1)))
  have e3 : ((v3 + 2) : Int32).toInt = (v3.toInt) + (2) := ti_add rfl rfl (by omega)
  refine ⟨vp_of (a := (v3.toInt + 2)) e3 (by omega) (by omega), ?_⟩
  have z4 := i32 (xs (Int32.toNatClampNeg (v3 + 2)))
  refine ⟨⟨hF0, rfl⟩, ?_⟩
  refine kp7 rfl hR0 rfl (kpA rfl (kpnm rfl hR0 rfl (kp102 rfl hR0 rfl (kpW9 rfl hR0 rfl (kpFm rfl (kpFc rfl (kp6 rfl hR0 rfl (kp4 rfl (kp5 rfl hR0 rfl (kp0 rfl (kp1 rfl (kp2 rfl (kp3 rfl (sp_X11_reachAt hB0 hR0 (fun x5 y10 I6 J7 hB8 p9 kq14 kq13 kq12 kq11 k16 k15 k17 w24 w23 w22 w21 w20 w19 w18 => ?_)))))))))))))))
  have i25 := i32 x5
  have b26 := Bd.o hB0 (show isO 112 3 6 = true from rfl) (show bnd 6 1 = some _ from rfl)
  have e27 : ((I6 3 1) : Int32).toInt = (I 3 1).toInt := Eq.trans (congrArg Int32.toInt kq11) rfl
  have kz28 : ((I6 3 1) : Int32).toInt = (I 3 1).toInt := e27
  have b29 := Bd.o hB0 (show isO 112 97 12 = true from rfl) (show bnd 12 8 = some _ from rfl)
  have e30 : ((I6 97 8) : Int32).toInt = (I 97 8).toInt := Eq.trans (congrArg Int32.toInt kq12) rfl
  have kz31 : ((I6 97 8) : Int32).toInt = (I 97 8).toInt := e30
  have b32 := Bd.o hB0 (show isO 112 1 11 = true from rfl) (show bnd 11 13 = some _ from rfl)
  have e33 : ((I6 1 13) : Int32).toInt = (I 1 13).toInt := Eq.trans (congrArg Int32.toInt kq13) rfl
  have kz34 : ((I6 1 13) : Int32).toInt = (I 1 13).toInt := e33
  have b35 := Bd.o hB0 (show isO 112 97 12 = true from rfl) (show bnd 12 23 = some _ from rfl)
  have e36 : ((I6 97 23) : Int32).toInt = (I 97 23).toInt := Eq.trans (congrArg Int32.toInt kq14) rfl
  have kz37 : ((I6 97 23) : Int32).toInt = (I 97 23).toInt := e36
  refine ⟨vp_of (a := (v3.toInt + 1)) e1 (by omega) (by omega), ?_⟩
  have z38 := i32 (xs (Int32.toNatClampNeg (v3 + 1)))
  refine ⟨vp_of (a := (v3.toInt + 2)) e3 (by omega) (by omega), ?_⟩
  have z39 := i32 (xs (Int32.toNatClampNeg (v3 + 2)))
  refine ⟨⟨hF0, rfl⟩, ?_⟩
  refine kp7 rfl hR0 rfl (kpA rfl (kpnm rfl hR0 rfl (kpW9 rfl hR0 rfl (kpFc rfl (kpFm rfl (kp6 rfl hR0 rfl (kp4 rfl (kp5 rfl hR0 rfl (kp0 rfl (kp1 rfl (kp2 rfl (kp3 rfl (sp_X12_reachAt hB8 hR0 (fun x40 y45 I41 J42 hB43 p44 kq49 kq48 kq47 kq46 k51 k50 k52 w58 w57 w56 w55 w54 w53 => ?_))))))))))))))
  have f59 : Fr pT I6 I41 := p44
  have i60 := i32 x40
  have e61 : ((I41 3 1) : Int32).toInt = (I 3 1).toInt := Eq.trans (congrArg Int32.toInt (Eq.trans kq46 kq11)) rfl
  have kz62 : ((I41 3 1) : Int32).toInt = (I 3 1).toInt := e61
  have e63 : ((I41 97 8) : Int32).toInt = (I 97 8).toInt := Eq.trans (congrArg Int32.toInt (Eq.trans kq47 kq12)) rfl
  have kz64 : ((I41 97 8) : Int32).toInt = (I 97 8).toInt := e63
  have e65 : ((I41 1 13) : Int32).toInt = (I 1 13).toInt := Eq.trans (congrArg Int32.toInt (Eq.trans kq48 kq13)) rfl
  have kz66 : ((I41 1 13) : Int32).toInt = (I 1 13).toInt := e65
  have e67 : ((I41 97 23) : Int32).toInt = (I 97 23).toInt := Eq.trans (congrArg Int32.toInt (Eq.trans kq49 kq14)) rfl
  have kz68 : ((I41 97 23) : Int32).toInt = (I 97 23).toInt := e67
  exact hN _ _ R hB43 hR0 hF0 ⟨(Eq.trans (e61) (Eq.trans hL0 (Eq.symm (e63)))), (Eq.trans (e65) (Eq.trans hL1 (Eq.symm (e67)))), (RT.kp (RT.kp hL2 k15 k16) k50 k51), ((congrFun k52 0).trans ((congrFun k17 0).trans hL3))⟩ (R3.kp (R3.kp hR3 w18 (by have ya : ((I6 3 1) : Int32).toInt = (I 3 1).toInt := e27; have yb : ((I 3 1) : Int32).toInt = (I 3 1).toInt := rfl; omega)) w53 (by have ya : ((I41 3 1) : Int32).toInt = (I 3 1).toInt := e61; have yb : ((I6 3 1) : Int32).toInt = (I 3 1).toInt := e27; omega)) (RM.kp hR0 (RM.kp hR0 hRM ⟨w19, w20, (fun j _ => congrFun w21.1 j)⟩) ⟨w54, w55, (fun j _ => f59.1 j trivial)⟩) trivial (W9.kp hR0 (W9.kp hR0 hW9 w22 w21.1 w19.2) w56 (funext fun j => f59.1 j trivial) w54.2) (FQ9.kp (FQ9.kp hFR w24 w23) w57 w58)
set_option maxHeartbeats 2000000 in
theorem lc_38 {Q : Nat → Qt} {P : Kt} {L : Nat} {xs : Nat → Int32} (hc : Cl (AM 640) false true L xs 2 112 kL_law Q P) (hL : L ≤ 3584) {v3 : Int32} {I : Im} {J : Jm} {R : Rm} (hB0 : Bd I) (hR0 : RI R) (hF0 : Fl R) (hL0 : (I 3 1).toInt = (I 97 8).toInt) (hL1 : (I 1 13).toInt = (I 97 23).toInt) (hL2 : RT I) (hL3 : J 47 0 = 0) (hR3 : R3 I J) (hRM : RM I J R) (hFQ : True) (hW9 : W9 I R) (hFR : FQ9 J) (h0 : 0 ≤ v3.toInt) (h7 : v3.toInt + 7 ≤ (L : Int)) (hN : ∀ (I : Im) (J : Jm) (R : Rm), Bd I → RI R → Fl R → RLk I J → R3 I J → RM I J R → True → W9 I R → FQ9 J → P 1890 112 [(0, .ref 0), (1, .ref 1), (2, .ref 97), (3, .int v3)] [] I J R) : P 1597 112 [(0, .ref 0), (1, .ref 1), (2, .ref 97), (3, .int v3)] [] I J R := by
  have i_v3 := i32 v3
  have e97 : I 97 8 = nI (fl I) := (Int32.toInt_inj.mp hL0).symm.trans (fl_bd hB0).1
  have b31 := Bd.o hB0 (show isO 112 3 6 = true from rfl) (show bnd 6 1 = some _ from rfl)
  refine ls_1597 hc v3 _ _ _ ?_
  have e1 : ((v3 + 1) : Int32).toInt = (v3.toInt) + (1) := ti_add rfl rfl (by omega)
  refine ⟨vp_of (a := (v3.toInt + 1)) e1 (by omega) (by omega), ?_⟩
  have z2 := i32 (xs (Int32.toNatClampNeg (v3 + 1)))
  refine ⟨⟨hF0, rfl⟩, ?_⟩
  refine kp7 rfl hR0 rfl (kpA rfl (kpnm rfl hR0 rfl (kp102 rfl hR0 rfl (kpW9 rfl hR0 rfl (kpFm rfl (kpFc rfl (kp6 rfl hR0 rfl (kp4 rfl (kp5 rfl hR0 rfl (kp0 rfl (kp1 rfl (kp2 rfl (kp3 rfl (sp_X11_fill hB0 hR0 (fun x3 y8 I4 J5 hB6 p7 kq12 kq11 kq10 kq9 k14 k13 k15 w22 w21 w20 w19 w18 w17 w16 => ?_)))))))))))))))
  have i23 := i32 x3
  have b24 := Bd.o hB0 (show isO 112 3 6 = true from rfl) (show bnd 6 1 = some _ from rfl)
  have e25 : ((I4 3 1) : Int32).toInt = (I 3 1).toInt := Eq.trans (congrArg Int32.toInt kq9) rfl
  have kz26 : ((I4 3 1) : Int32).toInt = (I 3 1).toInt := e25
  have b27 := Bd.o hB0 (show isO 112 97 12 = true from rfl) (show bnd 12 8 = some _ from rfl)
  have e28 : ((I4 97 8) : Int32).toInt = (I 97 8).toInt := Eq.trans (congrArg Int32.toInt kq10) rfl
  have kz29 : ((I4 97 8) : Int32).toInt = (I 97 8).toInt := e28
  have b30 := Bd.o hB0 (show isO 112 1 11 = true from rfl) (show bnd 11 13 = some _ from rfl)
  have e31 : ((I4 1 13) : Int32).toInt = (I 1 13).toInt := Eq.trans (congrArg Int32.toInt kq11) rfl
  have kz32 : ((I4 1 13) : Int32).toInt = (I 1 13).toInt := e31
  have b33 := Bd.o hB0 (show isO 112 97 12 = true from rfl) (show bnd 12 23 = some _ from rfl)
  have e34 : ((I4 97 23) : Int32).toInt = (I 97 23).toInt := Eq.trans (congrArg Int32.toInt kq12) rfl
  have kz35 : ((I4 97 23) : Int32).toInt = (I 97 23).toInt := e34
  refine ⟨vp_of (a := (v3.toInt + 1)) e1 (by omega) (by omega), ?_⟩
  have z36 := i32 (xs (Int32.toNatClampNeg (v3 + 1)))
  refine ⟨⟨hF0, rfl⟩, ?_⟩
  refine kp7 rfl hR0 rfl (kpA rfl (kpnm rfl hR0 rfl (kpW9 rfl hR0 rfl (kpFc rfl (kpFm rfl (kp6 rfl hR0 rfl (kp4 rfl (kp5 rfl hR0 rfl (kp0 rfl (kp1 rfl (kp2 rfl (kp3 rfl (sp_X12_fill hB6 hR0 (fun x37 y42 I38 J39 hB40 p41 kq46 kq45 kq44 kq43 k48 k47 k49 w55 w54 w53 w52 w51 w50 => ?_))))))))))))))
  have f56 : Fr pT I4 I38 := p41
  have i57 := i32 x37
  have e58 : ((I38 3 1) : Int32).toInt = (I 3 1).toInt := Eq.trans (congrArg Int32.toInt (Eq.trans kq43 kq9)) rfl
  have kz59 : ((I38 3 1) : Int32).toInt = (I 3 1).toInt := e58
  have e60 : ((I38 97 8) : Int32).toInt = (I 97 8).toInt := Eq.trans (congrArg Int32.toInt (Eq.trans kq44 kq10)) rfl
  have kz61 : ((I38 97 8) : Int32).toInt = (I 97 8).toInt := e60
  have e62 : ((I38 1 13) : Int32).toInt = (I 1 13).toInt := Eq.trans (congrArg Int32.toInt (Eq.trans kq45 kq11)) rfl
  have kz63 : ((I38 1 13) : Int32).toInt = (I 1 13).toInt := e62
  have e64 : ((I38 97 23) : Int32).toInt = (I 97 23).toInt := Eq.trans (congrArg Int32.toInt (Eq.trans kq46 kq12)) rfl
  have kz65 : ((I38 97 23) : Int32).toInt = (I 97 23).toInt := e64
  exact hN _ _ R hB40 hR0 hF0 ⟨(Eq.trans (e58) (Eq.trans hL0 (Eq.symm (e60)))), (Eq.trans (e62) (Eq.trans hL1 (Eq.symm (e64)))), (RT.kp (RT.kp hL2 k13 k14) k47 k48), ((congrFun k49 0).trans ((congrFun k15 0).trans hL3))⟩ (R3.kp (R3.kp hR3 w16 (by have ya : ((I4 3 1) : Int32).toInt = (I 3 1).toInt := e25; have yb : ((I 3 1) : Int32).toInt = (I 3 1).toInt := rfl; omega)) w50 (by have ya : ((I38 3 1) : Int32).toInt = (I 3 1).toInt := e58; have yb : ((I4 3 1) : Int32).toInt = (I 3 1).toInt := e25; omega)) (RM.kp hR0 (RM.kp hR0 hRM ⟨w17, w18, (fun j _ => congrFun w19.1 j)⟩) ⟨w51, w52, (fun j _ => f56.1 j trivial)⟩) trivial (W9.kp hR0 (W9.kp hR0 hW9 w20 w19.1 w17.2) w53 (funext fun j => f56.1 j trivial) w51.2) (FQ9.kp (FQ9.kp hFR w22 w21) w54 w55)
set_option maxHeartbeats 2000000 in
theorem lc_39 {Q : Nat → Qt} {P : Kt} {L : Nat} {xs : Nat → Int32} (hc : Cl (AM 640) false true L xs 2 112 kL_law Q P) (hL : L ≤ 3584) {v3 : Int32} {I : Im} {J : Jm} {R : Rm} (hB0 : Bd I) (hR0 : RI R) (hF0 : Fl R) (hL0 : (I 3 1).toInt = (I 97 8).toInt) (hL1 : (I 1 13).toInt = (I 97 23).toInt) (hL2 : RT I) (hL3 : J 47 0 = 0) (hR3 : R3 I J) (hRM : RM I J R) (hFQ : True) (hW9 : W9 I R) (hFR : FQ9 J) (h0 : 0 ≤ v3.toInt) (h7 : v3.toInt + 7 ≤ (L : Int)) (hN : ∀ (I : Im) (J : Jm) (R : Rm), Bd I → RI R → Fl R → RLk I J → R3 I J → RM I J R → True → W9 I R → FQ9 J → P 1890 112 [(0, .ref 0), (1, .ref 1), (2, .ref 97), (3, .int v3)] [] I J R) : P 1620 112 [(0, .ref 0), (1, .ref 1), (2, .ref 97), (3, .int v3)] [] I J R := by
  have i_v3 := i32 v3
  have e97 : I 97 8 = nI (fl I) := (Int32.toInt_inj.mp hL0).symm.trans (fl_bd hB0).1
  have b31 := Bd.o hB0 (show isO 112 3 6 = true from rfl) (show bnd 6 1 = some _ from rfl)
  refine ls_1620 hc v3 _ _ _ ?_
  have e1 : ((v3 + 1) : Int32).toInt = (v3.toInt) + (1) := ti_add rfl rfl (by omega)
  refine ⟨vp_of (a := (v3.toInt + 1)) e1 (by omega) (by omega), ?_⟩
  have z2 := i32 (xs (Int32.toNatClampNeg (v3 + 1)))
  have e3 : ((v3 + 2) : Int32).toInt = (v3.toInt) + (2) := ti_add rfl rfl (by omega)
  refine ⟨vp_of (a := (v3.toInt + 2)) e3 (by omega) (by omega), ?_⟩
  have z4 := i32 (xs (Int32.toNatClampNeg (v3 + 2)))
  refine ⟨⟨hF0, rfl⟩, ?_⟩
  refine kp7 rfl hR0 rfl (kpA rfl (kpnm rfl hR0 rfl (kp102 rfl hR0 rfl (kpW9 rfl hR0 rfl (kpFm rfl (kpFc rfl (kp6 rfl hR0 rfl (kp4 rfl (kp5 rfl hR0 rfl (kp0 rfl (kp1 rfl (kp2 rfl (kp3 rfl (sp_X11_fillAt hB0 hR0 (fun x5 y10 I6 J7 hB8 p9 kq14 kq13 kq12 kq11 k16 k15 k17 w24 w23 w22 w21 w20 w19 w18 => ?_)))))))))))))))
  have i25 := i32 x5
  have b26 := Bd.o hB0 (show isO 112 3 6 = true from rfl) (show bnd 6 1 = some _ from rfl)
  have e27 : ((I6 3 1) : Int32).toInt = (I 3 1).toInt := Eq.trans (congrArg Int32.toInt kq11) rfl
  have kz28 : ((I6 3 1) : Int32).toInt = (I 3 1).toInt := e27
  have b29 := Bd.o hB0 (show isO 112 97 12 = true from rfl) (show bnd 12 8 = some _ from rfl)
  have e30 : ((I6 97 8) : Int32).toInt = (I 97 8).toInt := Eq.trans (congrArg Int32.toInt kq12) rfl
  have kz31 : ((I6 97 8) : Int32).toInt = (I 97 8).toInt := e30
  have b32 := Bd.o hB0 (show isO 112 1 11 = true from rfl) (show bnd 11 13 = some _ from rfl)
  have e33 : ((I6 1 13) : Int32).toInt = (I 1 13).toInt := Eq.trans (congrArg Int32.toInt kq13) rfl
  have kz34 : ((I6 1 13) : Int32).toInt = (I 1 13).toInt := e33
  have b35 := Bd.o hB0 (show isO 112 97 12 = true from rfl) (show bnd 12 23 = some _ from rfl)
  have e36 : ((I6 97 23) : Int32).toInt = (I 97 23).toInt := Eq.trans (congrArg Int32.toInt kq14) rfl
  have kz37 : ((I6 97 23) : Int32).toInt = (I 97 23).toInt := e36
  refine ⟨vp_of (a := (v3.toInt + 1)) e1 (by omega) (by omega), ?_⟩
  have z38 := i32 (xs (Int32.toNatClampNeg (v3 + 1)))
  refine ⟨vp_of (a := (v3.toInt + 2)) e3 (by omega) (by omega), ?_⟩
  have z39 := i32 (xs (Int32.toNatClampNeg (v3 + 2)))
  refine ⟨⟨hF0, rfl⟩, ?_⟩
  refine kp7 rfl hR0 rfl (kpA rfl (kpnm rfl hR0 rfl (kpW9 rfl hR0 rfl (kpFc rfl (kpFm rfl (kp6 rfl hR0 rfl (kp4 rfl (kp5 rfl hR0 rfl (kp0 rfl (kp1 rfl (kp2 rfl (kp3 rfl (sp_X12_fillAt hB8 hR0 (fun x40 y45 I41 J42 hB43 p44 kq49 kq48 kq47 kq46 k51 k50 k52 w58 w57 w56 w55 w54 w53 => ?_))))))))))))))
  have f59 : Fr pT I6 I41 := p44
  have i60 := i32 x40
  have e61 : ((I41 3 1) : Int32).toInt = (I 3 1).toInt := Eq.trans (congrArg Int32.toInt (Eq.trans kq46 kq11)) rfl
  have kz62 : ((I41 3 1) : Int32).toInt = (I 3 1).toInt := e61
  have e63 : ((I41 97 8) : Int32).toInt = (I 97 8).toInt := Eq.trans (congrArg Int32.toInt (Eq.trans kq47 kq12)) rfl
  have kz64 : ((I41 97 8) : Int32).toInt = (I 97 8).toInt := e63
  have e65 : ((I41 1 13) : Int32).toInt = (I 1 13).toInt := Eq.trans (congrArg Int32.toInt (Eq.trans kq48 kq13)) rfl
  have kz66 : ((I41 1 13) : Int32).toInt = (I 1 13).toInt := e65
  have e67 : ((I41 97 23) : Int32).toInt = (I 97 23).toInt := Eq.trans (congrArg Int32.toInt (Eq.trans kq49 kq14)) rfl
  have kz68 : ((I41 97 23) : Int32).toInt = (I 97 23).toInt := e67
  exact hN _ _ R hB43 hR0 hF0 ⟨(Eq.trans (e61) (Eq.trans hL0 (Eq.symm (e63)))), (Eq.trans (e65) (Eq.trans hL1 (Eq.symm (e67)))), (RT.kp (RT.kp hL2 k15 k16) k50 k51), ((congrFun k52 0).trans ((congrFun k17 0).trans hL3))⟩ (R3.kp (R3.kp hR3 w18 (by have ya : ((I6 3 1) : Int32).toInt = (I 3 1).toInt := e27; have yb : ((I 3 1) : Int32).toInt = (I 3 1).toInt := rfl; omega)) w53 (by have ya : ((I41 3 1) : Int32).toInt = (I 3 1).toInt := e61; have yb : ((I6 3 1) : Int32).toInt = (I 3 1).toInt := e27; omega)) (RM.kp hR0 (RM.kp hR0 hRM ⟨w19, w20, (fun j _ => congrFun w21.1 j)⟩) ⟨w54, w55, (fun j _ => f59.1 j trivial)⟩) trivial (W9.kp hR0 (W9.kp hR0 hW9 w22 w21.1 w19.2) w56 (funext fun j => f59.1 j trivial) w54.2) (FQ9.kp (FQ9.kp hFR w24 w23) w57 w58)
set_option maxHeartbeats 2000000 in
theorem lc_40 {Q : Nat → Qt} {P : Kt} {L : Nat} {xs : Nat → Int32} (hc : Cl (AM 640) false true L xs 2 112 kL_law Q P) (hL : L ≤ 3584) {v3 : Int32} {I : Im} {J : Jm} {R : Rm} (hB0 : Bd I) (hR0 : RI R) (hF0 : Fl R) (hL0 : (I 3 1).toInt = (I 97 8).toInt) (hL1 : (I 1 13).toInt = (I 97 23).toInt) (hL2 : RT I) (hL3 : J 47 0 = 0) (hR3 : R3 I J) (hRM : RM I J R) (hFQ : True) (hW9 : W9 I R) (hFR : FQ9 J) (h0 : 0 ≤ v3.toInt) (h7 : v3.toInt + 7 ≤ (L : Int)) (hN : ∀ (I : Im) (J : Jm) (R : Rm), Bd I → RI R → Fl R → RLk I J → R3 I J → RM I J R → True → W9 I R → FQ9 J → P 1890 112 [(0, .ref 0), (1, .ref 1), (2, .ref 97), (3, .int v3)] [] I J R) : P 1653 112 [(0, .ref 0), (1, .ref 1), (2, .ref 97), (3, .int v3)] [] I J R := by
  have i_v3 := i32 v3
  have e97 : I 97 8 = nI (fl I) := (Int32.toInt_inj.mp hL0).symm.trans (fl_bd hB0).1
  have b31 := Bd.o hB0 (show isO 112 3 6 = true from rfl) (show bnd 6 1 = some _ from rfl)
  refine ls_1653 hc v3 _ _ _ ?_
  have e1 : ((v3 + 1) : Int32).toInt = (v3.toInt) + (1) := ti_add rfl rfl (by omega)
  refine ⟨vp_of (a := (v3.toInt + 1)) e1 (by omega) (by omega), ?_⟩
  have z2 := i32 (xs (Int32.toNatClampNeg (v3 + 1)))
  refine ⟨⟨hF0, rfl⟩, ?_⟩
  refine kp7 rfl hR0 rfl (kpA rfl (kpnm rfl hR0 rfl (kp102 rfl hR0 rfl (kpW9 rfl hR0 rfl (kpFm rfl (kpFc rfl (kp4 rfl (kp5 rfl hR0 rfl (kp0 rfl (kp1 rfl (kp2 rfl (kp3 rfl (gx_X11_plate hB0 hR0 hL3 (fun x3 y8 I4 J5 hB6 p7 kq12 kq11 kq10 kq9 k14 k13 w21 w20 w19 w18 w17 w16 w15 => ?_))))))))))))))
  have i22 := i32 x3
  have b23 := Bd.o hB0 (show isO 112 3 6 = true from rfl) (show bnd 6 1 = some _ from rfl)
  have e24 : ((I4 3 1) : Int32).toInt = (I 3 1).toInt := Eq.trans (congrArg Int32.toInt kq9) rfl
  have kz25 : ((I4 3 1) : Int32).toInt = (I 3 1).toInt := e24
  have b26 := Bd.o hB0 (show isO 112 97 12 = true from rfl) (show bnd 12 8 = some _ from rfl)
  have e27 : ((I4 97 8) : Int32).toInt = (I 97 8).toInt := Eq.trans (congrArg Int32.toInt kq10) rfl
  have kz28 : ((I4 97 8) : Int32).toInt = (I 97 8).toInt := e27
  have b29 := Bd.o hB0 (show isO 112 1 11 = true from rfl) (show bnd 11 13 = some _ from rfl)
  have e30 : ((I4 1 13) : Int32).toInt = (I 1 13).toInt := Eq.trans (congrArg Int32.toInt kq11) rfl
  have kz31 : ((I4 1 13) : Int32).toInt = (I 1 13).toInt := e30
  have b32 := Bd.o hB0 (show isO 112 97 12 = true from rfl) (show bnd 12 23 = some _ from rfl)
  have e33 : ((I4 97 23) : Int32).toInt = (I 97 23).toInt := Eq.trans (congrArg Int32.toInt kq12) rfl
  have kz34 : ((I4 97 23) : Int32).toInt = (I 97 23).toInt := e33
  refine ⟨vp_of (a := (v3.toInt + 1)) e1 (by omega) (by omega), ?_⟩
  have z35 := i32 (xs (Int32.toNatClampNeg (v3 + 1)))
  refine ⟨⟨hF0, rfl⟩, ?_⟩
  refine kp7 rfl hR0 rfl (kpA rfl (kpnm rfl hR0 rfl (kp102 rfl hR0 rfl (kpW9 rfl hR0 rfl (kpFc rfl (kpFm rfl (kp6 rfl hR0 rfl (kp4 rfl (kp5 rfl hR0 rfl (kp0 rfl (kp1 rfl (kp2 rfl (kp3 rfl (gx_X12_plate hB6 hR0 (fun x36 y41 I37 J38 hB39 p40 kq45 kq44 kq43 kq42 k47 k46 k48 w55 w54 w53 w52 w51 w50 w49 => ?_)))))))))))))))
  have i56 := i32 x36
  have e57 : ((I37 3 1) : Int32).toInt = (I 3 1).toInt := Eq.trans (congrArg Int32.toInt (Eq.trans kq42 kq9)) rfl
  have kz58 : ((I37 3 1) : Int32).toInt = (I 3 1).toInt := e57
  have e59 : ((I37 97 8) : Int32).toInt = (I 97 8).toInt := Eq.trans (congrArg Int32.toInt (Eq.trans kq43 kq10)) rfl
  have kz60 : ((I37 97 8) : Int32).toInt = (I 97 8).toInt := e59
  have e61 : ((I37 1 13) : Int32).toInt = (I 1 13).toInt := Eq.trans (congrArg Int32.toInt (Eq.trans kq44 kq11)) rfl
  have kz62 : ((I37 1 13) : Int32).toInt = (I 1 13).toInt := e61
  have e63 : ((I37 97 23) : Int32).toInt = (I 97 23).toInt := Eq.trans (congrArg Int32.toInt (Eq.trans kq45 kq12)) rfl
  have kz64 : ((I37 97 23) : Int32).toInt = (I 97 23).toInt := e63
  have hg65 : (x36 : Int32).toInt = (x3 : Int32).toInt := PL1.eq p40 p7.2
  exact hN _ _ R hB39 hR0 hF0 ⟨(Eq.trans (e57) (Eq.trans hL0 (Eq.symm (e59)))), (Eq.trans (e61) (Eq.trans hL1 (Eq.symm (e63)))), (RT.kp (RT.kp hL2 k13 k14) k46 k47), ((congrFun k48 0).trans (p7.1))⟩ (R3.kp (R3.kp hR3 w15 (by have ya : ((I4 3 1) : Int32).toInt = (I 3 1).toInt := e24; have yb : ((I 3 1) : Int32).toInt = (I 3 1).toInt := rfl; omega)) w49 (by have ya : ((I37 3 1) : Int32).toInt = (I 3 1).toInt := e57; have yb : ((I4 3 1) : Int32).toInt = (I 3 1).toInt := e24; omega)) (RM.kp hR0 (RM.kp hR0 hRM ⟨w16, w17, (fun j _ => congrFun w18.1 j)⟩) ⟨w50, w51, (fun j _ => congrFun w52.1 j)⟩) trivial (W9.kp hR0 (W9.kp hR0 hW9 w19 w18.1 w16.2) w53 w52.1 w50.2) (FQ9.kp (FQ9.kp hFR w21 w20) w54 w55)
set_option maxHeartbeats 2000000 in
theorem lc_41 {Q : Nat → Qt} {P : Kt} {L : Nat} {xs : Nat → Int32} (hc : Cl (AM 640) false true L xs 2 112 kL_law Q P) (hL : L ≤ 3584) {v3 : Int32} {I : Im} {J : Jm} {R : Rm} (hB0 : Bd I) (hR0 : RI R) (hF0 : Fl R) (hL0 : (I 3 1).toInt = (I 97 8).toInt) (hL1 : (I 1 13).toInt = (I 97 23).toInt) (hL2 : RT I) (hL3 : J 47 0 = 0) (hR3 : R3 I J) (hRM : RM I J R) (hFQ : True) (hW9 : W9 I R) (hFR : FQ9 J) (h0 : 0 ≤ v3.toInt) (h7 : v3.toInt + 7 ≤ (L : Int)) (hN : ∀ (I : Im) (J : Jm) (R : Rm), Bd I → RI R → Fl R → RLk I J → R3 I J → RM I J R → True → W9 I R → FQ9 J → P 1890 112 [(0, .ref 0), (1, .ref 1), (2, .ref 97), (3, .int v3)] [] I J R) : P 1676 112 [(0, .ref 0), (1, .ref 1), (2, .ref 97), (3, .int v3)] [] I J R := by
  have i_v3 := i32 v3
  have e97 : I 97 8 = nI (fl I) := (Int32.toInt_inj.mp hL0).symm.trans (fl_bd hB0).1
  have b31 := Bd.o hB0 (show isO 112 3 6 = true from rfl) (show bnd 6 1 = some _ from rfl)
  refine ls_1676 hc v3 _ _ _ ?_
  have e1 : ((v3 + 1) : Int32).toInt = (v3.toInt) + (1) := ti_add rfl rfl (by omega)
  refine ⟨vp_of (a := (v3.toInt + 1)) e1 (by omega) (by omega), ?_⟩
  have z2 := i32 (xs (Int32.toNatClampNeg (v3 + 1)))
  refine ⟨⟨hF0, rfl⟩, ?_⟩
  refine kp7 rfl hR0 rfl (kpA rfl (kpnm rfl hR0 rfl (kp102 rfl hR0 rfl (kpW9 rfl hR0 rfl (kpFm rfl (kpFc rfl (kp4 rfl (kp5 rfl hR0 rfl (kp0 rfl (kp1 rfl (kp2 rfl (kp3 rfl (gx_X11_plateMove hB0 hR0 hL3 (fun x3 y8 I4 J5 hB6 p7 kq12 kq11 kq10 kq9 k14 k13 w21 w20 w19 w18 w17 w16 w15 => ?_))))))))))))))
  have i22 := i32 x3
  have b23 := Bd.o hB0 (show isO 112 3 6 = true from rfl) (show bnd 6 1 = some _ from rfl)
  have e24 : ((I4 3 1) : Int32).toInt = (I 3 1).toInt := Eq.trans (congrArg Int32.toInt kq9) rfl
  have kz25 : ((I4 3 1) : Int32).toInt = (I 3 1).toInt := e24
  have b26 := Bd.o hB0 (show isO 112 97 12 = true from rfl) (show bnd 12 8 = some _ from rfl)
  have e27 : ((I4 97 8) : Int32).toInt = (I 97 8).toInt := Eq.trans (congrArg Int32.toInt kq10) rfl
  have kz28 : ((I4 97 8) : Int32).toInt = (I 97 8).toInt := e27
  have b29 := Bd.o hB0 (show isO 112 1 11 = true from rfl) (show bnd 11 13 = some _ from rfl)
  have e30 : ((I4 1 13) : Int32).toInt = (I 1 13).toInt := Eq.trans (congrArg Int32.toInt kq11) rfl
  have kz31 : ((I4 1 13) : Int32).toInt = (I 1 13).toInt := e30
  have b32 := Bd.o hB0 (show isO 112 97 12 = true from rfl) (show bnd 12 23 = some _ from rfl)
  have e33 : ((I4 97 23) : Int32).toInt = (I 97 23).toInt := Eq.trans (congrArg Int32.toInt kq12) rfl
  have kz34 : ((I4 97 23) : Int32).toInt = (I 97 23).toInt := e33
  refine ⟨vp_of (a := (v3.toInt + 1)) e1 (by omega) (by omega), ?_⟩
  have z35 := i32 (xs (Int32.toNatClampNeg (v3 + 1)))
  refine ⟨⟨hF0, rfl⟩, ?_⟩
  refine kp7 rfl hR0 rfl (kpA rfl (kpnm rfl hR0 rfl (kp102 rfl hR0 rfl (kpW9 rfl hR0 rfl (kpFc rfl (kpFm rfl (kp6 rfl hR0 rfl (kp4 rfl (kp5 rfl hR0 rfl (kp0 rfl (kp1 rfl (kp2 rfl (kp3 rfl (gx_X12_plateMove hB6 hR0 (fun x36 y41 I37 J38 hB39 p40 kq45 kq44 kq43 kq42 k47 k46 k48 w55 w54 w53 w52 w51 w50 w49 => ?_)))))))))))))))
  have i56 := i32 x36
  have e57 : ((I37 3 1) : Int32).toInt = (I 3 1).toInt := Eq.trans (congrArg Int32.toInt (Eq.trans kq42 kq9)) rfl
  have kz58 : ((I37 3 1) : Int32).toInt = (I 3 1).toInt := e57
  have e59 : ((I37 97 8) : Int32).toInt = (I 97 8).toInt := Eq.trans (congrArg Int32.toInt (Eq.trans kq43 kq10)) rfl
  have kz60 : ((I37 97 8) : Int32).toInt = (I 97 8).toInt := e59
  have e61 : ((I37 1 13) : Int32).toInt = (I 1 13).toInt := Eq.trans (congrArg Int32.toInt (Eq.trans kq44 kq11)) rfl
  have kz62 : ((I37 1 13) : Int32).toInt = (I 1 13).toInt := e61
  have e63 : ((I37 97 23) : Int32).toInt = (I 97 23).toInt := Eq.trans (congrArg Int32.toInt (Eq.trans kq45 kq12)) rfl
  have kz64 : ((I37 97 23) : Int32).toInt = (I 97 23).toInt := e63
  have hg65 : (x36 : Int32).toInt = (x3 : Int32).toInt := PL2.eq p40 p7.2
  exact hN _ _ R hB39 hR0 hF0 ⟨(Eq.trans (e57) (Eq.trans hL0 (Eq.symm (e59)))), (Eq.trans (e61) (Eq.trans hL1 (Eq.symm (e63)))), (RT.kp (RT.kp hL2 k13 k14) k46 k47), ((congrFun k48 0).trans (p7.1))⟩ (R3.kp (R3.kp hR3 w15 (by have ya : ((I4 3 1) : Int32).toInt = (I 3 1).toInt := e24; have yb : ((I 3 1) : Int32).toInt = (I 3 1).toInt := rfl; omega)) w49 (by have ya : ((I37 3 1) : Int32).toInt = (I 3 1).toInt := e57; have yb : ((I4 3 1) : Int32).toInt = (I 3 1).toInt := e24; omega)) (RM.kp hR0 (RM.kp hR0 hRM ⟨w16, w17, (fun j _ => congrFun w18.1 j)⟩) ⟨w50, w51, (fun j _ => congrFun w52.1 j)⟩) trivial (W9.kp hR0 (W9.kp hR0 hW9 w19 w18.1 w16.2) w53 w52.1 w50.2) (FQ9.kp (FQ9.kp hFR w21 w20) w54 w55)
set_option maxHeartbeats 2000000 in
theorem lc_42 {Q : Nat → Qt} {P : Kt} {L : Nat} {xs : Nat → Int32} (hc : Cl (AM 640) false true L xs 2 112 kL_law Q P) (hL : L ≤ 3584) {v3 : Int32} {I : Im} {J : Jm} {R : Rm} (hB0 : Bd I) (hR0 : RI R) (hF0 : Fl R) (hL0 : (I 3 1).toInt = (I 97 8).toInt) (hL1 : (I 1 13).toInt = (I 97 23).toInt) (hL2 : RT I) (hL3 : J 47 0 = 0) (hR3 : R3 I J) (hRM : RM I J R) (hFQ : True) (hW9 : W9 I R) (hFR : FQ9 J) (h0 : 0 ≤ v3.toInt) (h7 : v3.toInt + 7 ≤ (L : Int)) (hN : ∀ (I : Im) (J : Jm) (R : Rm), Bd I → RI R → Fl R → RLk I J → R3 I J → RM I J R → True → W9 I R → FQ9 J → P 1890 112 [(0, .ref 0), (1, .ref 1), (2, .ref 97), (3, .int v3)] [] I J R) : P 1699 112 [(0, .ref 0), (1, .ref 1), (2, .ref 97), (3, .int v3)] [] I J R := by
  have i_v3 := i32 v3
  have e97 : I 97 8 = nI (fl I) := (Int32.toInt_inj.mp hL0).symm.trans (fl_bd hB0).1
  have b31 := Bd.o hB0 (show isO 112 3 6 = true from rfl) (show bnd 6 1 = some _ from rfl)
  refine ls_1699 hc v3 _ _ _ ?_
  have e1 : ((v3 + 1) : Int32).toInt = (v3.toInt) + (1) := ti_add rfl rfl (by omega)
  refine ⟨vp_of (a := (v3.toInt + 1)) e1 (by omega) (by omega), ?_⟩
  have z2 := i32 (xs (Int32.toNatClampNeg (v3 + 1)))
  have e3 : ((v3 + 2) : Int32).toInt = (v3.toInt) + (2) := ti_add rfl rfl (by omega)
  refine ⟨vp_of (a := (v3.toInt + 2)) e3 (by omega) (by omega), ?_⟩
  have z4 := i32 (xs (Int32.toNatClampNeg (v3 + 2)))
  have e5 : ((v3 + 3) : Int32).toInt = (v3.toInt) + (3) := ti_add rfl rfl (by omega)
  refine ⟨vp_of (a := (v3.toInt + 3)) e5 (by omega) (by omega), ?_⟩
  have z6 := i32 (xs (Int32.toNatClampNeg (v3 + 3)))
  have e7 : ((v3 + 4) : Int32).toInt = (v3.toInt) + (4) := ti_add rfl rfl (by omega)
  refine ⟨vp_of (a := (v3.toInt + 4)) e7 (by omega) (by omega), ?_⟩
  have z8 := i32 (xs (Int32.toNatClampNeg (v3 + 4)))
  refine ⟨⟨hF0, rfl⟩, ?_⟩
  refine kp7 rfl hR0 rfl (kpA rfl (kpnm rfl hR0 rfl (kp102 rfl hR0 rfl (kpW9 rfl hR0 rfl (kpFm rfl (kx (cf_luck hB0 hR0 hL3) (kp4 rfl (kp5 rfl hR0 rfl (kp0 rfl (kp1 rfl (kp2 rfl (kp3 rfl (gx_X11_luck hB0 hR0 hL3 (fun x9 y14 I10 J11 hB12 p13 kq18 kq17 kq16 kq15 k20 k19 w27 w26 w25 w24 w23 w22 w21 => ?_))))))))))))))
  intro o28
  have i29 := i32 x9
  have b30 := Bd.o hB0 (show isO 112 3 6 = true from rfl) (show bnd 6 1 = some _ from rfl)
  have e31 : ((I10 3 1) : Int32).toInt = (I 3 1).toInt := Eq.trans (congrArg Int32.toInt kq15) rfl
  have kz32 : ((I10 3 1) : Int32).toInt = (I 3 1).toInt := e31
  have b33 := Bd.o hB0 (show isO 112 97 12 = true from rfl) (show bnd 12 8 = some _ from rfl)
  have e34 : ((I10 97 8) : Int32).toInt = (I 97 8).toInt := Eq.trans (congrArg Int32.toInt kq16) rfl
  have kz35 : ((I10 97 8) : Int32).toInt = (I 97 8).toInt := e34
  have b36 := Bd.o hB0 (show isO 112 1 11 = true from rfl) (show bnd 11 13 = some _ from rfl)
  have e37 : ((I10 1 13) : Int32).toInt = (I 1 13).toInt := Eq.trans (congrArg Int32.toInt kq17) rfl
  have kz38 : ((I10 1 13) : Int32).toInt = (I 1 13).toInt := e37
  have b39 := Bd.o hB0 (show isO 112 97 12 = true from rfl) (show bnd 12 23 = some _ from rfl)
  have e40 : ((I10 97 23) : Int32).toInt = (I 97 23).toInt := Eq.trans (congrArg Int32.toInt kq18) rfl
  have kz41 : ((I10 97 23) : Int32).toInt = (I 97 23).toInt := e40
  refine ⟨vp_of (a := (v3.toInt + 1)) e1 (by omega) (by omega), ?_⟩
  have z42 := i32 (xs (Int32.toNatClampNeg (v3 + 1)))
  refine ⟨vp_of (a := (v3.toInt + 2)) e3 (by omega) (by omega), ?_⟩
  have z43 := i32 (xs (Int32.toNatClampNeg (v3 + 2)))
  refine ⟨vp_of (a := (v3.toInt + 3)) e5 (by omega) (by omega), ?_⟩
  have z44 := i32 (xs (Int32.toNatClampNeg (v3 + 3)))
  refine ⟨vp_of (a := (v3.toInt + 4)) e7 (by omega) (by omega), ?_⟩
  have z45 := i32 (xs (Int32.toNatClampNeg (v3 + 4)))
  refine ⟨⟨hF0, rfl⟩, ?_⟩
  refine kp7 rfl hR0 rfl (kpA rfl (kpnm rfl hR0 rfl (kp102 rfl hR0 rfl (kpW9 rfl hR0 rfl (kpFc rfl (kx (mf_luck hB12 hR0) (kp6 rfl hR0 rfl (kp4 rfl (kp5 rfl hR0 rfl (kp0 rfl (kp1 rfl (kp2 rfl (kp3 rfl (sp_X12_luck hB12 hR0 (fun x46 y51 I47 J48 hB49 p50 kq55 kq54 kq53 kq52 k57 k56 k58 w65 w64 w63 w62 w61 w60 w59 => ?_)))))))))))))))
  intro o66
  have i67 := i32 x46
  have e68 : ((I47 3 1) : Int32).toInt = (I 3 1).toInt := Eq.trans (congrArg Int32.toInt (Eq.trans kq52 kq15)) rfl
  have kz69 : ((I47 3 1) : Int32).toInt = (I 3 1).toInt := e68
  have e70 : ((I47 97 8) : Int32).toInt = (I 97 8).toInt := Eq.trans (congrArg Int32.toInt (Eq.trans kq53 kq16)) rfl
  have kz71 : ((I47 97 8) : Int32).toInt = (I 97 8).toInt := e70
  have e72 : ((I47 1 13) : Int32).toInt = (I 1 13).toInt := Eq.trans (congrArg Int32.toInt (Eq.trans kq54 kq17)) rfl
  have kz73 : ((I47 1 13) : Int32).toInt = (I 1 13).toInt := e72
  have e74 : ((I47 97 23) : Int32).toInt = (I 97 23).toInt := Eq.trans (congrArg Int32.toInt (Eq.trans kq55 kq18)) rfl
  have kz75 : ((I47 97 23) : Int32).toInt = (I 97 23).toInt := e74
  exact hN _ _ R hB49 hR0 hF0 ⟨(Eq.trans (e68) (Eq.trans hL0 (Eq.symm (e70)))), (Eq.trans (e72) (Eq.trans hL1 (Eq.symm (e74)))), (RT.kp (RT.kp hL2 k19 k20) k56 k57), ((congrFun k58 0).trans (p13.1))⟩ (R3.kp (R3.kp hR3 w21 (by have ya : ((I10 3 1) : Int32).toInt = (I 3 1).toInt := e31; have yb : ((I 3 1) : Int32).toInt = (I 3 1).toInt := rfl; omega)) w59 (by have ya : ((I47 3 1) : Int32).toInt = (I 3 1).toInt := e68; have yb : ((I10 3 1) : Int32).toInt = (I 3 1).toInt := e31; omega)) (RM.kp hR0 (RM.kp hR0 hRM ⟨w22, w23, (fun j _ => congrFun w24.1 j)⟩) ⟨w60, w61, (fun j _ => congrFun w62.1 j)⟩) trivial (W9.kp hR0 (W9.kp hR0 hW9 w25 w24.1 w22.2) w63 w62.1 w60.2) (FQ9.two hFR w27 w26 w65 w64)
set_option maxHeartbeats 2000000 in
theorem lc_43 {Q : Nat → Qt} {P : Kt} {L : Nat} {xs : Nat → Int32} (hc : Cl (AM 640) false true L xs 2 112 kL_law Q P) (hL : L ≤ 3584) {v3 : Int32} {I : Im} {J : Jm} {R : Rm} (hB0 : Bd I) (hR0 : RI R) (hF0 : Fl R) (hL0 : (I 3 1).toInt = (I 97 8).toInt) (hL1 : (I 1 13).toInt = (I 97 23).toInt) (hL2 : RT I) (hL3 : J 47 0 = 0) (hR3 : R3 I J) (hRM : RM I J R) (hFQ : True) (hW9 : W9 I R) (hFR : FQ9 J) (h0 : 0 ≤ v3.toInt) (h7 : v3.toInt + 7 ≤ (L : Int)) (hN : ∀ (I : Im) (J : Jm) (R : Rm), Bd I → RI R → Fl R → RLk I J → R3 I J → RM I J R → True → W9 I R → FQ9 J → P 1890 112 [(0, .ref 0), (1, .ref 1), (2, .ref 97), (3, .int v3)] [] I J R) : P 1752 112 [(0, .ref 0), (1, .ref 1), (2, .ref 97), (3, .int v3)] [] I J R := by
  have i_v3 := i32 v3
  have e97 : I 97 8 = nI (fl I) := (Int32.toInt_inj.mp hL0).symm.trans (fl_bd hB0).1
  have b31 := Bd.o hB0 (show isO 112 3 6 = true from rfl) (show bnd 6 1 = some _ from rfl)
  refine ls_1752 hc v3 _ _ _ ?_
  have e1 : ((v3 + 1) : Int32).toInt = (v3.toInt) + (1) := ti_add rfl rfl (by omega)
  refine ⟨vp_of (a := (v3.toInt + 1)) e1 (by omega) (by omega), ?_⟩
  have z2 := i32 (xs (Int32.toNatClampNeg (v3 + 1)))
  have e3 : ((v3 + 2) : Int32).toInt = (v3.toInt) + (2) := ti_add rfl rfl (by omega)
  refine ⟨vp_of (a := (v3.toInt + 2)) e3 (by omega) (by omega), ?_⟩
  have z4 := i32 (xs (Int32.toNatClampNeg (v3 + 2)))
  refine ⟨⟨hF0, rfl⟩, ?_⟩
  refine kp7 rfl hR0 rfl (kpA rfl (kpnm rfl hR0 rfl (kp102 rfl hR0 rfl (kpW9 rfl hR0 rfl (kpFm rfl (kx (cf_burnt hR0 (W9.odd hW9)) (kp6 rfl hR0 rfl (kp4 rfl (kp5 rfl hR0 rfl (kp0 rfl (kp1 rfl (kp2 rfl (kp3 rfl (sp_X11_burnt hB0 hR0 (fun x5 y10 I6 J7 hB8 p9 kq14 kq13 kq12 kq11 k16 k15 k17 w24 w23 w22 w21 w20 w19 w18 => ?_)))))))))))))))
  intro o25
  have i26 := i32 x5
  have b27 := Bd.o hB0 (show isO 112 3 6 = true from rfl) (show bnd 6 1 = some _ from rfl)
  have e28 : ((I6 3 1) : Int32).toInt = (I 3 1).toInt := Eq.trans (congrArg Int32.toInt kq11) rfl
  have kz29 : ((I6 3 1) : Int32).toInt = (I 3 1).toInt := e28
  have b30 := Bd.o hB0 (show isO 112 97 12 = true from rfl) (show bnd 12 8 = some _ from rfl)
  have e31 : ((I6 97 8) : Int32).toInt = (I 97 8).toInt := Eq.trans (congrArg Int32.toInt kq12) rfl
  have kz32 : ((I6 97 8) : Int32).toInt = (I 97 8).toInt := e31
  have b33 := Bd.o hB0 (show isO 112 1 11 = true from rfl) (show bnd 11 13 = some _ from rfl)
  have e34 : ((I6 1 13) : Int32).toInt = (I 1 13).toInt := Eq.trans (congrArg Int32.toInt kq13) rfl
  have kz35 : ((I6 1 13) : Int32).toInt = (I 1 13).toInt := e34
  have b36 := Bd.o hB0 (show isO 112 97 12 = true from rfl) (show bnd 12 23 = some _ from rfl)
  have e37 : ((I6 97 23) : Int32).toInt = (I 97 23).toInt := Eq.trans (congrArg Int32.toInt kq14) rfl
  have kz38 : ((I6 97 23) : Int32).toInt = (I 97 23).toInt := e37
  refine ⟨vp_of (a := (v3.toInt + 1)) e1 (by omega) (by omega), ?_⟩
  have z39 := i32 (xs (Int32.toNatClampNeg (v3 + 1)))
  refine ⟨vp_of (a := (v3.toInt + 2)) e3 (by omega) (by omega), ?_⟩
  have z40 := i32 (xs (Int32.toNatClampNeg (v3 + 2)))
  refine ⟨⟨hF0, rfl⟩, ?_⟩
  refine kp7 rfl hR0 rfl (kpA rfl (kpnm rfl hR0 rfl (kti rfl (kpW9 rfl hR0 rfl (kpFc rfl (kx (mf_burnt w21.1) (kp6 rfl hR0 rfl (kp4 rfl (kp5 rfl hR0 rfl (kp0 rfl (kp1 rfl (kp2 rfl (kp3 rfl (sp_X12_burnt hB8 hR0 (fun x41 y46 I42 J43 hB44 p45 kq50 kq49 kq48 kq47 k52 k51 k53 w60 w59 w58 w57 w56 w55 w54 => ?_)))))))))))))))
  intro o61
  have i62 := i32 x41
  have e63 : ((I42 3 1) : Int32).toInt = (I 3 1).toInt := Eq.trans (congrArg Int32.toInt (Eq.trans kq47 kq11)) rfl
  have kz64 : ((I42 3 1) : Int32).toInt = (I 3 1).toInt := e63
  have e65 : ((I42 97 8) : Int32).toInt = (I 97 8).toInt := Eq.trans (congrArg Int32.toInt (Eq.trans kq48 kq12)) rfl
  have kz66 : ((I42 97 8) : Int32).toInt = (I 97 8).toInt := e65
  have e67 : ((I42 1 13) : Int32).toInt = (I 1 13).toInt := Eq.trans (congrArg Int32.toInt (Eq.trans kq49 kq13)) rfl
  have kz68 : ((I42 1 13) : Int32).toInt = (I 1 13).toInt := e67
  have e69 : ((I42 97 23) : Int32).toInt = (I 97 23).toInt := Eq.trans (congrArg Int32.toInt (Eq.trans kq50 kq14)) rfl
  have kz70 : ((I42 97 23) : Int32).toInt = (I 97 23).toInt := e69
  exact hN _ _ R hB44 hR0 hF0 ⟨(Eq.trans (e63) (Eq.trans hL0 (Eq.symm (e65)))), (Eq.trans (e67) (Eq.trans hL1 (Eq.symm (e69)))), (RT.kp (RT.kp hL2 k15 k16) k51 k52), ((congrFun k53 0).trans ((congrFun k17 0).trans hL3))⟩ (R3.kp (R3.kp hR3 w18 (by have ya : ((I6 3 1) : Int32).toInt = (I 3 1).toInt := e28; have yb : ((I 3 1) : Int32).toInt = (I 3 1).toInt := rfl; omega)) w54 (by have ya : ((I42 3 1) : Int32).toInt = (I 3 1).toInt := e63; have yb : ((I6 3 1) : Int32).toInt = (I 3 1).toInt := e28; omega)) (RM.kp hR0 (RM.kp hR0 hRM ⟨w19, w20, (fun j _ => congrFun w21.1 j)⟩) ⟨w55, w56, (fun j _ => congrFun w57 j)⟩) trivial (W9.kp hR0 (W9.kp hR0 hW9 w22 w21.1 w19.2) w58 w57 w55.2) (FQ9.two hFR w24 w23 w60 w59)
set_option maxHeartbeats 2000000 in
theorem lc_44 {Q : Nat → Qt} {P : Kt} {L : Nat} {xs : Nat → Int32} (hc : Cl (AM 640) false true L xs 2 112 kL_law Q P) (hL : L ≤ 3584) {v3 : Int32} {I : Im} {J : Jm} {R : Rm} (hB0 : Bd I) (hR0 : RI R) (hF0 : Fl R) (hL0 : (I 3 1).toInt = (I 97 8).toInt) (hL1 : (I 1 13).toInt = (I 97 23).toInt) (hL2 : RT I) (hL3 : J 47 0 = 0) (hR3 : R3 I J) (hRM : RM I J R) (hFQ : True) (hW9 : W9 I R) (hFR : FQ9 J) (h0 : 0 ≤ v3.toInt) (h7 : v3.toInt + 7 ≤ (L : Int)) (hN : ∀ (I : Im) (J : Jm) (R : Rm), Bd I → RI R → Fl R → RLk I J → R3 I J → RM I J R → True → W9 I R → FQ9 J → P 1890 112 [(0, .ref 0), (1, .ref 1), (2, .ref 97), (3, .int v3)] [] I J R) : P 1785 112 [(0, .ref 0), (1, .ref 1), (2, .ref 97), (3, .int v3)] [] I J R := by
  have i_v3 := i32 v3
  have e97 : I 97 8 = nI (fl I) := (Int32.toInt_inj.mp hL0).symm.trans (fl_bd hB0).1
  have b31 := Bd.o hB0 (show isO 112 3 6 = true from rfl) (show bnd 6 1 = some _ from rfl)
  refine ls_1785 hc v3 _ _ _ ?_
  have e1 : ((v3 + 1) : Int32).toInt = (v3.toInt) + (1) := ti_add rfl rfl (by omega)
  refine ⟨vp_of (a := (v3.toInt + 1)) e1 (by omega) (by omega), ?_⟩
  have z2 := i32 (xs (Int32.toNatClampNeg (v3 + 1)))
  refine ⟨⟨hF0, rfl⟩, ?_⟩
  refine kp7 rfl hR0 rfl (kpA rfl (kpnm rfl hR0 rfl (kp102 rfl hR0 rfl (kx (cx_live9 hB0 hR0 hRM.1.1 hW9) (kpFm rfl (kpFc rfl (kp6 rfl hR0 rfl (kp4 rfl (kp5 rfl hR0 rfl (kp0 rfl (kp1 rfl (kp2 rfl (kp3 rfl (sp_X11_live hB0 hR0 (fun x3 y8 I4 J5 hB6 p7 kq12 kq11 kq10 kq9 k14 k13 k15 w22 w21 w20 w19 w18 w17 w16 => ?_)))))))))))))))
  have i23 := i32 x3
  have b24 := Bd.o hB0 (show isO 112 3 6 = true from rfl) (show bnd 6 1 = some _ from rfl)
  have e25 : ((I4 3 1) : Int32).toInt = (I 3 1).toInt := Eq.trans (congrArg Int32.toInt kq9) rfl
  have kz26 : ((I4 3 1) : Int32).toInt = (I 3 1).toInt := e25
  have b27 := Bd.o hB0 (show isO 112 97 12 = true from rfl) (show bnd 12 8 = some _ from rfl)
  have e28 : ((I4 97 8) : Int32).toInt = (I 97 8).toInt := Eq.trans (congrArg Int32.toInt kq10) rfl
  have kz29 : ((I4 97 8) : Int32).toInt = (I 97 8).toInt := e28
  have b30 := Bd.o hB0 (show isO 112 1 11 = true from rfl) (show bnd 11 13 = some _ from rfl)
  have e31 : ((I4 1 13) : Int32).toInt = (I 1 13).toInt := Eq.trans (congrArg Int32.toInt kq11) rfl
  have kz32 : ((I4 1 13) : Int32).toInt = (I 1 13).toInt := e31
  have b33 := Bd.o hB0 (show isO 112 97 12 = true from rfl) (show bnd 12 23 = some _ from rfl)
  have e34 : ((I4 97 23) : Int32).toInt = (I 97 23).toInt := Eq.trans (congrArg Int32.toInt kq12) rfl
  have kz35 : ((I4 97 23) : Int32).toInt = (I 97 23).toInt := e34
  refine ⟨vp_of (a := (v3.toInt + 1)) e1 (by omega) (by omega), ?_⟩
  have z36 := i32 (xs (Int32.toNatClampNeg (v3 + 1)))
  refine ⟨⟨hF0, rfl⟩, ?_⟩
  refine kp7 rfl hR0 rfl (kpA rfl (kpnm rfl hR0 rfl (kx (mx_live9 hR0 hB0 hW9 w20) (kpFc rfl (kpFm rfl (kp6 rfl hR0 rfl (kp4 rfl (kp5 rfl hR0 rfl (kp0 rfl (kp1 rfl (kp2 rfl (kp3 rfl (sp_X12_live hB6 hR0 (fun x37 y42 I38 J39 hB40 p41 kq46 kq45 kq44 kq43 k48 k47 k49 w55 w54 w53 w52 w51 w50 => ?_))))))))))))))
  have f56 : Fr pK I4 I38 := p41
  have i57 := i32 x37
  have e58 : ((I38 3 1) : Int32).toInt = (I 3 1).toInt := Eq.trans (congrArg Int32.toInt (Eq.trans kq43 kq9)) rfl
  have kz59 : ((I38 3 1) : Int32).toInt = (I 3 1).toInt := e58
  have e60 : ((I38 97 8) : Int32).toInt = (I 97 8).toInt := Eq.trans (congrArg Int32.toInt (Eq.trans kq44 kq10)) rfl
  have kz61 : ((I38 97 8) : Int32).toInt = (I 97 8).toInt := e60
  have e62 : ((I38 1 13) : Int32).toInt = (I 1 13).toInt := Eq.trans (congrArg Int32.toInt (Eq.trans kq45 kq11)) rfl
  have kz63 : ((I38 1 13) : Int32).toInt = (I 1 13).toInt := e62
  have e64 : ((I38 97 23) : Int32).toInt = (I 97 23).toInt := Eq.trans (congrArg Int32.toInt (Eq.trans kq46 kq12)) rfl
  have kz65 : ((I38 97 23) : Int32).toInt = (I 97 23).toInt := e64
  have hg66 : (x37 : Int32).toInt = (x3 : Int32).toInt := congrArg Int32.toInt (w53.1)
  exact hN _ _ R hB40 hR0 hF0 ⟨(Eq.trans (e58) (Eq.trans hL0 (Eq.symm (e60)))), (Eq.trans (e62) (Eq.trans hL1 (Eq.symm (e64)))), (RT.kp (RT.kp hL2 k13 k14) k47 k48), ((congrFun k49 0).trans ((congrFun k15 0).trans hL3))⟩ (R3.kp (R3.kp hR3 w16 (by have ya : ((I4 3 1) : Int32).toInt = (I 3 1).toInt := e25; have yb : ((I 3 1) : Int32).toInt = (I 3 1).toInt := rfl; omega)) w50 (by have ya : ((I38 3 1) : Int32).toInt = (I 3 1).toInt := e58; have yb : ((I4 3 1) : Int32).toInt = (I 3 1).toInt := e25; omega)) (RM.kp hR0 (RM.kp hR0 hRM ⟨w17, w18, (fun j _ => congrFun w19.1 j)⟩) ⟨w51, w52, (fun j hj => f56.1 j hj)⟩) trivial (w53.2.1) (FQ9.kp (FQ9.kp hFR w22 w21) w54 w55)
set_option maxHeartbeats 2000000 in
theorem lc_45 {Q : Nat → Qt} {P : Kt} {L : Nat} {xs : Nat → Int32} (hc : Cl (AM 640) false true L xs 2 112 kL_law Q P) (hL : L ≤ 3584) {v3 : Int32} {I : Im} {J : Jm} {R : Rm} (hB0 : Bd I) (hR0 : RI R) (hF0 : Fl R) (hL0 : (I 3 1).toInt = (I 97 8).toInt) (hL1 : (I 1 13).toInt = (I 97 23).toInt) (hL2 : RT I) (hL3 : J 47 0 = 0) (hR3 : R3 I J) (hRM : RM I J R) (hFQ : True) (hW9 : W9 I R) (hFR : FQ9 J) (h0 : 0 ≤ v3.toInt) (h7 : v3.toInt + 7 ≤ (L : Int)) (hN : ∀ (I : Im) (J : Jm) (R : Rm), Bd I → RI R → Fl R → RLk I J → R3 I J → RM I J R → True → W9 I R → FQ9 J → P 1890 112 [(0, .ref 0), (1, .ref 1), (2, .ref 97), (3, .int v3)] [] I J R) : P 1808 112 [(0, .ref 0), (1, .ref 1), (2, .ref 97), (3, .int v3)] [] I J R := by
  have i_v3 := i32 v3
  have e97 : I 97 8 = nI (fl I) := (Int32.toInt_inj.mp hL0).symm.trans (fl_bd hB0).1
  have b31 := Bd.o hB0 (show isO 112 3 6 = true from rfl) (show bnd 6 1 = some _ from rfl)
  refine ls_1808 hc v3 _ _ _ ?_
  have e1 : ((v3 + 1) : Int32).toInt = (v3.toInt) + (1) := ti_add rfl rfl (by omega)
  refine ⟨vp_of (a := (v3.toInt + 1)) e1 (by omega) (by omega), ?_⟩
  have z2 := i32 (xs (Int32.toNatClampNeg (v3 + 1)))
  refine ⟨⟨hF0, rfl⟩, ?_⟩
  refine kp7 rfl hR0 rfl (kpA rfl (kpnm rfl hR0 rfl (kp102 rfl hR0 rfl (kpW9 rfl hR0 rfl (kpFm rfl (kpFc rfl (kp6 rfl hR0 rfl (kp4 rfl (kp5 rfl hR0 rfl (kp0 rfl (kp1 rfl (kp2 rfl (kp3 rfl (sp_X11_lived hB0 hR0 (fun x3 y8 I4 J5 hB6 p7 kq12 kq11 kq10 kq9 k14 k13 k15 w22 w21 w20 w19 w18 w17 w16 => ?_)))))))))))))))
  have i23 := i32 x3
  have b24 := Bd.o hB0 (show isO 112 3 6 = true from rfl) (show bnd 6 1 = some _ from rfl)
  have e25 : ((I4 3 1) : Int32).toInt = (I 3 1).toInt := Eq.trans (congrArg Int32.toInt kq9) rfl
  have kz26 : ((I4 3 1) : Int32).toInt = (I 3 1).toInt := e25
  have b27 := Bd.o hB0 (show isO 112 97 12 = true from rfl) (show bnd 12 8 = some _ from rfl)
  have e28 : ((I4 97 8) : Int32).toInt = (I 97 8).toInt := Eq.trans (congrArg Int32.toInt kq10) rfl
  have kz29 : ((I4 97 8) : Int32).toInt = (I 97 8).toInt := e28
  have b30 := Bd.o hB0 (show isO 112 1 11 = true from rfl) (show bnd 11 13 = some _ from rfl)
  have e31 : ((I4 1 13) : Int32).toInt = (I 1 13).toInt := Eq.trans (congrArg Int32.toInt kq11) rfl
  have kz32 : ((I4 1 13) : Int32).toInt = (I 1 13).toInt := e31
  have b33 := Bd.o hB0 (show isO 112 97 12 = true from rfl) (show bnd 12 23 = some _ from rfl)
  have e34 : ((I4 97 23) : Int32).toInt = (I 97 23).toInt := Eq.trans (congrArg Int32.toInt kq12) rfl
  have kz35 : ((I4 97 23) : Int32).toInt = (I 97 23).toInt := e34
  refine ⟨vp_of (a := (v3.toInt + 1)) e1 (by omega) (by omega), ?_⟩
  have z36 := i32 (xs (Int32.toNatClampNeg (v3 + 1)))
  refine ⟨⟨hF0, rfl⟩, ?_⟩
  refine kp7 rfl hR0 rfl (kpA rfl (kpnm rfl hR0 rfl (kp102 rfl hR0 rfl (kpW9 rfl hR0 rfl (kpFc rfl (kpFm rfl (kp6 rfl hR0 rfl (kp4 rfl (kp5 rfl hR0 rfl (kp0 rfl (kp1 rfl (kp2 rfl (kp3 rfl (sp_X12_lived hB6 hR0 (fun x37 y42 I38 J39 hB40 p41 kq46 kq45 kq44 kq43 k48 k47 k49 w56 w55 w54 w53 w52 w51 w50 => ?_)))))))))))))))
  have i57 := i32 x37
  have e58 : ((I38 3 1) : Int32).toInt = (I 3 1).toInt := Eq.trans (congrArg Int32.toInt (Eq.trans kq43 kq9)) rfl
  have kz59 : ((I38 3 1) : Int32).toInt = (I 3 1).toInt := e58
  have e60 : ((I38 97 8) : Int32).toInt = (I 97 8).toInt := Eq.trans (congrArg Int32.toInt (Eq.trans kq44 kq10)) rfl
  have kz61 : ((I38 97 8) : Int32).toInt = (I 97 8).toInt := e60
  have e62 : ((I38 1 13) : Int32).toInt = (I 1 13).toInt := Eq.trans (congrArg Int32.toInt (Eq.trans kq45 kq11)) rfl
  have kz63 : ((I38 1 13) : Int32).toInt = (I 1 13).toInt := e62
  have e64 : ((I38 97 23) : Int32).toInt = (I 97 23).toInt := Eq.trans (congrArg Int32.toInt (Eq.trans kq46 kq12)) rfl
  have kz65 : ((I38 97 23) : Int32).toInt = (I 97 23).toInt := e64
  exact hN _ _ R hB40 hR0 hF0 ⟨(Eq.trans (e58) (Eq.trans hL0 (Eq.symm (e60)))), (Eq.trans (e62) (Eq.trans hL1 (Eq.symm (e64)))), (RT.kp (RT.kp hL2 k13 k14) k47 k48), ((congrFun k49 0).trans ((congrFun k15 0).trans hL3))⟩ (R3.kp (R3.kp hR3 w16 (by have ya : ((I4 3 1) : Int32).toInt = (I 3 1).toInt := e25; have yb : ((I 3 1) : Int32).toInt = (I 3 1).toInt := rfl; omega)) w50 (by have ya : ((I38 3 1) : Int32).toInt = (I 3 1).toInt := e58; have yb : ((I4 3 1) : Int32).toInt = (I 3 1).toInt := e25; omega)) (RM.kp hR0 (RM.kp hR0 hRM ⟨w17, w18, (fun j _ => congrFun w19.1 j)⟩) ⟨w51, w52, (fun j _ => congrFun w53.1 j)⟩) trivial (W9.kp hR0 (W9.kp hR0 hW9 w20 w19.1 w17.2) w54 w53.1 w51.2) (FQ9.kp (FQ9.kp hFR w22 w21) w55 w56)
set_option maxHeartbeats 2000000 in
theorem lc_46 {Q : Nat → Qt} {P : Kt} {L : Nat} {xs : Nat → Int32} (hc : Cl (AM 640) false true L xs 2 112 kL_law Q P) (hL : L ≤ 3584) {v3 : Int32} {I : Im} {J : Jm} {R : Rm} (hB0 : Bd I) (hR0 : RI R) (hF0 : Fl R) (hL0 : (I 3 1).toInt = (I 97 8).toInt) (hL1 : (I 1 13).toInt = (I 97 23).toInt) (hL2 : RT I) (hL3 : J 47 0 = 0) (hR3 : R3 I J) (hRM : RM I J R) (hFQ : True) (hW9 : W9 I R) (hFR : FQ9 J) (h0 : 0 ≤ v3.toInt) (h7 : v3.toInt + 7 ≤ (L : Int)) (hN : ∀ (I : Im) (J : Jm) (R : Rm), Bd I → RI R → Fl R → RLk I J → R3 I J → RM I J R → True → W9 I R → FQ9 J → P 1890 112 [(0, .ref 0), (1, .ref 1), (2, .ref 97), (3, .int v3)] [] I J R) : P 1831 112 [(0, .ref 0), (1, .ref 1), (2, .ref 97), (3, .int v3)] [] I J R := by
  have i_v3 := i32 v3
  have e97 : I 97 8 = nI (fl I) := (Int32.toInt_inj.mp hL0).symm.trans (fl_bd hB0).1
  have b31 := Bd.o hB0 (show isO 112 3 6 = true from rfl) (show bnd 6 1 = some _ from rfl)
  refine ls_1831 hc v3 _ _ _ ?_
  have e1 : ((v3 + 1) : Int32).toInt = (v3.toInt) + (1) := ti_add rfl rfl (by omega)
  refine ⟨vp_of (a := (v3.toInt + 1)) e1 (by omega) (by omega), ?_⟩
  have z2 := i32 (xs (Int32.toNatClampNeg (v3 + 1)))
  have e3 : ((v3 + 2) : Int32).toInt = (v3.toInt) + (2) := ti_add rfl rfl (by omega)
  refine ⟨vp_of (a := (v3.toInt + 2)) e3 (by omega) (by omega), ?_⟩
  have z4 := i32 (xs (Int32.toNatClampNeg (v3 + 2)))
  refine ⟨⟨hF0, rfl⟩, ?_⟩
  refine kp7 rfl hR0 rfl (kx (cx_mean hB0 hR0) (kx (cx_mean9 hB0 hR0 hRM.1.1 hW9) (kpFm rfl (kx (cf_mean hB0 hR0 hRM.1.1 hW9) (kp6 rfl hR0 rfl (kp4 rfl (kp5 rfl hR0 rfl (kp0 rfl (kp1 rfl (kp2 rfl (kp3 rfl (sp_X11_mean hB0 hR0 (fun x5 y10 I6 J7 hB8 p9 kq14 kq13 kq12 kq11 k16 k15 k17 w22 w21 w20 w19 w18 => ?_)))))))))))))
  intro o23
  have i24 := i32 x5
  have b25 := Bd.o hB0 (show isO 112 3 6 = true from rfl) (show bnd 6 1 = some _ from rfl)
  have e26 : ((I6 3 1) : Int32).toInt = (I 3 1).toInt := Eq.trans (congrArg Int32.toInt kq11) rfl
  have kz27 : ((I6 3 1) : Int32).toInt = (I 3 1).toInt := e26
  have b28 := Bd.o hB0 (show isO 112 97 12 = true from rfl) (show bnd 12 8 = some _ from rfl)
  have e29 : ((I6 97 8) : Int32).toInt = (I 97 8).toInt := Eq.trans (congrArg Int32.toInt kq12) rfl
  have kz30 : ((I6 97 8) : Int32).toInt = (I 97 8).toInt := e29
  have b31 := Bd.o hB0 (show isO 112 1 11 = true from rfl) (show bnd 11 13 = some _ from rfl)
  have e32 : ((I6 1 13) : Int32).toInt = (I 1 13).toInt := Eq.trans (congrArg Int32.toInt kq13) rfl
  have kz33 : ((I6 1 13) : Int32).toInt = (I 1 13).toInt := e32
  have b34 := Bd.o hB0 (show isO 112 97 12 = true from rfl) (show bnd 12 23 = some _ from rfl)
  have e35 : ((I6 97 23) : Int32).toInt = (I 97 23).toInt := Eq.trans (congrArg Int32.toInt kq14) rfl
  have kz36 : ((I6 97 23) : Int32).toInt = (I 97 23).toInt := e35
  refine ⟨vp_of (a := (v3.toInt + 1)) e1 (by omega) (by omega), ?_⟩
  have z37 := i32 (xs (Int32.toNatClampNeg (v3 + 1)))
  refine ⟨vp_of (a := (v3.toInt + 2)) e3 (by omega) (by omega), ?_⟩
  have z38 := i32 (xs (Int32.toNatClampNeg (v3 + 2)))
  refine ⟨⟨hF0, rfl⟩, ?_⟩
  refine kp7 rfl hR0 rfl (kpA rfl (kpnm rfl hR0 rfl (kpW9 rfl hR0 rfl (kx (mx_mean9 hB0 hR0 hW9 w20) (kpFc rfl (kx (mf_mean hB0 hR0 hW9 (w20.2.2.1) w22) (kp6 rfl hR0 rfl (kp4 rfl (kp5 rfl hR0 rfl (kp0 rfl (kp1 rfl (kp2 rfl (kp3 rfl (sp_X12_mean hB8 hR0 (fun x39 y44 I40 J41 hB42 p43 kq48 kq47 kq46 kq45 k50 k49 k51 w58 w57 w56 w55 w54 w53 w52 => ?_)))))))))))))))
  intro o59
  have i60 := i32 x39
  have e61 : ((I40 3 1) : Int32).toInt = (I 3 1).toInt := Eq.trans (congrArg Int32.toInt (Eq.trans kq45 kq11)) rfl
  have kz62 : ((I40 3 1) : Int32).toInt = (I 3 1).toInt := e61
  have e63 : ((I40 97 8) : Int32).toInt = (I 97 8).toInt := Eq.trans (congrArg Int32.toInt (Eq.trans kq46 kq12)) rfl
  have kz64 : ((I40 97 8) : Int32).toInt = (I 97 8).toInt := e63
  have e65 : ((I40 1 13) : Int32).toInt = (I 1 13).toInt := Eq.trans (congrArg Int32.toInt (Eq.trans kq47 kq13)) rfl
  have kz66 : ((I40 1 13) : Int32).toInt = (I 1 13).toInt := e65
  have e67 : ((I40 97 23) : Int32).toInt = (I 97 23).toInt := Eq.trans (congrArg Int32.toInt (Eq.trans kq48 kq14)) rfl
  have kz68 : ((I40 97 23) : Int32).toInt = (I 97 23).toInt := e67
  have hg69 : (x39 : Int32).toInt = (x5 : Int32).toInt := congrArg Int32.toInt (w56.1)
  exact hN _ _ R hB42 hR0 hF0 ⟨(Eq.trans (e61) (Eq.trans hL0 (Eq.symm (e63)))), (Eq.trans (e65) (Eq.trans hL1 (Eq.symm (e67)))), (RT.kp (RT.kp hL2 k15 k16) k49 k50), ((congrFun k51 0).trans ((congrFun k17 0).trans hL3))⟩ (R3.kp (R3.kp hR3 w18 (by have ya : ((I6 3 1) : Int32).toInt = (I 3 1).toInt := e26; have yb : ((I 3 1) : Int32).toInt = (I 3 1).toInt := rfl; omega)) w52 (by have ya : ((I40 3 1) : Int32).toInt = (I 3 1).toInt := e61; have yb : ((I6 3 1) : Int32).toInt = (I 3 1).toInt := e26; omega)) (RM.mean hR0 hRM w19 ⟨w53, w54, (FK.kc p43)⟩) trivial (W9.kp hR0 (W9.kS hR0 hW9 w20.2.1 w20.2.2.1 w20.2.2.2.1) w55 (w56.2.trans w20.2.2.1.symm) w53.2) (FQ9.mean hFR w58 w21 w57)
set_option maxHeartbeats 2000000 in
theorem lc_47 {Q : Nat → Qt} {P : Kt} {L : Nat} {xs : Nat → Int32} (hc : Cl (AM 640) false true L xs 2 112 kL_law Q P) (hL : L ≤ 3584) {v3 : Int32} {I : Im} {J : Jm} {R : Rm} (hB0 : Bd I) (hR0 : RI R) (hF0 : Fl R) (hL0 : (I 3 1).toInt = (I 97 8).toInt) (hL1 : (I 1 13).toInt = (I 97 23).toInt) (hL2 : RT I) (hL3 : J 47 0 = 0) (hR3 : R3 I J) (hRM : RM I J R) (hFQ : True) (hW9 : W9 I R) (hFR : FQ9 J) (h0 : 0 ≤ v3.toInt) (h7 : v3.toInt + 7 ≤ (L : Int)) (hN : ∀ (I : Im) (J : Jm) (R : Rm), Bd I → RI R → Fl R → RLk I J → R3 I J → RM I J R → True → W9 I R → FQ9 J → P 1890 112 [(0, .ref 0), (1, .ref 1), (2, .ref 97), (3, .int v3)] [] I J R) : P 1864 112 [(0, .ref 0), (1, .ref 1), (2, .ref 97), (3, .int v3)] [] I J R := by
  have i_v3 := i32 v3
  have e97 : I 97 8 = nI (fl I) := (Int32.toInt_inj.mp hL0).symm.trans (fl_bd hB0).1
  have b31 := Bd.o hB0 (show isO 112 3 6 = true from rfl) (show bnd 6 1 = some _ from rfl)
  refine ls_1864 hc v3 _ _ _ ?_
  refine ⟨⟨hF0, rfl⟩, ?_⟩
  refine kp7 rfl hR0 rfl (kx (cx_mark hB0 hR0) (kx (cx_mark9 hB0 hR0) (kpFm rfl (kpFc rfl (kp6 rfl hR0 rfl (kp4 rfl (kp5 rfl hR0 rfl (kp0 rfl (kp1 rfl (kp3 rfl (sp_X11_mark hB0 hR0 (fun x1 y6 I2 J3 hB4 p5 kq9 kq8 kq7 k11 k10 k12 w17 w16 w15 w14 w13 => ?_))))))))))))
  have b18 := Bd.o hB0 (show isO 112 1 11 = true from rfl) (show bnd 11 13 = some _ from rfl)
  have b19 := Bd.o hB4 (show isO 112 1 11 = true from rfl) (show bnd 11 13 = some _ from rfl)
  have i20 := i32 x1
  have b21 := Bd.o hB0 (show isO 112 3 6 = true from rfl) (show bnd 6 1 = some _ from rfl)
  have e22 : ((I2 3 1) : Int32).toInt = (I 3 1).toInt := Eq.trans (congrArg Int32.toInt kq7) rfl
  have kz23 : ((I2 3 1) : Int32).toInt = (I 3 1).toInt := e22
  have b24 := Bd.o hB0 (show isO 112 97 12 = true from rfl) (show bnd 12 8 = some _ from rfl)
  have e25 : ((I2 97 8) : Int32).toInt = (I 97 8).toInt := Eq.trans (congrArg Int32.toInt kq8) rfl
  have kz26 : ((I2 97 8) : Int32).toInt = (I 97 8).toInt := e25
  have b27 := Bd.o hB0 (show isO 112 97 12 = true from rfl) (show bnd 12 23 = some _ from rfl)
  have e28 : ((I2 97 23) : Int32).toInt = (I 97 23).toInt := Eq.trans (congrArg Int32.toInt kq9) rfl
  have kz29 : ((I2 97 23) : Int32).toInt = (I 97 23).toInt := e28
  refine ⟨⟨hF0, rfl⟩, ?_⟩
  refine kp7 rfl hR0 rfl (kx (mx_mark hB4) (kx (mx_mark9 hB4) (kpFc rfl (kpFm rfl (kp6 rfl hR0 rfl (kp4 rfl (kp5 rfl hR0 rfl (kp0 rfl (kp1 rfl (kp2 rfl (sp_X12_mark hB4 hR0 (fun x30 y35 I31 J32 hB33 p34 kq38 kq37 kq36 k40 k39 k41 w46 w45 w44 w43 w42 => ?_))))))))))))
  have b47 := Bd.o hB33 (show isO 112 97 12 = true from rfl) (show bnd 12 23 = some _ from rfl)
  have i48 := i32 x30
  have e49 : ((I31 3 1) : Int32).toInt = (I 3 1).toInt := Eq.trans (congrArg Int32.toInt (Eq.trans kq36 kq7)) rfl
  have kz50 : ((I31 3 1) : Int32).toInt = (I 3 1).toInt := e49
  have e51 : ((I31 97 8) : Int32).toInt = (I 97 8).toInt := Eq.trans (congrArg Int32.toInt (Eq.trans kq37 kq8)) rfl
  have kz52 : ((I31 97 8) : Int32).toInt = (I 97 8).toInt := e51
  have e53 : ((I31 1 13) : Int32).toInt = (I2 1 13).toInt := Eq.trans (congrArg Int32.toInt kq38) rfl
  have kz54 : ((I31 1 13) : Int32).toInt = (I2 1 13).toInt := e53
  have hr55 := RM.mark hB0 hR0 hL1 hRM w14 w43
  exact hN _ _ R hB33 hR0 hF0 ⟨(Eq.trans (e49) (Eq.trans hL0 (Eq.symm (e51)))), (by have ya : ((I31 1 13) : Int32).toInt = (I2 1 13).toInt := e53; have yb : ((I31 97 23) : Int32).toInt = (I31 97 23).toInt := rfl; omega), (RT.kp (RT.kp hL2 k10 k11) k39 k40), ((congrFun k41 0).trans ((congrFun k12 0).trans hL3))⟩ (R3.kp (R3.kp hR3 w13 (by have ya : ((I2 3 1) : Int32).toInt = (I 3 1).toInt := e22; have yb : ((I 3 1) : Int32).toInt = (I 3 1).toInt := rfl; omega)) w42 (by have ya : ((I31 3 1) : Int32).toInt = (I 3 1).toInt := e49; have yb : ((I2 3 1) : Int32).toInt = (I 3 1).toInt := e22; omega)) hr55 trivial (W9.mark hB0 hR0 hL1 hW9 w15 w44) (FQ9.kp (FQ9.kp hFR w17 w16) w45 w46)
set_option maxHeartbeats 2000000 in
theorem lc_48 {Q : Nat → Qt} {P : Kt} {L : Nat} {xs : Nat → Int32} (hc : Cl (AM 640) false true L xs 2 112 kL_law Q P) (hL : L ≤ 3584) {v3 : Int32} {I : Im} {J : Jm} {R : Rm} (hB0 : Bd I) (hR0 : RI R) (hF0 : Fl R) (hL0 : (I 3 1).toInt = (I 97 8).toInt) (hL1 : (I 1 13).toInt = (I 97 23).toInt) (hL2 : RT I) (hL3 : J 47 0 = 0) (hR3 : R3 I J) (hRM : RM I J R) (hFQ : True) (hW9 : W9 I R) (hFR : FQ9 J) (h0 : 0 ≤ v3.toInt) (h7 : v3.toInt + 7 ≤ (L : Int)) (hN : ∀ (I : Im) (J : Jm) (R : Rm), Bd I → RI R → Fl R → RLk I J → R3 I J → RM I J R → True → W9 I R → FQ9 J → P 1890 112 [(0, .ref 0), (1, .ref 1), (2, .ref 97), (3, .int v3)] [] I J R) : P 1877 112 [(0, .ref 0), (1, .ref 1), (2, .ref 97), (3, .int v3)] [] I J R := by
  have i_v3 := i32 v3
  have e97 : I 97 8 = nI (fl I) := (Int32.toInt_inj.mp hL0).symm.trans (fl_bd hB0).1
  have b31 := Bd.o hB0 (show isO 112 3 6 = true from rfl) (show bnd 6 1 = some _ from rfl)
  refine ls_1877 hc v3 _ _ _ ?_
  refine ⟨⟨hF0, rfl⟩, ?_⟩
  refine kp7 rfl hR0 rfl (kx (cx_back hB0 hR0) (kx (cx_back9 hB0 hR0) (kpFm rfl (kpFc rfl (kp6 rfl hR0 rfl (kp4 rfl (kp5 rfl hR0 rfl (kp0 rfl (kp1 rfl (kp3 rfl (sp_X11_back hB0 hR0 (fun x1 y6 I2 J3 hB4 p5 kq9 kq8 kq7 k11 k10 k12 w17 w16 w15 w14 w13 => ?_))))))))))))
  have b18 := Bd.o hB0 (show isO 112 1 11 = true from rfl) (show bnd 11 13 = some _ from rfl)
  have b19 := Bd.o hB4 (show isO 112 1 11 = true from rfl) (show bnd 11 13 = some _ from rfl)
  have i20 := i32 x1
  have b21 := Bd.o hB0 (show isO 112 3 6 = true from rfl) (show bnd 6 1 = some _ from rfl)
  have e22 : ((I2 3 1) : Int32).toInt = (I 3 1).toInt := Eq.trans (congrArg Int32.toInt kq7) rfl
  have kz23 : ((I2 3 1) : Int32).toInt = (I 3 1).toInt := e22
  have b24 := Bd.o hB0 (show isO 112 97 12 = true from rfl) (show bnd 12 8 = some _ from rfl)
  have e25 : ((I2 97 8) : Int32).toInt = (I 97 8).toInt := Eq.trans (congrArg Int32.toInt kq8) rfl
  have kz26 : ((I2 97 8) : Int32).toInt = (I 97 8).toInt := e25
  have b27 := Bd.o hB0 (show isO 112 97 12 = true from rfl) (show bnd 12 23 = some _ from rfl)
  have e28 : ((I2 97 23) : Int32).toInt = (I 97 23).toInt := Eq.trans (congrArg Int32.toInt kq9) rfl
  have kz29 : ((I2 97 23) : Int32).toInt = (I 97 23).toInt := e28
  refine ⟨⟨hF0, rfl⟩, ?_⟩
  refine kp7 rfl hR0 rfl (kx (mx_back hB4) (kx (mx_back9 hB4) (kpFc rfl (kpFm rfl (kp6 rfl hR0 rfl (kp4 rfl (kp5 rfl hR0 rfl (kp0 rfl (kp1 rfl (kp2 rfl (sp_X12_back hB4 hR0 (fun x30 y35 I31 J32 hB33 p34 kq38 kq37 kq36 k40 k39 k41 w46 w45 w44 w43 w42 => ?_))))))))))))
  have b47 := Bd.o hB33 (show isO 112 97 12 = true from rfl) (show bnd 12 23 = some _ from rfl)
  have i48 := i32 x30
  have e49 : ((I31 3 1) : Int32).toInt = (I 3 1).toInt := Eq.trans (congrArg Int32.toInt (Eq.trans kq36 kq7)) rfl
  have kz50 : ((I31 3 1) : Int32).toInt = (I 3 1).toInt := e49
  have e51 : ((I31 97 8) : Int32).toInt = (I 97 8).toInt := Eq.trans (congrArg Int32.toInt (Eq.trans kq37 kq8)) rfl
  have kz52 : ((I31 97 8) : Int32).toInt = (I 97 8).toInt := e51
  have e53 : ((I31 1 13) : Int32).toInt = (I2 1 13).toInt := Eq.trans (congrArg Int32.toInt kq38) rfl
  have kz54 : ((I31 1 13) : Int32).toInt = (I2 1 13).toInt := e53
  have hr55 := RM.back hB0 hR0 hL1 hRM w14 w43
  exact hN _ _ R hB33 hR0 hF0 ⟨(Eq.trans (e49) (Eq.trans hL0 (Eq.symm (e51)))), (by have ya : ((I31 1 13) : Int32).toInt = (I2 1 13).toInt := e53; have yb : ((I31 97 23) : Int32).toInt = (I31 97 23).toInt := rfl; omega), (RT.kp (RT.kp hL2 k10 k11) k39 k40), ((congrFun k41 0).trans ((congrFun k12 0).trans hL3))⟩ (R3.kp (R3.kp hR3 w13 (by have ya : ((I2 3 1) : Int32).toInt = (I 3 1).toInt := e22; have yb : ((I 3 1) : Int32).toInt = (I 3 1).toInt := rfl; omega)) w42 (by have ya : ((I31 3 1) : Int32).toInt = (I 3 1).toInt := e49; have yb : ((I2 3 1) : Int32).toInt = (I 3 1).toInt := e22; omega)) hr55 trivial (W9.back hB0 hR0 hL1 hW9 w15 w44) (FQ9.kp (FQ9.kp hFR w17 w16) w45 w46)
