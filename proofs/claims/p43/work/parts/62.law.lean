set_option maxHeartbeats 2000000 in
theorem lc_0 {Q : Nat → Qt} {P : Kt} {L : Nat} {xs : Nat → Int32} (hc : Cl (AM 640) false true L xs 2 112 kL_law Q P) (hL : L ≤ 3584) {v3 : Int32} {I : Im} {J : Jm} {R : Rm} (hB0 : Bd I) (hR0 : RI R) (hF0 : Fl R) (hL0 : (I 3 1).toInt = (I 97 8).toInt) (hL1 : (I 1 13).toInt = (I 97 23).toInt) (hL2 : RT I) (hL3 : J 47 0 = 0) (h0 : 0 ≤ v3.toInt) (h7 : v3.toInt + 7 ≤ (L : Int)) (hN : ∀ (I : Im) (J : Jm) (R : Rm), Bd I → RI R → Fl R → RLk I J → P 1889 112 [(0, .ref 0), (1, .ref 1), (2, .ref 97), (3, .int v3)] [] I J R) : P 244 112 [(0, .ref 0), (1, .ref 1), (2, .ref 97), (3, .int v3)] [] I J R := by
  have i_v3 := i32 v3
  refine ls_244 hc v3 _ _ _ ?_
  refine ⟨⟨hF0, rfl⟩, ?_⟩
  refine kp6 rfl hR0 rfl (kp4 rfl (kp5 rfl hR0 rfl (kp0 rfl (kp1 rfl (kp2 rfl (kp3 rfl (sp_X11_status hB0 hR0 (fun x1 y6 I2 J3 hB4 p5 kq10 kq9 kq8 kq7 k12 k11 k13 => ?_))))))))
  have i14 := i32 x1
  have b15 := Bd.o hB0 (show isO 112 3 6 = true from rfl) (show bnd 6 1 = some _ from rfl)
  have e16 : ((I2 3 1) : Int32).toInt = (I 3 1).toInt := Eq.trans (congrArg Int32.toInt kq7) rfl
  have kz17 : ((I2 3 1) : Int32).toInt = (I 3 1).toInt := e16
  have b18 := Bd.o hB0 (show isO 112 97 12 = true from rfl) (show bnd 12 8 = some _ from rfl)
  have e19 : ((I2 97 8) : Int32).toInt = (I 97 8).toInt := Eq.trans (congrArg Int32.toInt kq8) rfl
  have kz20 : ((I2 97 8) : Int32).toInt = (I 97 8).toInt := e19
  have b21 := Bd.o hB0 (show isO 112 1 11 = true from rfl) (show bnd 11 13 = some _ from rfl)
  have e22 : ((I2 1 13) : Int32).toInt = (I 1 13).toInt := Eq.trans (congrArg Int32.toInt kq9) rfl
  have kz23 : ((I2 1 13) : Int32).toInt = (I 1 13).toInt := e22
  have b24 := Bd.o hB0 (show isO 112 97 12 = true from rfl) (show bnd 12 23 = some _ from rfl)
  have e25 : ((I2 97 23) : Int32).toInt = (I 97 23).toInt := Eq.trans (congrArg Int32.toInt kq10) rfl
  have kz26 : ((I2 97 23) : Int32).toInt = (I 97 23).toInt := e25
  refine ⟨⟨hF0, rfl⟩, ?_⟩
  refine kp6 rfl hR0 rfl (kp4 rfl (kp5 rfl hR0 rfl (kp0 rfl (kp1 rfl (kp2 rfl (kp3 rfl (sp_X12_status hB4 hR0 (fun x27 y32 I28 J29 hB30 p31 kq36 kq35 kq34 kq33 k38 k37 k39 => ?_))))))))
  have i40 := i32 x27
  have e41 : ((I28 3 1) : Int32).toInt = (I 3 1).toInt := Eq.trans (congrArg Int32.toInt (Eq.trans kq33 kq7)) rfl
  have kz42 : ((I28 3 1) : Int32).toInt = (I 3 1).toInt := e41
  have e43 : ((I28 97 8) : Int32).toInt = (I 97 8).toInt := Eq.trans (congrArg Int32.toInt (Eq.trans kq34 kq8)) rfl
  have kz44 : ((I28 97 8) : Int32).toInt = (I 97 8).toInt := e43
  have e45 : ((I28 1 13) : Int32).toInt = (I 1 13).toInt := Eq.trans (congrArg Int32.toInt (Eq.trans kq35 kq9)) rfl
  have kz46 : ((I28 1 13) : Int32).toInt = (I 1 13).toInt := e45
  have e47 : ((I28 97 23) : Int32).toInt = (I 97 23).toInt := Eq.trans (congrArg Int32.toInt (Eq.trans kq36 kq10)) rfl
  have kz48 : ((I28 97 23) : Int32).toInt = (I 97 23).toInt := e47
  exact hN _ _ R hB30 hR0 hF0 ⟨(Eq.trans (e41) (Eq.trans hL0 (Eq.symm (e43)))), (Eq.trans (e45) (Eq.trans hL1 (Eq.symm (e47)))), (RT.kp (RT.kp hL2 k11 k12) k37 k38), ((congrFun k39 0).trans ((congrFun k13 0).trans hL3))⟩
set_option maxHeartbeats 2000000 in
theorem lc_1 {Q : Nat → Qt} {P : Kt} {L : Nat} {xs : Nat → Int32} (hc : Cl (AM 640) false true L xs 2 112 kL_law Q P) (hL : L ≤ 3584) {v3 : Int32} {I : Im} {J : Jm} {R : Rm} (hB0 : Bd I) (hR0 : RI R) (hF0 : Fl R) (hL0 : (I 3 1).toInt = (I 97 8).toInt) (hL1 : (I 1 13).toInt = (I 97 23).toInt) (hL2 : RT I) (hL3 : J 47 0 = 0) (h0 : 0 ≤ v3.toInt) (h7 : v3.toInt + 7 ≤ (L : Int)) (hN : ∀ (I : Im) (J : Jm) (R : Rm), Bd I → RI R → Fl R → RLk I J → P 1889 112 [(0, .ref 0), (1, .ref 1), (2, .ref 97), (3, .int v3)] [] I J R) : P 257 112 [(0, .ref 0), (1, .ref 1), (2, .ref 97), (3, .int v3)] [] I J R := by
  have i_v3 := i32 v3
  refine ls_257 hc v3 _ _ _ ?_
  refine ⟨⟨hF0, rfl⟩, ?_⟩
  refine kp6 rfl hR0 rfl (kp4 rfl (kp5 rfl hR0 rfl (kp0 rfl (kp1 rfl (kp2 rfl (kp3 rfl (sp_X11_top hB0 hR0 (fun x1 y6 I2 J3 hB4 p5 kq10 kq9 kq8 kq7 k12 k11 k13 => ?_))))))))
  have b14 := Bd.o hB0 (show isO 112 3 6 = true from rfl) (show bnd 6 1 = some _ from rfl)
  have e15 : ((I2 3 1) : Int32).toInt = (I 3 1).toInt := Eq.trans (congrArg Int32.toInt kq7) rfl
  have kz16 : ((I2 3 1) : Int32).toInt = (I 3 1).toInt := e15
  have b17 := Bd.o hB0 (show isO 112 97 12 = true from rfl) (show bnd 12 8 = some _ from rfl)
  have e18 : ((I2 97 8) : Int32).toInt = (I 97 8).toInt := Eq.trans (congrArg Int32.toInt kq8) rfl
  have kz19 : ((I2 97 8) : Int32).toInt = (I 97 8).toInt := e18
  have b20 := Bd.o hB0 (show isO 112 1 11 = true from rfl) (show bnd 11 13 = some _ from rfl)
  have e21 : ((I2 1 13) : Int32).toInt = (I 1 13).toInt := Eq.trans (congrArg Int32.toInt kq9) rfl
  have kz22 : ((I2 1 13) : Int32).toInt = (I 1 13).toInt := e21
  have b23 := Bd.o hB0 (show isO 112 97 12 = true from rfl) (show bnd 12 23 = some _ from rfl)
  have e24 : ((I2 97 23) : Int32).toInt = (I 97 23).toInt := Eq.trans (congrArg Int32.toInt kq10) rfl
  have kz25 : ((I2 97 23) : Int32).toInt = (I 97 23).toInt := e24
  refine ⟨⟨hF0, rfl⟩, ?_⟩
  refine kp6 rfl hR0 rfl (kp4 rfl (kp5 rfl hR0 rfl (kp0 rfl (kp1 rfl (kp2 rfl (kp3 rfl (sp_X12_top hB4 hR0 (fun x26 y31 I27 J28 hB29 p30 kq35 kq34 kq33 kq32 k37 k36 k38 => ?_))))))))
  have e39 : ((I27 3 1) : Int32).toInt = (I 3 1).toInt := Eq.trans (congrArg Int32.toInt (Eq.trans kq32 kq7)) rfl
  have kz40 : ((I27 3 1) : Int32).toInt = (I 3 1).toInt := e39
  have e41 : ((I27 97 8) : Int32).toInt = (I 97 8).toInt := Eq.trans (congrArg Int32.toInt (Eq.trans kq33 kq8)) rfl
  have kz42 : ((I27 97 8) : Int32).toInt = (I 97 8).toInt := e41
  have e43 : ((I27 1 13) : Int32).toInt = (I 1 13).toInt := Eq.trans (congrArg Int32.toInt (Eq.trans kq34 kq9)) rfl
  have kz44 : ((I27 1 13) : Int32).toInt = (I 1 13).toInt := e43
  have e45 : ((I27 97 23) : Int32).toInt = (I 97 23).toInt := Eq.trans (congrArg Int32.toInt (Eq.trans kq35 kq10)) rfl
  have kz46 : ((I27 97 23) : Int32).toInt = (I 97 23).toInt := e45
  exact hN _ _ R hB29 hR0 hF0 ⟨(Eq.trans (e39) (Eq.trans hL0 (Eq.symm (e41)))), (Eq.trans (e43) (Eq.trans hL1 (Eq.symm (e45)))), (RT.kp (RT.kp hL2 k11 k12) k36 k37), ((congrFun k38 0).trans ((congrFun k13 0).trans hL3))⟩
set_option maxHeartbeats 2000000 in
theorem lc_2 {Q : Nat → Qt} {P : Kt} {L : Nat} {xs : Nat → Int32} (hc : Cl (AM 640) false true L xs 2 112 kL_law Q P) (hL : L ≤ 3584) {v3 : Int32} {I : Im} {J : Jm} {R : Rm} (hB0 : Bd I) (hR0 : RI R) (hF0 : Fl R) (hL0 : (I 3 1).toInt = (I 97 8).toInt) (hL1 : (I 1 13).toInt = (I 97 23).toInt) (hL2 : RT I) (hL3 : J 47 0 = 0) (h0 : 0 ≤ v3.toInt) (h7 : v3.toInt + 7 ≤ (L : Int)) (hN : ∀ (I : Im) (J : Jm) (R : Rm), Bd I → RI R → Fl R → RLk I J → P 1889 112 [(0, .ref 0), (1, .ref 1), (2, .ref 97), (3, .int v3)] [] I J R) : P 270 112 [(0, .ref 0), (1, .ref 1), (2, .ref 97), (3, .int v3)] [] I J R := by
  have i_v3 := i32 v3
  refine ls_270 hc v3 _ _ _ ?_
  refine ⟨⟨hF0, rfl⟩, ?_⟩
  refine kp6 rfl hR0 rfl (kp4 rfl (kp5 rfl hR0 rfl (kp0 rfl (kp1 rfl (kp2 rfl (kp3 rfl (sp_X11_bottom hB0 hR0 (fun x1 y6 I2 J3 hB4 p5 kq10 kq9 kq8 kq7 k12 k11 k13 => ?_))))))))
  have b14 := Bd.o hB0 (show isO 112 3 6 = true from rfl) (show bnd 6 1 = some _ from rfl)
  have e15 : ((I2 3 1) : Int32).toInt = (I 3 1).toInt := Eq.trans (congrArg Int32.toInt kq7) rfl
  have kz16 : ((I2 3 1) : Int32).toInt = (I 3 1).toInt := e15
  have b17 := Bd.o hB0 (show isO 112 97 12 = true from rfl) (show bnd 12 8 = some _ from rfl)
  have e18 : ((I2 97 8) : Int32).toInt = (I 97 8).toInt := Eq.trans (congrArg Int32.toInt kq8) rfl
  have kz19 : ((I2 97 8) : Int32).toInt = (I 97 8).toInt := e18
  have b20 := Bd.o hB0 (show isO 112 1 11 = true from rfl) (show bnd 11 13 = some _ from rfl)
  have e21 : ((I2 1 13) : Int32).toInt = (I 1 13).toInt := Eq.trans (congrArg Int32.toInt kq9) rfl
  have kz22 : ((I2 1 13) : Int32).toInt = (I 1 13).toInt := e21
  have b23 := Bd.o hB0 (show isO 112 97 12 = true from rfl) (show bnd 12 23 = some _ from rfl)
  have e24 : ((I2 97 23) : Int32).toInt = (I 97 23).toInt := Eq.trans (congrArg Int32.toInt kq10) rfl
  have kz25 : ((I2 97 23) : Int32).toInt = (I 97 23).toInt := e24
  refine ⟨⟨hF0, rfl⟩, ?_⟩
  refine kp6 rfl hR0 rfl (kp4 rfl (kp5 rfl hR0 rfl (kp0 rfl (kp1 rfl (kp2 rfl (kp3 rfl (sp_X12_bottom hB4 hR0 (fun x26 y31 I27 J28 hB29 p30 kq35 kq34 kq33 kq32 k37 k36 k38 => ?_))))))))
  have e39 : ((I27 3 1) : Int32).toInt = (I 3 1).toInt := Eq.trans (congrArg Int32.toInt (Eq.trans kq32 kq7)) rfl
  have kz40 : ((I27 3 1) : Int32).toInt = (I 3 1).toInt := e39
  have e41 : ((I27 97 8) : Int32).toInt = (I 97 8).toInt := Eq.trans (congrArg Int32.toInt (Eq.trans kq33 kq8)) rfl
  have kz42 : ((I27 97 8) : Int32).toInt = (I 97 8).toInt := e41
  have e43 : ((I27 1 13) : Int32).toInt = (I 1 13).toInt := Eq.trans (congrArg Int32.toInt (Eq.trans kq34 kq9)) rfl
  have kz44 : ((I27 1 13) : Int32).toInt = (I 1 13).toInt := e43
  have e45 : ((I27 97 23) : Int32).toInt = (I 97 23).toInt := Eq.trans (congrArg Int32.toInt (Eq.trans kq35 kq10)) rfl
  have kz46 : ((I27 97 23) : Int32).toInt = (I 97 23).toInt := e45
  exact hN _ _ R hB29 hR0 hF0 ⟨(Eq.trans (e39) (Eq.trans hL0 (Eq.symm (e41)))), (Eq.trans (e43) (Eq.trans hL1 (Eq.symm (e45)))), (RT.kp (RT.kp hL2 k11 k12) k36 k37), ((congrFun k38 0).trans ((congrFun k13 0).trans hL3))⟩
set_option maxHeartbeats 2000000 in
theorem lc_3 {Q : Nat → Qt} {P : Kt} {L : Nat} {xs : Nat → Int32} (hc : Cl (AM 640) false true L xs 2 112 kL_law Q P) (hL : L ≤ 3584) {v3 : Int32} {I : Im} {J : Jm} {R : Rm} (hB0 : Bd I) (hR0 : RI R) (hF0 : Fl R) (hL0 : (I 3 1).toInt = (I 97 8).toInt) (hL1 : (I 1 13).toInt = (I 97 23).toInt) (hL2 : RT I) (hL3 : J 47 0 = 0) (h0 : 0 ≤ v3.toInt) (h7 : v3.toInt + 7 ≤ (L : Int)) (hN : ∀ (I : Im) (J : Jm) (R : Rm), Bd I → RI R → Fl R → RLk I J → P 1889 112 [(0, .ref 0), (1, .ref 1), (2, .ref 97), (3, .int v3)] [] I J R) : P 283 112 [(0, .ref 0), (1, .ref 1), (2, .ref 97), (3, .int v3)] [] I J R := by
  have i_v3 := i32 v3
  refine ls_283 hc v3 _ _ _ ?_
  have e1 : ((v3 + 1) : Int32).toInt = (v3.toInt) + (1) := ti_add rfl rfl (by omega)
  refine ⟨vp_of (a := (v3.toInt + 1)) e1 (by omega) (by omega), ?_⟩
  have z2 := i32 (xs (Int32.toNatClampNeg (v3 + 1)))
  have e3 : ((v3 + 2) : Int32).toInt = (v3.toInt) + (2) := ti_add rfl rfl (by omega)
  refine ⟨vp_of (a := (v3.toInt + 2)) e3 (by omega) (by omega), ?_⟩
  have z4 := i32 (xs (Int32.toNatClampNeg (v3 + 2)))
  have e5 : ((v3 + 3) : Int32).toInt = (v3.toInt) + (3) := ti_add rfl rfl (by omega)
  refine ⟨vp_of (a := (v3.toInt + 3)) e5 (by omega) (by omega), ?_⟩
  have z6 := i32 (xs (Int32.toNatClampNeg (v3 + 3)))
  refine ⟨⟨hF0, rfl⟩, ?_⟩
  refine kp6 rfl hR0 rfl (kp5 rfl hR0 rfl (kp0 rfl (kp1 rfl (kp2 rfl (kp3 rfl (sp_X11_tray hB0 hR0 (fun x7 y12 I8 J9 hB10 p11 kq16 kq15 kq14 kq13 k17 k18 => ?_)))))))
  intro o19
  have i20 := i32 x7
  have b21 := Bd.o hB0 (show isO 112 3 6 = true from rfl) (show bnd 6 1 = some _ from rfl)
  have e22 : ((I8 3 1) : Int32).toInt = (I 3 1).toInt := Eq.trans (congrArg Int32.toInt kq13) rfl
  have kz23 : ((I8 3 1) : Int32).toInt = (I 3 1).toInt := e22
  have b24 := Bd.o hB0 (show isO 112 97 12 = true from rfl) (show bnd 12 8 = some _ from rfl)
  have e25 : ((I8 97 8) : Int32).toInt = (I 97 8).toInt := Eq.trans (congrArg Int32.toInt kq14) rfl
  have kz26 : ((I8 97 8) : Int32).toInt = (I 97 8).toInt := e25
  have b27 := Bd.o hB0 (show isO 112 1 11 = true from rfl) (show bnd 11 13 = some _ from rfl)
  have e28 : ((I8 1 13) : Int32).toInt = (I 1 13).toInt := Eq.trans (congrArg Int32.toInt kq15) rfl
  have kz29 : ((I8 1 13) : Int32).toInt = (I 1 13).toInt := e28
  have b30 := Bd.o hB0 (show isO 112 97 12 = true from rfl) (show bnd 12 23 = some _ from rfl)
  have e31 : ((I8 97 23) : Int32).toInt = (I 97 23).toInt := Eq.trans (congrArg Int32.toInt kq16) rfl
  have kz32 : ((I8 97 23) : Int32).toInt = (I 97 23).toInt := e31
  refine ⟨vp_of (a := (v3.toInt + 1)) e1 (by omega) (by omega), ?_⟩
  have z33 := i32 (xs (Int32.toNatClampNeg (v3 + 1)))
  refine ⟨vp_of (a := (v3.toInt + 2)) e3 (by omega) (by omega), ?_⟩
  have z34 := i32 (xs (Int32.toNatClampNeg (v3 + 2)))
  refine ⟨vp_of (a := (v3.toInt + 3)) e5 (by omega) (by omega), ?_⟩
  have z35 := i32 (xs (Int32.toNatClampNeg (v3 + 3)))
  refine ⟨⟨hF0, rfl⟩, ?_⟩
  refine kp6 rfl hR0 rfl (kp4 rfl (kp0 rfl (kp1 rfl (kp2 rfl (kp3 rfl (sp_X12_tray hB10 hR0 (fun x36 y41 I37 J38 hB39 p40 kq45 kq44 kq43 kq42 k46 k47 => ?_)))))))
  intro o48
  have i49 := i32 x36
  have e50 : ((I37 3 1) : Int32).toInt = (I 3 1).toInt := Eq.trans (congrArg Int32.toInt (Eq.trans kq42 kq13)) rfl
  have kz51 : ((I37 3 1) : Int32).toInt = (I 3 1).toInt := e50
  have e52 : ((I37 97 8) : Int32).toInt = (I 97 8).toInt := Eq.trans (congrArg Int32.toInt (Eq.trans kq43 kq14)) rfl
  have kz53 : ((I37 97 8) : Int32).toInt = (I 97 8).toInt := e52
  have e54 : ((I37 1 13) : Int32).toInt = (I 1 13).toInt := Eq.trans (congrArg Int32.toInt (Eq.trans kq44 kq15)) rfl
  have kz55 : ((I37 1 13) : Int32).toInt = (I 1 13).toInt := e54
  have e56 : ((I37 97 23) : Int32).toInt = (I 97 23).toInt := Eq.trans (congrArg Int32.toInt (Eq.trans kq45 kq16)) rfl
  have kz57 : ((I37 97 23) : Int32).toInt = (I 97 23).toInt := e56
  exact hN _ _ R hB39 hR0 hF0 ⟨(Eq.trans (e50) (Eq.trans hL0 (Eq.symm (e52)))), (Eq.trans (e54) (Eq.trans hL1 (Eq.symm (e56)))), (RT.tray hL2 hR0 p11.2 p40.2 (by have a := p11.1; have b := p40.1; omega) (fun z => by have a := p11.1; omega) k17 k46), ((congrFun k47 0).trans ((congrFun k18 0).trans hL3))⟩
set_option maxHeartbeats 2000000 in
theorem lc_4 {Q : Nat → Qt} {P : Kt} {L : Nat} {xs : Nat → Int32} (hc : Cl (AM 640) false true L xs 2 112 kL_law Q P) (hL : L ≤ 3584) {v3 : Int32} {I : Im} {J : Jm} {R : Rm} (hB0 : Bd I) (hR0 : RI R) (hF0 : Fl R) (hL0 : (I 3 1).toInt = (I 97 8).toInt) (hL1 : (I 1 13).toInt = (I 97 23).toInt) (hL2 : RT I) (hL3 : J 47 0 = 0) (h0 : 0 ≤ v3.toInt) (h7 : v3.toInt + 7 ≤ (L : Int)) (hN : ∀ (I : Im) (J : Jm) (R : Rm), Bd I → RI R → Fl R → RLk I J → P 1889 112 [(0, .ref 0), (1, .ref 1), (2, .ref 97), (3, .int v3)] [] I J R) : P 326 112 [(0, .ref 0), (1, .ref 1), (2, .ref 97), (3, .int v3)] [] I J R := by
  have i_v3 := i32 v3
  refine ls_326 hc v3 _ _ _ ?_
  have e1 : ((v3 + 1) : Int32).toInt = (v3.toInt) + (1) := ti_add rfl rfl (by omega)
  refine ⟨vp_of (a := (v3.toInt + 1)) e1 (by omega) (by omega), ?_⟩
  have z2 := i32 (xs (Int32.toNatClampNeg (v3 + 1)))
  have e3 : ((v3 + 2) : Int32).toInt = (v3.toInt) + (2) := ti_add rfl rfl (by omega)
  refine ⟨vp_of (a := (v3.toInt + 2)) e3 (by omega) (by omega), ?_⟩
  have z4 := i32 (xs (Int32.toNatClampNeg (v3 + 2)))
  have e5 : ((v3 + 3) : Int32).toInt = (v3.toInt) + (3) := ti_add rfl rfl (by omega)
  refine ⟨vp_of (a := (v3.toInt + 3)) e5 (by omega) (by omega), ?_⟩
  have z6 := i32 (xs (Int32.toNatClampNeg (v3 + 3)))
  have e7 : ((v3 + 4) : Int32).toInt = (v3.toInt) + (4) := ti_add rfl rfl (by omega)
  refine ⟨vp_of (a := (v3.toInt + 4)) e7 (by omega) (by omega), ?_⟩
  have z8 := i32 (xs (Int32.toNatClampNeg (v3 + 4)))
  refine ⟨⟨hF0, rfl⟩, ?_⟩
  refine kp6 rfl hR0 rfl (kp4 rfl (kp5 rfl hR0 rfl (kp0 rfl (kp1 rfl (kp2 rfl (kp3 rfl (sp_X11_write hB0 hR0 (fun x9 y14 I10 J11 hB12 p13 kq18 kq17 kq16 kq15 k20 k19 k21 => ?_))))))))
  intro o22
  have i23 := i32 x9
  have b24 := Bd.o hB0 (show isO 112 3 6 = true from rfl) (show bnd 6 1 = some _ from rfl)
  have e25 : ((I10 3 1) : Int32).toInt = (I 3 1).toInt := Eq.trans (congrArg Int32.toInt kq15) rfl
  have kz26 : ((I10 3 1) : Int32).toInt = (I 3 1).toInt := e25
  have b27 := Bd.o hB0 (show isO 112 97 12 = true from rfl) (show bnd 12 8 = some _ from rfl)
  have e28 : ((I10 97 8) : Int32).toInt = (I 97 8).toInt := Eq.trans (congrArg Int32.toInt kq16) rfl
  have kz29 : ((I10 97 8) : Int32).toInt = (I 97 8).toInt := e28
  have b30 := Bd.o hB0 (show isO 112 1 11 = true from rfl) (show bnd 11 13 = some _ from rfl)
  have e31 : ((I10 1 13) : Int32).toInt = (I 1 13).toInt := Eq.trans (congrArg Int32.toInt kq17) rfl
  have kz32 : ((I10 1 13) : Int32).toInt = (I 1 13).toInt := e31
  have b33 := Bd.o hB0 (show isO 112 97 12 = true from rfl) (show bnd 12 23 = some _ from rfl)
  have e34 : ((I10 97 23) : Int32).toInt = (I 97 23).toInt := Eq.trans (congrArg Int32.toInt kq18) rfl
  have kz35 : ((I10 97 23) : Int32).toInt = (I 97 23).toInt := e34
  have hw36 : 0 ≤ ((xs (Int32.toNatClampNeg (v3 + 1))) : Int32).toInt → ((xs (Int32.toNatClampNeg (v3 + 1))) : Int32).toInt ≤ 3 → (I (R 2 (Int32.toNatClampNeg (xs (Int32.toNatClampNeg (v3 + 1))))) 1).toInt = (I10 99 (Int32.toNatClampNeg (xs (Int32.toNatClampNeg (v3 + 1))))).toInt := fun a b => RT.a1 hL2 hR0 k20 a b
  refine ⟨vp_of (a := (v3.toInt + 1)) e1 (by omega) (by omega), ?_⟩
  have z37 := i32 (xs (Int32.toNatClampNeg (v3 + 1)))
  refine ⟨vp_of (a := (v3.toInt + 2)) e3 (by omega) (by omega), ?_⟩
  have z38 := i32 (xs (Int32.toNatClampNeg (v3 + 2)))
  refine ⟨vp_of (a := (v3.toInt + 3)) e5 (by omega) (by omega), ?_⟩
  have z39 := i32 (xs (Int32.toNatClampNeg (v3 + 3)))
  refine ⟨vp_of (a := (v3.toInt + 4)) e7 (by omega) (by omega), ?_⟩
  have z40 := i32 (xs (Int32.toNatClampNeg (v3 + 4)))
  refine ⟨⟨hF0, rfl⟩, ?_⟩
  refine kp6 rfl hR0 rfl (kp4 rfl (kp0 rfl (kp1 rfl (kp2 rfl (kp3 rfl (sp_X12_write hB12 hR0 (fun x41 y46 I42 J43 hB44 p45 kq50 kq49 kq48 kq47 k51 k52 => ?_)))))))
  intro o53
  have i54 := i32 x41
  have e55 : ((I42 3 1) : Int32).toInt = (I 3 1).toInt := Eq.trans (congrArg Int32.toInt (Eq.trans kq47 kq15)) rfl
  have kz56 : ((I42 3 1) : Int32).toInt = (I 3 1).toInt := e55
  have e57 : ((I42 97 8) : Int32).toInt = (I 97 8).toInt := Eq.trans (congrArg Int32.toInt (Eq.trans kq48 kq16)) rfl
  have kz58 : ((I42 97 8) : Int32).toInt = (I 97 8).toInt := e57
  have e59 : ((I42 1 13) : Int32).toInt = (I 1 13).toInt := Eq.trans (congrArg Int32.toInt (Eq.trans kq49 kq17)) rfl
  have kz60 : ((I42 1 13) : Int32).toInt = (I 1 13).toInt := e59
  have e61 : ((I42 97 23) : Int32).toInt = (I 97 23).toInt := Eq.trans (congrArg Int32.toInt (Eq.trans kq50 kq18)) rfl
  have kz62 : ((I42 97 23) : Int32).toInt = (I 97 23).toInt := e61
  exact hN _ _ R hB44 hR0 hF0 ⟨(Eq.trans (e55) (Eq.trans hL0 (Eq.symm (e57)))), (Eq.trans (e59) (Eq.trans hL1 (Eq.symm (e61)))), (RT.kp (RT.kp hL2 k19 k20) k51 (p45.2)), ((congrFun k52 0).trans ((congrFun k21 0).trans hL3))⟩
set_option maxHeartbeats 2000000 in
theorem lc_5 {Q : Nat → Qt} {P : Kt} {L : Nat} {xs : Nat → Int32} (hc : Cl (AM 640) false true L xs 2 112 kL_law Q P) (hL : L ≤ 3584) {v3 : Int32} {I : Im} {J : Jm} {R : Rm} (hB0 : Bd I) (hR0 : RI R) (hF0 : Fl R) (hL0 : (I 3 1).toInt = (I 97 8).toInt) (hL1 : (I 1 13).toInt = (I 97 23).toInt) (hL2 : RT I) (hL3 : J 47 0 = 0) (h0 : 0 ≤ v3.toInt) (h7 : v3.toInt + 7 ≤ (L : Int)) (hN : ∀ (I : Im) (J : Jm) (R : Rm), Bd I → RI R → Fl R → RLk I J → P 1889 112 [(0, .ref 0), (1, .ref 1), (2, .ref 97), (3, .int v3)] [] I J R) : P 399 112 [(0, .ref 0), (1, .ref 1), (2, .ref 97), (3, .int v3)] [] I J R := by
  have i_v3 := i32 v3
  refine ls_399 hc v3 _ _ _ ?_
  have e1 : ((v3 + 1) : Int32).toInt = (v3.toInt) + (1) := ti_add rfl rfl (by omega)
  refine ⟨vp_of (a := (v3.toInt + 1)) e1 (by omega) (by omega), ?_⟩
  have z2 := i32 (xs (Int32.toNatClampNeg (v3 + 1)))
  have e3 : ((v3 + 2) : Int32).toInt = (v3.toInt) + (2) := ti_add rfl rfl (by omega)
  refine ⟨vp_of (a := (v3.toInt + 2)) e3 (by omega) (by omega), ?_⟩
  have z4 := i32 (xs (Int32.toNatClampNeg (v3 + 2)))
  refine ⟨⟨hF0, rfl⟩, ?_⟩
  refine kp6 rfl hR0 rfl (kp4 rfl (kp5 rfl hR0 rfl (kp0 rfl (kp1 rfl (kp2 rfl (kp3 rfl (sp_X11_read hB0 hR0 (fun x5 y10 I6 J7 hB8 p9 kq14 kq13 kq12 kq11 k16 k15 k17 => ?_))))))))
  have b18 := Bd.o hB0 (show isO 112 3 6 = true from rfl) (show bnd 6 1 = some _ from rfl)
  have e19 : ((I6 3 1) : Int32).toInt = (I 3 1).toInt := Eq.trans (congrArg Int32.toInt kq11) rfl
  have kz20 : ((I6 3 1) : Int32).toInt = (I 3 1).toInt := e19
  have b21 := Bd.o hB0 (show isO 112 97 12 = true from rfl) (show bnd 12 8 = some _ from rfl)
  have e22 : ((I6 97 8) : Int32).toInt = (I 97 8).toInt := Eq.trans (congrArg Int32.toInt kq12) rfl
  have kz23 : ((I6 97 8) : Int32).toInt = (I 97 8).toInt := e22
  have b24 := Bd.o hB0 (show isO 112 1 11 = true from rfl) (show bnd 11 13 = some _ from rfl)
  have e25 : ((I6 1 13) : Int32).toInt = (I 1 13).toInt := Eq.trans (congrArg Int32.toInt kq13) rfl
  have kz26 : ((I6 1 13) : Int32).toInt = (I 1 13).toInt := e25
  have b27 := Bd.o hB0 (show isO 112 97 12 = true from rfl) (show bnd 12 23 = some _ from rfl)
  have e28 : ((I6 97 23) : Int32).toInt = (I 97 23).toInt := Eq.trans (congrArg Int32.toInt kq14) rfl
  have kz29 : ((I6 97 23) : Int32).toInt = (I 97 23).toInt := e28
  refine ⟨vp_of (a := (v3.toInt + 1)) e1 (by omega) (by omega), ?_⟩
  have z30 := i32 (xs (Int32.toNatClampNeg (v3 + 1)))
  refine ⟨vp_of (a := (v3.toInt + 2)) e3 (by omega) (by omega), ?_⟩
  have z31 := i32 (xs (Int32.toNatClampNeg (v3 + 2)))
  refine ⟨⟨hF0, rfl⟩, ?_⟩
  refine kp6 rfl hR0 rfl (kp4 rfl (kp5 rfl hR0 rfl (kp0 rfl (kp1 rfl (kp2 rfl (kp3 rfl (sp_X12_read hB8 hR0 (fun x32 y37 I33 J34 hB35 p36 kq41 kq40 kq39 kq38 k43 k42 k44 => ?_))))))))
  have e45 : ((I33 3 1) : Int32).toInt = (I 3 1).toInt := Eq.trans (congrArg Int32.toInt (Eq.trans kq38 kq11)) rfl
  have kz46 : ((I33 3 1) : Int32).toInt = (I 3 1).toInt := e45
  have e47 : ((I33 97 8) : Int32).toInt = (I 97 8).toInt := Eq.trans (congrArg Int32.toInt (Eq.trans kq39 kq12)) rfl
  have kz48 : ((I33 97 8) : Int32).toInt = (I 97 8).toInt := e47
  have e49 : ((I33 1 13) : Int32).toInt = (I 1 13).toInt := Eq.trans (congrArg Int32.toInt (Eq.trans kq40 kq13)) rfl
  have kz50 : ((I33 1 13) : Int32).toInt = (I 1 13).toInt := e49
  have e51 : ((I33 97 23) : Int32).toInt = (I 97 23).toInt := Eq.trans (congrArg Int32.toInt (Eq.trans kq41 kq14)) rfl
  have kz52 : ((I33 97 23) : Int32).toInt = (I 97 23).toInt := e51
  exact hN _ _ R hB35 hR0 hF0 ⟨(Eq.trans (e45) (Eq.trans hL0 (Eq.symm (e47)))), (Eq.trans (e49) (Eq.trans hL1 (Eq.symm (e51)))), (RT.kp (RT.kp hL2 k15 k16) k42 k43), ((congrFun k44 0).trans ((congrFun k17 0).trans hL3))⟩
set_option maxHeartbeats 2000000 in
theorem lc_6 {Q : Nat → Qt} {P : Kt} {L : Nat} {xs : Nat → Int32} (hc : Cl (AM 640) false true L xs 2 112 kL_law Q P) (hL : L ≤ 3584) {v3 : Int32} {I : Im} {J : Jm} {R : Rm} (hB0 : Bd I) (hR0 : RI R) (hF0 : Fl R) (hL0 : (I 3 1).toInt = (I 97 8).toInt) (hL1 : (I 1 13).toInt = (I 97 23).toInt) (hL2 : RT I) (hL3 : J 47 0 = 0) (h0 : 0 ≤ v3.toInt) (h7 : v3.toInt + 7 ≤ (L : Int)) (hN : ∀ (I : Im) (J : Jm) (R : Rm), Bd I → RI R → Fl R → RLk I J → P 1889 112 [(0, .ref 0), (1, .ref 1), (2, .ref 97), (3, .int v3)] [] I J R) : P 432 112 [(0, .ref 0), (1, .ref 1), (2, .ref 97), (3, .int v3)] [] I J R := by
  have i_v3 := i32 v3
  refine ls_432 hc v3 _ _ _ ?_
  have e1 : ((v3 + 1) : Int32).toInt = (v3.toInt) + (1) := ti_add rfl rfl (by omega)
  refine ⟨vp_of (a := (v3.toInt + 1)) e1 (by omega) (by omega), ?_⟩
  have z2 := i32 (xs (Int32.toNatClampNeg (v3 + 1)))
  have e3 : ((v3 + 2) : Int32).toInt = (v3.toInt) + (2) := ti_add rfl rfl (by omega)
  refine ⟨vp_of (a := (v3.toInt + 2)) e3 (by omega) (by omega), ?_⟩
  have z4 := i32 (xs (Int32.toNatClampNeg (v3 + 2)))
  have e5 : ((v3 + 3) : Int32).toInt = (v3.toInt) + (3) := ti_add rfl rfl (by omega)
  refine ⟨vp_of (a := (v3.toInt + 3)) e5 (by omega) (by omega), ?_⟩
  have z6 := i32 (xs (Int32.toNatClampNeg (v3 + 3)))
  have e7 : ((v3 + 4) : Int32).toInt = (v3.toInt) + (4) := ti_add rfl rfl (by omega)
  refine ⟨vp_of (a := (v3.toInt + 4)) e7 (by omega) (by omega), ?_⟩
  have z8 := i32 (xs (Int32.toNatClampNeg (v3 + 4)))
  have e9 : ((v3 + 5) : Int32).toInt = (v3.toInt) + (5) := ti_add rfl rfl (by omega)
  refine ⟨vp_of (a := (v3.toInt + 5)) e9 (by omega) (by omega), ?_⟩
  have z10 := i32 (xs (Int32.toNatClampNeg (v3 + 5)))
  refine ⟨⟨hF0, rfl⟩, ?_⟩
  refine kp6 rfl hR0 rfl (kp4 rfl (kp5 rfl hR0 rfl (kp0 rfl (kp1 rfl (kp2 rfl (kp3 rfl (sp_X11_pour hB0 hR0 (fun x11 y16 I12 J13 hB14 p15 kq20 kq19 kq18 kq17 k22 k21 k23 => ?_))))))))
  intro o24
  have i25 := i32 x11
  have b26 := Bd.o hB0 (show isO 112 3 6 = true from rfl) (show bnd 6 1 = some _ from rfl)
  have e27 : ((I12 3 1) : Int32).toInt = (I 3 1).toInt := Eq.trans (congrArg Int32.toInt kq17) rfl
  have kz28 : ((I12 3 1) : Int32).toInt = (I 3 1).toInt := e27
  have b29 := Bd.o hB0 (show isO 112 97 12 = true from rfl) (show bnd 12 8 = some _ from rfl)
  have e30 : ((I12 97 8) : Int32).toInt = (I 97 8).toInt := Eq.trans (congrArg Int32.toInt kq18) rfl
  have kz31 : ((I12 97 8) : Int32).toInt = (I 97 8).toInt := e30
  have b32 := Bd.o hB0 (show isO 112 1 11 = true from rfl) (show bnd 11 13 = some _ from rfl)
  have e33 : ((I12 1 13) : Int32).toInt = (I 1 13).toInt := Eq.trans (congrArg Int32.toInt kq19) rfl
  have kz34 : ((I12 1 13) : Int32).toInt = (I 1 13).toInt := e33
  have b35 := Bd.o hB0 (show isO 112 97 12 = true from rfl) (show bnd 12 23 = some _ from rfl)
  have e36 : ((I12 97 23) : Int32).toInt = (I 97 23).toInt := Eq.trans (congrArg Int32.toInt kq20) rfl
  have kz37 : ((I12 97 23) : Int32).toInt = (I 97 23).toInt := e36
  have hw38 : 0 ≤ ((xs (Int32.toNatClampNeg (v3 + 1))) : Int32).toInt → ((xs (Int32.toNatClampNeg (v3 + 1))) : Int32).toInt ≤ 3 → (I (R 2 (Int32.toNatClampNeg (xs (Int32.toNatClampNeg (v3 + 1))))) 1).toInt = (I12 99 (Int32.toNatClampNeg (xs (Int32.toNatClampNeg (v3 + 1))))).toInt := fun a b => RT.a1 hL2 hR0 k22 a b
  have hw39 : 0 ≤ ((xs (Int32.toNatClampNeg (v3 + 1))) : Int32).toInt → ((xs (Int32.toNatClampNeg (v3 + 1))) : Int32).toInt ≤ 3 → (I (R 2 (Int32.toNatClampNeg (xs (Int32.toNatClampNeg (v3 + 1))))) 0).toInt = (I12 98 (Int32.toNatClampNeg (xs (Int32.toNatClampNeg (v3 + 1))))).toInt := fun a b => RT.a0 hL2 hR0 k22 a b
  have hw40 : 0 ≤ ((xs (Int32.toNatClampNeg (v3 + 3))) : Int32).toInt → ((xs (Int32.toNatClampNeg (v3 + 3))) : Int32).toInt ≤ 3 → (I (R 2 (Int32.toNatClampNeg (xs (Int32.toNatClampNeg (v3 + 3))))) 1).toInt = (I12 99 (Int32.toNatClampNeg (xs (Int32.toNatClampNeg (v3 + 3))))).toInt := fun a b => RT.a1 hL2 hR0 k22 a b
  have hw41 : 0 ≤ ((xs (Int32.toNatClampNeg (v3 + 3))) : Int32).toInt → ((xs (Int32.toNatClampNeg (v3 + 3))) : Int32).toInt ≤ 3 → (I (R 2 (Int32.toNatClampNeg (xs (Int32.toNatClampNeg (v3 + 3))))) 0).toInt = (I12 98 (Int32.toNatClampNeg (xs (Int32.toNatClampNeg (v3 + 3))))).toInt := fun a b => RT.a0 hL2 hR0 k22 a b
  refine ⟨vp_of (a := (v3.toInt + 1)) e1 (by omega) (by omega), ?_⟩
  have z42 := i32 (xs (Int32.toNatClampNeg (v3 + 1)))
  refine ⟨vp_of (a := (v3.toInt + 2)) e3 (by omega) (by omega), ?_⟩
  have z43 := i32 (xs (Int32.toNatClampNeg (v3 + 2)))
  refine ⟨vp_of (a := (v3.toInt + 3)) e5 (by omega) (by omega), ?_⟩
  have z44 := i32 (xs (Int32.toNatClampNeg (v3 + 3)))
  refine ⟨vp_of (a := (v3.toInt + 4)) e7 (by omega) (by omega), ?_⟩
  have z45 := i32 (xs (Int32.toNatClampNeg (v3 + 4)))
  refine ⟨vp_of (a := (v3.toInt + 5)) e9 (by omega) (by omega), ?_⟩
  have z46 := i32 (xs (Int32.toNatClampNeg (v3 + 5)))
  refine ⟨⟨hF0, rfl⟩, ?_⟩
  refine kp6 rfl hR0 rfl (kp4 rfl (kp0 rfl (kp1 rfl (kp2 rfl (kp3 rfl (sp_X12_pour hB14 hR0 (fun x47 y52 I48 J49 hB50 p51 kq56 kq55 kq54 kq53 k57 k58 => ?_)))))))
  intro o59
  have i60 := i32 x47
  have e61 : ((I48 3 1) : Int32).toInt = (I 3 1).toInt := Eq.trans (congrArg Int32.toInt (Eq.trans kq53 kq17)) rfl
  have kz62 : ((I48 3 1) : Int32).toInt = (I 3 1).toInt := e61
  have e63 : ((I48 97 8) : Int32).toInt = (I 97 8).toInt := Eq.trans (congrArg Int32.toInt (Eq.trans kq54 kq18)) rfl
  have kz64 : ((I48 97 8) : Int32).toInt = (I 97 8).toInt := e63
  have e65 : ((I48 1 13) : Int32).toInt = (I 1 13).toInt := Eq.trans (congrArg Int32.toInt (Eq.trans kq55 kq19)) rfl
  have kz66 : ((I48 1 13) : Int32).toInt = (I 1 13).toInt := e65
  have e67 : ((I48 97 23) : Int32).toInt = (I 97 23).toInt := Eq.trans (congrArg Int32.toInt (Eq.trans kq56 kq20)) rfl
  have kz68 : ((I48 97 23) : Int32).toInt = (I 97 23).toInt := e67
  exact hN _ _ R hB50 hR0 hF0 ⟨(Eq.trans (e61) (Eq.trans hL0 (Eq.symm (e63)))), (Eq.trans (e65) (Eq.trans hL1 (Eq.symm (e67)))), (RT.kp (RT.kp hL2 k21 k22) k57 (p51.2)), ((congrFun k58 0).trans ((congrFun k23 0).trans hL3))⟩
set_option maxHeartbeats 2000000 in
theorem lc_7 {Q : Nat → Qt} {P : Kt} {L : Nat} {xs : Nat → Int32} (hc : Cl (AM 640) false true L xs 2 112 kL_law Q P) (hL : L ≤ 3584) {v3 : Int32} {I : Im} {J : Jm} {R : Rm} (hB0 : Bd I) (hR0 : RI R) (hF0 : Fl R) (hL0 : (I 3 1).toInt = (I 97 8).toInt) (hL1 : (I 1 13).toInt = (I 97 23).toInt) (hL2 : RT I) (hL3 : J 47 0 = 0) (h0 : 0 ≤ v3.toInt) (h7 : v3.toInt + 7 ≤ (L : Int)) (hN : ∀ (I : Im) (J : Jm) (R : Rm), Bd I → RI R → Fl R → RLk I J → P 1889 112 [(0, .ref 0), (1, .ref 1), (2, .ref 97), (3, .int v3)] [] I J R) : P 495 112 [(0, .ref 0), (1, .ref 1), (2, .ref 97), (3, .int v3)] [] I J R := by
  have i_v3 := i32 v3
  refine ls_495 hc v3 _ _ _ ?_
  have e1 : ((v3 + 1) : Int32).toInt = (v3.toInt) + (1) := ti_add rfl rfl (by omega)
  refine ⟨vp_of (a := (v3.toInt + 1)) e1 (by omega) (by omega), ?_⟩
  have z2 := i32 (xs (Int32.toNatClampNeg (v3 + 1)))
  have e3 : ((v3 + 2) : Int32).toInt = (v3.toInt) + (2) := ti_add rfl rfl (by omega)
  refine ⟨vp_of (a := (v3.toInt + 2)) e3 (by omega) (by omega), ?_⟩
  have z4 := i32 (xs (Int32.toNatClampNeg (v3 + 2)))
  have e5 : ((v3 + 3) : Int32).toInt = (v3.toInt) + (3) := ti_add rfl rfl (by omega)
  refine ⟨vp_of (a := (v3.toInt + 3)) e5 (by omega) (by omega), ?_⟩
  have z6 := i32 (xs (Int32.toNatClampNeg (v3 + 3)))
  have e7 : ((v3 + 4) : Int32).toInt = (v3.toInt) + (4) := ti_add rfl rfl (by omega)
  refine ⟨vp_of (a := (v3.toInt + 4)) e7 (by omega) (by omega), ?_⟩
  have z8 := i32 (xs (Int32.toNatClampNeg (v3 + 4)))
  have e9 : ((v3 + 5) : Int32).toInt = (v3.toInt) + (5) := ti_add rfl rfl (by omega)
  refine ⟨vp_of (a := (v3.toInt + 5)) e9 (by omega) (by omega), ?_⟩
  have z10 := i32 (xs (Int32.toNatClampNeg (v3 + 5)))
  refine ⟨⟨hF0, rfl⟩, ?_⟩
  refine kp6 rfl hR0 rfl (kp4 rfl (kp5 rfl hR0 rfl (kp1 rfl (kp2 rfl (kp3 rfl (sp_X11_feed hB0 hR0 (fun x11 y16 I12 J13 hB14 p15 kq19 kq18 kq17 k21 k20 k22 => ?_)))))))
  have b23 := Bd.o hB0 (show isO 112 3 6 = true from rfl) (show bnd 6 1 = some _ from rfl)
  have b24 := Bd.o hB14 (show isO 112 3 6 = true from rfl) (show bnd 6 1 = some _ from rfl)
  have i25 := i32 x11
  have b26 := Bd.o hB0 (show isO 112 97 12 = true from rfl) (show bnd 12 8 = some _ from rfl)
  have e27 : ((I12 97 8) : Int32).toInt = (I 97 8).toInt := Eq.trans (congrArg Int32.toInt kq17) rfl
  have kz28 : ((I12 97 8) : Int32).toInt = (I 97 8).toInt := e27
  have b29 := Bd.o hB0 (show isO 112 1 11 = true from rfl) (show bnd 11 13 = some _ from rfl)
  have e30 : ((I12 1 13) : Int32).toInt = (I 1 13).toInt := Eq.trans (congrArg Int32.toInt kq18) rfl
  have kz31 : ((I12 1 13) : Int32).toInt = (I 1 13).toInt := e30
  have b32 := Bd.o hB0 (show isO 112 97 12 = true from rfl) (show bnd 12 23 = some _ from rfl)
  have e33 : ((I12 97 23) : Int32).toInt = (I 97 23).toInt := Eq.trans (congrArg Int32.toInt kq19) rfl
  have kz34 : ((I12 97 23) : Int32).toInt = (I 97 23).toInt := e33
  refine ⟨vp_of (a := (v3.toInt + 1)) e1 (by omega) (by omega), ?_⟩
  have z35 := i32 (xs (Int32.toNatClampNeg (v3 + 1)))
  refine ⟨vp_of (a := (v3.toInt + 2)) e3 (by omega) (by omega), ?_⟩
  have z36 := i32 (xs (Int32.toNatClampNeg (v3 + 2)))
  refine ⟨vp_of (a := (v3.toInt + 3)) e5 (by omega) (by omega), ?_⟩
  have z37 := i32 (xs (Int32.toNatClampNeg (v3 + 3)))
  refine ⟨vp_of (a := (v3.toInt + 4)) e7 (by omega) (by omega), ?_⟩
  have z38 := i32 (xs (Int32.toNatClampNeg (v3 + 4)))
  refine ⟨vp_of (a := (v3.toInt + 5)) e9 (by omega) (by omega), ?_⟩
  have z39 := i32 (xs (Int32.toNatClampNeg (v3 + 5)))
  refine ⟨⟨hF0, rfl⟩, ?_⟩
  refine kp6 rfl hR0 rfl (kp4 rfl (kp5 rfl hR0 rfl (kp0 rfl (kp2 rfl (kp3 rfl (sp_X12_feed hB14 hR0 (fun x40 y45 I41 J42 hB43 p44 kq48 kq47 kq46 k50 k49 k51 => ?_)))))))
  have b52 := Bd.o hB43 (show isO 112 97 12 = true from rfl) (show bnd 12 8 = some _ from rfl)
  have i53 := i32 x40
  have e54 : ((I41 3 1) : Int32).toInt = (I12 3 1).toInt := Eq.trans (congrArg Int32.toInt kq46) rfl
  have kz55 : ((I41 3 1) : Int32).toInt = (I12 3 1).toInt := e54
  have e56 : ((I41 1 13) : Int32).toInt = (I 1 13).toInt := Eq.trans (congrArg Int32.toInt (Eq.trans kq47 kq18)) rfl
  have kz57 : ((I41 1 13) : Int32).toInt = (I 1 13).toInt := e56
  have e58 : ((I41 97 23) : Int32).toInt = (I 97 23).toInt := Eq.trans (congrArg Int32.toInt (Eq.trans kq48 kq19)) rfl
  have kz59 : ((I41 97 23) : Int32).toInt = (I 97 23).toInt := e58
  exact hN _ _ R hB43 hR0 hF0 ⟨(by have ya : ((I41 3 1) : Int32).toInt = (I12 3 1).toInt := e54; have yb : ((I41 97 8) : Int32).toInt = (I41 97 8).toInt := rfl; omega), (Eq.trans (e56) (Eq.trans hL1 (Eq.symm (e58)))), (RT.kp (RT.kp hL2 k20 k21) k49 k50), ((congrFun k51 0).trans ((congrFun k22 0).trans hL3))⟩
set_option maxHeartbeats 2000000 in
theorem lc_8 {Q : Nat → Qt} {P : Kt} {L : Nat} {xs : Nat → Int32} (hc : Cl (AM 640) false true L xs 2 112 kL_law Q P) (hL : L ≤ 3584) {v3 : Int32} {I : Im} {J : Jm} {R : Rm} (hB0 : Bd I) (hR0 : RI R) (hF0 : Fl R) (hL0 : (I 3 1).toInt = (I 97 8).toInt) (hL1 : (I 1 13).toInt = (I 97 23).toInt) (hL2 : RT I) (hL3 : J 47 0 = 0) (h0 : 0 ≤ v3.toInt) (h7 : v3.toInt + 7 ≤ (L : Int)) (hN : ∀ (I : Im) (J : Jm) (R : Rm), Bd I → RI R → Fl R → RLk I J → P 1889 112 [(0, .ref 0), (1, .ref 1), (2, .ref 97), (3, .int v3)] [] I J R) : P 558 112 [(0, .ref 0), (1, .ref 1), (2, .ref 97), (3, .int v3)] [] I J R := by
  have i_v3 := i32 v3
  refine ls_558 hc v3 _ _ _ ?_
  have e1 : ((v3 + 1) : Int32).toInt = (v3.toInt) + (1) := ti_add rfl rfl (by omega)
  refine ⟨vp_of (a := (v3.toInt + 1)) e1 (by omega) (by omega), ?_⟩
  have z2 := i32 (xs (Int32.toNatClampNeg (v3 + 1)))
  refine ⟨⟨hF0, rfl⟩, ?_⟩
  refine kp6 rfl hR0 rfl (kp4 rfl (kp5 rfl hR0 rfl (kp1 rfl (kp2 rfl (kp3 rfl (sp_X11_bakery hB0 hR0 (fun x3 y4 I5 J6 R7 hB8 hR9 hL10 p11 kq14 kq13 kq12 k16 k15 k17 => ?_)))))))
  have b18 := Bd.o hB8 (show isO 112 3 6 = true from rfl) (show bnd 6 1 = some _ from rfl)
  have b19 := Bd.o hB0 (show isO 112 97 12 = true from rfl) (show bnd 12 8 = some _ from rfl)
  have e20 : ((I5 97 8) : Int32).toInt = (I 97 8).toInt := Eq.trans (congrArg Int32.toInt kq12) rfl
  have kz21 : ((I5 97 8) : Int32).toInt = (I 97 8).toInt := e20
  have b22 := Bd.o hB0 (show isO 112 1 11 = true from rfl) (show bnd 11 13 = some _ from rfl)
  have e23 : ((I5 1 13) : Int32).toInt = (I 1 13).toInt := Eq.trans (congrArg Int32.toInt kq13) rfl
  have kz24 : ((I5 1 13) : Int32).toInt = (I 1 13).toInt := e23
  have b25 := Bd.o hB0 (show isO 112 97 12 = true from rfl) (show bnd 12 23 = some _ from rfl)
  have e26 : ((I5 97 23) : Int32).toInt = (I 97 23).toInt := Eq.trans (congrArg Int32.toInt kq14) rfl
  have kz27 : ((I5 97 23) : Int32).toInt = (I 97 23).toInt := e26
  refine ⟨vp_of (a := (v3.toInt + 1)) e1 (by omega) (by omega), ?_⟩
  have z28 := i32 (xs (Int32.toNatClampNeg (v3 + 1)))
  refine ⟨⟨(hL10 hF0), rfl⟩, ?_⟩
  refine kp6 rfl hR9 rfl (kp4 rfl (kp5 rfl hR9 rfl (kp0 rfl (kp2 rfl (kp3 rfl (sp_X12_bakery hB8 hR9 (fun x29 y34 I30 J31 hB32 p33 kq37 kq36 kq35 k39 k38 k40 => ?_)))))))
  have b41 := Bd.o hB32 (show isO 112 97 12 = true from rfl) (show bnd 12 8 = some _ from rfl)
  have i42 := i32 x29
  have e43 : ((I30 3 1) : Int32).toInt = (I5 3 1).toInt := Eq.trans (congrArg Int32.toInt kq35) rfl
  have kz44 : ((I30 3 1) : Int32).toInt = (I5 3 1).toInt := e43
  have e45 : ((I30 1 13) : Int32).toInt = (I 1 13).toInt := Eq.trans (congrArg Int32.toInt (Eq.trans kq36 kq13)) rfl
  have kz46 : ((I30 1 13) : Int32).toInt = (I 1 13).toInt := e45
  have e47 : ((I30 97 23) : Int32).toInt = (I 97 23).toInt := Eq.trans (congrArg Int32.toInt (Eq.trans kq37 kq14)) rfl
  have kz48 : ((I30 97 23) : Int32).toInt = (I 97 23).toInt := e47
  exact hN _ _ R7 hB32 hR9 (hL10 hF0) ⟨(by have ya : ((I30 3 1) : Int32).toInt = (I5 3 1).toInt := e43; have yb : ((I30 97 8) : Int32).toInt = (I30 97 8).toInt := rfl; omega), (Eq.trans (e45) (Eq.trans hL1 (Eq.symm (e47)))), (RT.kp (RT.kp hL2 k15 k16) k38 k39), ((congrFun k40 0).trans ((congrFun k17 0).trans hL3))⟩
set_option maxHeartbeats 2000000 in
theorem lc_9 {Q : Nat → Qt} {P : Kt} {L : Nat} {xs : Nat → Int32} (hc : Cl (AM 640) false true L xs 2 112 kL_law Q P) (hL : L ≤ 3584) {v3 : Int32} {I : Im} {J : Jm} {R : Rm} (hB0 : Bd I) (hR0 : RI R) (hF0 : Fl R) (hL0 : (I 3 1).toInt = (I 97 8).toInt) (hL1 : (I 1 13).toInt = (I 97 23).toInt) (hL2 : RT I) (hL3 : J 47 0 = 0) (h0 : 0 ≤ v3.toInt) (h7 : v3.toInt + 7 ≤ (L : Int)) (hN : ∀ (I : Im) (J : Jm) (R : Rm), Bd I → RI R → Fl R → RLk I J → P 1889 112 [(0, .ref 0), (1, .ref 1), (2, .ref 97), (3, .int v3)] [] I J R) : P 581 112 [(0, .ref 0), (1, .ref 1), (2, .ref 97), (3, .int v3)] [] I J R := by
  have i_v3 := i32 v3
  refine ls_581 hc v3 _ _ _ ?_
  have e1 : ((v3 + 1) : Int32).toInt = (v3.toInt) + (1) := ti_add rfl rfl (by omega)
  refine ⟨vp_of (a := (v3.toInt + 1)) e1 (by omega) (by omega), ?_⟩
  have z2 := i32 (xs (Int32.toNatClampNeg (v3 + 1)))
  refine ⟨⟨hF0, rfl⟩, ?_⟩
  refine kp6 rfl hR0 rfl (kp4 rfl (kp5 rfl hR0 rfl (kp1 rfl (kp2 rfl (kp3 rfl (sp_X11_days hB0 hR0 (fun x3 y4 I5 J6 R7 hB8 hR9 hL10 p11 kq14 kq13 kq12 k16 k15 k17 => ?_)))))))
  have b18 := Bd.o hB8 (show isO 112 3 6 = true from rfl) (show bnd 6 1 = some _ from rfl)
  have b19 := Bd.o hB0 (show isO 112 97 12 = true from rfl) (show bnd 12 8 = some _ from rfl)
  have e20 : ((I5 97 8) : Int32).toInt = (I 97 8).toInt := Eq.trans (congrArg Int32.toInt kq12) rfl
  have kz21 : ((I5 97 8) : Int32).toInt = (I 97 8).toInt := e20
  have b22 := Bd.o hB0 (show isO 112 1 11 = true from rfl) (show bnd 11 13 = some _ from rfl)
  have e23 : ((I5 1 13) : Int32).toInt = (I 1 13).toInt := Eq.trans (congrArg Int32.toInt kq13) rfl
  have kz24 : ((I5 1 13) : Int32).toInt = (I 1 13).toInt := e23
  have b25 := Bd.o hB0 (show isO 112 97 12 = true from rfl) (show bnd 12 23 = some _ from rfl)
  have e26 : ((I5 97 23) : Int32).toInt = (I 97 23).toInt := Eq.trans (congrArg Int32.toInt kq14) rfl
  have kz27 : ((I5 97 23) : Int32).toInt = (I 97 23).toInt := e26
  refine ⟨vp_of (a := (v3.toInt + 1)) e1 (by omega) (by omega), ?_⟩
  have z28 := i32 (xs (Int32.toNatClampNeg (v3 + 1)))
  refine ⟨⟨(hL10 hF0), rfl⟩, ?_⟩
  refine kp6 rfl hR9 rfl (kp4 rfl (kp5 rfl hR9 rfl (kp0 rfl (kp2 rfl (kp3 rfl (sp_X12_days hB8 hR9 (fun x29 y34 I30 J31 hB32 p33 kq37 kq36 kq35 k39 k38 k40 => ?_)))))))
  have b41 := Bd.o hB32 (show isO 112 97 12 = true from rfl) (show bnd 12 8 = some _ from rfl)
  have i42 := i32 x29
  have e43 : ((I30 3 1) : Int32).toInt = (I5 3 1).toInt := Eq.trans (congrArg Int32.toInt kq35) rfl
  have kz44 : ((I30 3 1) : Int32).toInt = (I5 3 1).toInt := e43
  have e45 : ((I30 1 13) : Int32).toInt = (I 1 13).toInt := Eq.trans (congrArg Int32.toInt (Eq.trans kq36 kq13)) rfl
  have kz46 : ((I30 1 13) : Int32).toInt = (I 1 13).toInt := e45
  have e47 : ((I30 97 23) : Int32).toInt = (I 97 23).toInt := Eq.trans (congrArg Int32.toInt (Eq.trans kq37 kq14)) rfl
  have kz48 : ((I30 97 23) : Int32).toInt = (I 97 23).toInt := e47
  exact hN _ _ R7 hB32 hR9 (hL10 hF0) ⟨(by have ya : ((I30 3 1) : Int32).toInt = (I5 3 1).toInt := e43; have yb : ((I30 97 8) : Int32).toInt = (I30 97 8).toInt := rfl; omega), (Eq.trans (e45) (Eq.trans hL1 (Eq.symm (e47)))), (RT.kp (RT.kp hL2 k15 k16) k38 k39), ((congrFun k40 0).trans ((congrFun k17 0).trans hL3))⟩
set_option maxHeartbeats 2000000 in
theorem lc_10 {Q : Nat → Qt} {P : Kt} {L : Nat} {xs : Nat → Int32} (hc : Cl (AM 640) false true L xs 2 112 kL_law Q P) (hL : L ≤ 3584) {v3 : Int32} {I : Im} {J : Jm} {R : Rm} (hB0 : Bd I) (hR0 : RI R) (hF0 : Fl R) (hL0 : (I 3 1).toInt = (I 97 8).toInt) (hL1 : (I 1 13).toInt = (I 97 23).toInt) (hL2 : RT I) (hL3 : J 47 0 = 0) (h0 : 0 ≤ v3.toInt) (h7 : v3.toInt + 7 ≤ (L : Int)) (hN : ∀ (I : Im) (J : Jm) (R : Rm), Bd I → RI R → Fl R → RLk I J → P 1889 112 [(0, .ref 0), (1, .ref 1), (2, .ref 97), (3, .int v3)] [] I J R) : P 604 112 [(0, .ref 0), (1, .ref 1), (2, .ref 97), (3, .int v3)] [] I J R := by
  have i_v3 := i32 v3
  refine ls_604 hc v3 _ _ _ ?_
  have e1 : ((v3 + 1) : Int32).toInt = (v3.toInt) + (1) := ti_add rfl rfl (by omega)
  refine ⟨vp_of (a := (v3.toInt + 1)) e1 (by omega) (by omega), ?_⟩
  have z2 := i32 (xs (Int32.toNatClampNeg (v3 + 1)))
  refine ⟨⟨hF0, rfl⟩, ?_⟩
  refine kp6 rfl hR0 rfl (kp4 rfl (kp5 rfl hR0 rfl (kp0 rfl (kp1 rfl (kp2 rfl (kp3 rfl (sp_X11_fault hB0 hR0 (fun x3 y8 I4 J5 hB6 p7 kq12 kq11 kq10 kq9 k14 k13 k15 => ?_))))))))
  have i16 := i32 x3
  have b17 := Bd.o hB0 (show isO 112 3 6 = true from rfl) (show bnd 6 1 = some _ from rfl)
  have e18 : ((I4 3 1) : Int32).toInt = (I 3 1).toInt := Eq.trans (congrArg Int32.toInt kq9) rfl
  have kz19 : ((I4 3 1) : Int32).toInt = (I 3 1).toInt := e18
  have b20 := Bd.o hB0 (show isO 112 97 12 = true from rfl) (show bnd 12 8 = some _ from rfl)
  have e21 : ((I4 97 8) : Int32).toInt = (I 97 8).toInt := Eq.trans (congrArg Int32.toInt kq10) rfl
  have kz22 : ((I4 97 8) : Int32).toInt = (I 97 8).toInt := e21
  have b23 := Bd.o hB0 (show isO 112 1 11 = true from rfl) (show bnd 11 13 = some _ from rfl)
  have e24 : ((I4 1 13) : Int32).toInt = (I 1 13).toInt := Eq.trans (congrArg Int32.toInt kq11) rfl
  have kz25 : ((I4 1 13) : Int32).toInt = (I 1 13).toInt := e24
  have b26 := Bd.o hB0 (show isO 112 97 12 = true from rfl) (show bnd 12 23 = some _ from rfl)
  have e27 : ((I4 97 23) : Int32).toInt = (I 97 23).toInt := Eq.trans (congrArg Int32.toInt kq12) rfl
  have kz28 : ((I4 97 23) : Int32).toInt = (I 97 23).toInt := e27
  refine ⟨vp_of (a := (v3.toInt + 1)) e1 (by omega) (by omega), ?_⟩
  have z29 := i32 (xs (Int32.toNatClampNeg (v3 + 1)))
  refine ⟨⟨hF0, rfl⟩, ?_⟩
  refine kp6 rfl hR0 rfl (kp4 rfl (kp5 rfl hR0 rfl (kp0 rfl (kp1 rfl (kp2 rfl (kp3 rfl (sp_X12_fault hB6 hR0 (fun x30 y35 I31 J32 hB33 p34 kq39 kq38 kq37 kq36 k41 k40 k42 => ?_))))))))
  have i43 := i32 x30
  have e44 : ((I31 3 1) : Int32).toInt = (I 3 1).toInt := Eq.trans (congrArg Int32.toInt (Eq.trans kq36 kq9)) rfl
  have kz45 : ((I31 3 1) : Int32).toInt = (I 3 1).toInt := e44
  have e46 : ((I31 97 8) : Int32).toInt = (I 97 8).toInt := Eq.trans (congrArg Int32.toInt (Eq.trans kq37 kq10)) rfl
  have kz47 : ((I31 97 8) : Int32).toInt = (I 97 8).toInt := e46
  have e48 : ((I31 1 13) : Int32).toInt = (I 1 13).toInt := Eq.trans (congrArg Int32.toInt (Eq.trans kq38 kq11)) rfl
  have kz49 : ((I31 1 13) : Int32).toInt = (I 1 13).toInt := e48
  have e50 : ((I31 97 23) : Int32).toInt = (I 97 23).toInt := Eq.trans (congrArg Int32.toInt (Eq.trans kq39 kq12)) rfl
  have kz51 : ((I31 97 23) : Int32).toInt = (I 97 23).toInt := e50
  exact hN _ _ R hB33 hR0 hF0 ⟨(Eq.trans (e44) (Eq.trans hL0 (Eq.symm (e46)))), (Eq.trans (e48) (Eq.trans hL1 (Eq.symm (e50)))), (RT.kp (RT.kp hL2 k13 k14) k40 k41), ((congrFun k42 0).trans ((congrFun k15 0).trans hL3))⟩
set_option maxHeartbeats 2000000 in
theorem lc_11 {Q : Nat → Qt} {P : Kt} {L : Nat} {xs : Nat → Int32} (hc : Cl (AM 640) false true L xs 2 112 kL_law Q P) (hL : L ≤ 3584) {v3 : Int32} {I : Im} {J : Jm} {R : Rm} (hB0 : Bd I) (hR0 : RI R) (hF0 : Fl R) (hL0 : (I 3 1).toInt = (I 97 8).toInt) (hL1 : (I 1 13).toInt = (I 97 23).toInt) (hL2 : RT I) (hL3 : J 47 0 = 0) (h0 : 0 ≤ v3.toInt) (h7 : v3.toInt + 7 ≤ (L : Int)) (hN : ∀ (I : Im) (J : Jm) (R : Rm), Bd I → RI R → Fl R → RLk I J → P 1889 112 [(0, .ref 0), (1, .ref 1), (2, .ref 97), (3, .int v3)] [] I J R) : P 627 112 [(0, .ref 0), (1, .ref 1), (2, .ref 97), (3, .int v3)] [] I J R := by
  have i_v3 := i32 v3
  refine ls_627 hc v3 _ _ _ ?_
  have e1 : ((v3 + 1) : Int32).toInt = (v3.toInt) + (1) := ti_add rfl rfl (by omega)
  refine ⟨vp_of (a := (v3.toInt + 1)) e1 (by omega) (by omega), ?_⟩
  have z2 := i32 (xs (Int32.toNatClampNeg (v3 + 1)))
  refine ⟨⟨hF0, rfl⟩, ?_⟩
  refine kp6 rfl hR0 rfl (kp4 rfl (kp5 rfl hR0 rfl (kp0 rfl (kp1 rfl (kp2 rfl (kp3 rfl (sp_X11_many hB0 hR0 (fun x3 y8 I4 J5 hB6 p7 kq12 kq11 kq10 kq9 k14 k13 k15 => ?_))))))))
  have i16 := i32 x3
  have b17 := Bd.o hB0 (show isO 112 3 6 = true from rfl) (show bnd 6 1 = some _ from rfl)
  have e18 : ((I4 3 1) : Int32).toInt = (I 3 1).toInt := Eq.trans (congrArg Int32.toInt kq9) rfl
  have kz19 : ((I4 3 1) : Int32).toInt = (I 3 1).toInt := e18
  have b20 := Bd.o hB0 (show isO 112 97 12 = true from rfl) (show bnd 12 8 = some _ from rfl)
  have e21 : ((I4 97 8) : Int32).toInt = (I 97 8).toInt := Eq.trans (congrArg Int32.toInt kq10) rfl
  have kz22 : ((I4 97 8) : Int32).toInt = (I 97 8).toInt := e21
  have b23 := Bd.o hB0 (show isO 112 1 11 = true from rfl) (show bnd 11 13 = some _ from rfl)
  have e24 : ((I4 1 13) : Int32).toInt = (I 1 13).toInt := Eq.trans (congrArg Int32.toInt kq11) rfl
  have kz25 : ((I4 1 13) : Int32).toInt = (I 1 13).toInt := e24
  have b26 := Bd.o hB0 (show isO 112 97 12 = true from rfl) (show bnd 12 23 = some _ from rfl)
  have e27 : ((I4 97 23) : Int32).toInt = (I 97 23).toInt := Eq.trans (congrArg Int32.toInt kq12) rfl
  have kz28 : ((I4 97 23) : Int32).toInt = (I 97 23).toInt := e27
  refine ⟨vp_of (a := (v3.toInt + 1)) e1 (by omega) (by omega), ?_⟩
  have z29 := i32 (xs (Int32.toNatClampNeg (v3 + 1)))
  refine ⟨⟨hF0, rfl⟩, ?_⟩
  refine kp6 rfl hR0 rfl (kp4 rfl (kp5 rfl hR0 rfl (kp0 rfl (kp1 rfl (kp2 rfl (kp3 rfl (sp_X12_many hB6 hR0 (fun x30 y35 I31 J32 hB33 p34 kq39 kq38 kq37 kq36 k41 k40 k42 => ?_))))))))
  have i43 := i32 x30
  have e44 : ((I31 3 1) : Int32).toInt = (I 3 1).toInt := Eq.trans (congrArg Int32.toInt (Eq.trans kq36 kq9)) rfl
  have kz45 : ((I31 3 1) : Int32).toInt = (I 3 1).toInt := e44
  have e46 : ((I31 97 8) : Int32).toInt = (I 97 8).toInt := Eq.trans (congrArg Int32.toInt (Eq.trans kq37 kq10)) rfl
  have kz47 : ((I31 97 8) : Int32).toInt = (I 97 8).toInt := e46
  have e48 : ((I31 1 13) : Int32).toInt = (I 1 13).toInt := Eq.trans (congrArg Int32.toInt (Eq.trans kq38 kq11)) rfl
  have kz49 : ((I31 1 13) : Int32).toInt = (I 1 13).toInt := e48
  have e50 : ((I31 97 23) : Int32).toInt = (I 97 23).toInt := Eq.trans (congrArg Int32.toInt (Eq.trans kq39 kq12)) rfl
  have kz51 : ((I31 97 23) : Int32).toInt = (I 97 23).toInt := e50
  exact hN _ _ R hB33 hR0 hF0 ⟨(Eq.trans (e44) (Eq.trans hL0 (Eq.symm (e46)))), (Eq.trans (e48) (Eq.trans hL1 (Eq.symm (e50)))), (RT.kp (RT.kp hL2 k13 k14) k40 k41), ((congrFun k42 0).trans ((congrFun k15 0).trans hL3))⟩
set_option maxHeartbeats 2000000 in
theorem lc_12 {Q : Nat → Qt} {P : Kt} {L : Nat} {xs : Nat → Int32} (hc : Cl (AM 640) false true L xs 2 112 kL_law Q P) (hL : L ≤ 3584) {v3 : Int32} {I : Im} {J : Jm} {R : Rm} (hB0 : Bd I) (hR0 : RI R) (hF0 : Fl R) (hL0 : (I 3 1).toInt = (I 97 8).toInt) (hL1 : (I 1 13).toInt = (I 97 23).toInt) (hL2 : RT I) (hL3 : J 47 0 = 0) (h0 : 0 ≤ v3.toInt) (h7 : v3.toInt + 7 ≤ (L : Int)) (hN : ∀ (I : Im) (J : Jm) (R : Rm), Bd I → RI R → Fl R → RLk I J → P 1889 112 [(0, .ref 0), (1, .ref 1), (2, .ref 97), (3, .int v3)] [] I J R) : P 650 112 [(0, .ref 0), (1, .ref 1), (2, .ref 97), (3, .int v3)] [] I J R := by
  have i_v3 := i32 v3
  refine ls_650 hc v3 _ _ _ ?_
  have e1 : ((v3 + 1) : Int32).toInt = (v3.toInt) + (1) := ti_add rfl rfl (by omega)
  refine ⟨vp_of (a := (v3.toInt + 1)) e1 (by omega) (by omega), ?_⟩
  have z2 := i32 (xs (Int32.toNatClampNeg (v3 + 1)))
  refine ⟨⟨hF0, rfl⟩, ?_⟩
  refine kp6 rfl hR0 rfl (kp4 rfl (kp5 rfl hR0 rfl (kp0 rfl (kp1 rfl (kp2 rfl (kp3 rfl (sp_X11_store hB0 hR0 (fun x3 y8 I4 J5 hB6 p7 kq12 kq11 kq10 kq9 k14 k13 k15 => ?_))))))))
  have i16 := i32 x3
  have b17 := Bd.o hB0 (show isO 112 3 6 = true from rfl) (show bnd 6 1 = some _ from rfl)
  have e18 : ((I4 3 1) : Int32).toInt = (I 3 1).toInt := Eq.trans (congrArg Int32.toInt kq9) rfl
  have kz19 : ((I4 3 1) : Int32).toInt = (I 3 1).toInt := e18
  have b20 := Bd.o hB0 (show isO 112 97 12 = true from rfl) (show bnd 12 8 = some _ from rfl)
  have e21 : ((I4 97 8) : Int32).toInt = (I 97 8).toInt := Eq.trans (congrArg Int32.toInt kq10) rfl
  have kz22 : ((I4 97 8) : Int32).toInt = (I 97 8).toInt := e21
  have b23 := Bd.o hB0 (show isO 112 1 11 = true from rfl) (show bnd 11 13 = some _ from rfl)
  have e24 : ((I4 1 13) : Int32).toInt = (I 1 13).toInt := Eq.trans (congrArg Int32.toInt kq11) rfl
  have kz25 : ((I4 1 13) : Int32).toInt = (I 1 13).toInt := e24
  have b26 := Bd.o hB0 (show isO 112 97 12 = true from rfl) (show bnd 12 23 = some _ from rfl)
  have e27 : ((I4 97 23) : Int32).toInt = (I 97 23).toInt := Eq.trans (congrArg Int32.toInt kq12) rfl
  have kz28 : ((I4 97 23) : Int32).toInt = (I 97 23).toInt := e27
  refine ⟨vp_of (a := (v3.toInt + 1)) e1 (by omega) (by omega), ?_⟩
  have z29 := i32 (xs (Int32.toNatClampNeg (v3 + 1)))
  refine ⟨⟨hF0, rfl⟩, ?_⟩
  refine kp6 rfl hR0 rfl (kp4 rfl (kp5 rfl hR0 rfl (kp0 rfl (kp1 rfl (kp2 rfl (kp3 rfl (sp_X12_store hB6 hR0 (fun x30 y35 I31 J32 hB33 p34 kq39 kq38 kq37 kq36 k41 k40 k42 => ?_))))))))
  have i43 := i32 x30
  have e44 : ((I31 3 1) : Int32).toInt = (I 3 1).toInt := Eq.trans (congrArg Int32.toInt (Eq.trans kq36 kq9)) rfl
  have kz45 : ((I31 3 1) : Int32).toInt = (I 3 1).toInt := e44
  have e46 : ((I31 97 8) : Int32).toInt = (I 97 8).toInt := Eq.trans (congrArg Int32.toInt (Eq.trans kq37 kq10)) rfl
  have kz47 : ((I31 97 8) : Int32).toInt = (I 97 8).toInt := e46
  have e48 : ((I31 1 13) : Int32).toInt = (I 1 13).toInt := Eq.trans (congrArg Int32.toInt (Eq.trans kq38 kq11)) rfl
  have kz49 : ((I31 1 13) : Int32).toInt = (I 1 13).toInt := e48
  have e50 : ((I31 97 23) : Int32).toInt = (I 97 23).toInt := Eq.trans (congrArg Int32.toInt (Eq.trans kq39 kq12)) rfl
  have kz51 : ((I31 97 23) : Int32).toInt = (I 97 23).toInt := e50
  exact hN _ _ R hB33 hR0 hF0 ⟨(Eq.trans (e44) (Eq.trans hL0 (Eq.symm (e46)))), (Eq.trans (e48) (Eq.trans hL1 (Eq.symm (e50)))), (RT.kp (RT.kp hL2 k13 k14) k40 k41), ((congrFun k42 0).trans ((congrFun k15 0).trans hL3))⟩
set_option maxHeartbeats 2000000 in
theorem lc_13 {Q : Nat → Qt} {P : Kt} {L : Nat} {xs : Nat → Int32} (hc : Cl (AM 640) false true L xs 2 112 kL_law Q P) (hL : L ≤ 3584) {v3 : Int32} {I : Im} {J : Jm} {R : Rm} (hB0 : Bd I) (hR0 : RI R) (hF0 : Fl R) (hL0 : (I 3 1).toInt = (I 97 8).toInt) (hL1 : (I 1 13).toInt = (I 97 23).toInt) (hL2 : RT I) (hL3 : J 47 0 = 0) (h0 : 0 ≤ v3.toInt) (h7 : v3.toInt + 7 ≤ (L : Int)) (hN : ∀ (I : Im) (J : Jm) (R : Rm), Bd I → RI R → Fl R → RLk I J → P 1889 112 [(0, .ref 0), (1, .ref 1), (2, .ref 97), (3, .int v3)] [] I J R) : P 673 112 [(0, .ref 0), (1, .ref 1), (2, .ref 97), (3, .int v3)] [] I J R := by
  have i_v3 := i32 v3
  refine ls_673 hc v3 _ _ _ ?_
  have e1 : ((v3 + 1) : Int32).toInt = (v3.toInt) + (1) := ti_add rfl rfl (by omega)
  refine ⟨vp_of (a := (v3.toInt + 1)) e1 (by omega) (by omega), ?_⟩
  have z2 := i32 (xs (Int32.toNatClampNeg (v3 + 1)))
  have e3 : ((v3 + 2) : Int32).toInt = (v3.toInt) + (2) := ti_add rfl rfl (by omega)
  refine ⟨vp_of (a := (v3.toInt + 2)) e3 (by omega) (by omega), ?_⟩
  have z4 := i32 (xs (Int32.toNatClampNeg (v3 + 2)))
  refine ⟨⟨hF0, rfl⟩, ?_⟩
  refine kp6 rfl hR0 rfl (kp4 rfl (kp5 rfl hR0 rfl (kp0 rfl (kp1 rfl (kp2 rfl (kp3 rfl (sp_X11_man hB0 hR0 (fun x5 y10 I6 J7 hB8 p9 kq14 kq13 kq12 kq11 k16 k15 k17 => ?_))))))))
  have i18 := i32 x5
  have b19 := Bd.o hB0 (show isO 112 3 6 = true from rfl) (show bnd 6 1 = some _ from rfl)
  have e20 : ((I6 3 1) : Int32).toInt = (I 3 1).toInt := Eq.trans (congrArg Int32.toInt kq11) rfl
  have kz21 : ((I6 3 1) : Int32).toInt = (I 3 1).toInt := e20
  have b22 := Bd.o hB0 (show isO 112 97 12 = true from rfl) (show bnd 12 8 = some _ from rfl)
  have e23 : ((I6 97 8) : Int32).toInt = (I 97 8).toInt := Eq.trans (congrArg Int32.toInt kq12) rfl
  have kz24 : ((I6 97 8) : Int32).toInt = (I 97 8).toInt := e23
  have b25 := Bd.o hB0 (show isO 112 1 11 = true from rfl) (show bnd 11 13 = some _ from rfl)
  have e26 : ((I6 1 13) : Int32).toInt = (I 1 13).toInt := Eq.trans (congrArg Int32.toInt kq13) rfl
  have kz27 : ((I6 1 13) : Int32).toInt = (I 1 13).toInt := e26
  have b28 := Bd.o hB0 (show isO 112 97 12 = true from rfl) (show bnd 12 23 = some _ from rfl)
  have e29 : ((I6 97 23) : Int32).toInt = (I 97 23).toInt := Eq.trans (congrArg Int32.toInt kq14) rfl
  have kz30 : ((I6 97 23) : Int32).toInt = (I 97 23).toInt := e29
  refine ⟨vp_of (a := (v3.toInt + 1)) e1 (by omega) (by omega), ?_⟩
  have z31 := i32 (xs (Int32.toNatClampNeg (v3 + 1)))
  refine ⟨vp_of (a := (v3.toInt + 2)) e3 (by omega) (by omega), ?_⟩
  have z32 := i32 (xs (Int32.toNatClampNeg (v3 + 2)))
  refine ⟨⟨hF0, rfl⟩, ?_⟩
  refine kp6 rfl hR0 rfl (kp4 rfl (kp5 rfl hR0 rfl (kp0 rfl (kp1 rfl (kp2 rfl (kp3 rfl (sp_X12_man hB8 hR0 (fun x33 y38 I34 J35 hB36 p37 kq42 kq41 kq40 kq39 k44 k43 k45 => ?_))))))))
  have i46 := i32 x33
  have e47 : ((I34 3 1) : Int32).toInt = (I 3 1).toInt := Eq.trans (congrArg Int32.toInt (Eq.trans kq39 kq11)) rfl
  have kz48 : ((I34 3 1) : Int32).toInt = (I 3 1).toInt := e47
  have e49 : ((I34 97 8) : Int32).toInt = (I 97 8).toInt := Eq.trans (congrArg Int32.toInt (Eq.trans kq40 kq12)) rfl
  have kz50 : ((I34 97 8) : Int32).toInt = (I 97 8).toInt := e49
  have e51 : ((I34 1 13) : Int32).toInt = (I 1 13).toInt := Eq.trans (congrArg Int32.toInt (Eq.trans kq41 kq13)) rfl
  have kz52 : ((I34 1 13) : Int32).toInt = (I 1 13).toInt := e51
  have e53 : ((I34 97 23) : Int32).toInt = (I 97 23).toInt := Eq.trans (congrArg Int32.toInt (Eq.trans kq42 kq14)) rfl
  have kz54 : ((I34 97 23) : Int32).toInt = (I 97 23).toInt := e53
  exact hN _ _ R hB36 hR0 hF0 ⟨(Eq.trans (e47) (Eq.trans hL0 (Eq.symm (e49)))), (Eq.trans (e51) (Eq.trans hL1 (Eq.symm (e53)))), (RT.kp (RT.kp hL2 k15 k16) k43 k44), ((congrFun k45 0).trans ((congrFun k17 0).trans hL3))⟩
set_option maxHeartbeats 2000000 in
theorem lc_14 {Q : Nat → Qt} {P : Kt} {L : Nat} {xs : Nat → Int32} (hc : Cl (AM 640) false true L xs 2 112 kL_law Q P) (hL : L ≤ 3584) {v3 : Int32} {I : Im} {J : Jm} {R : Rm} (hB0 : Bd I) (hR0 : RI R) (hF0 : Fl R) (hL0 : (I 3 1).toInt = (I 97 8).toInt) (hL1 : (I 1 13).toInt = (I 97 23).toInt) (hL2 : RT I) (hL3 : J 47 0 = 0) (h0 : 0 ≤ v3.toInt) (h7 : v3.toInt + 7 ≤ (L : Int)) (hN : ∀ (I : Im) (J : Jm) (R : Rm), Bd I → RI R → Fl R → RLk I J → P 1889 112 [(0, .ref 0), (1, .ref 1), (2, .ref 97), (3, .int v3)] [] I J R) : P 706 112 [(0, .ref 0), (1, .ref 1), (2, .ref 97), (3, .int v3)] [] I J R := by
  have i_v3 := i32 v3
  refine ls_706 hc v3 _ _ _ ?_
  have e1 : ((v3 + 1) : Int32).toInt = (v3.toInt) + (1) := ti_add rfl rfl (by omega)
  refine ⟨vp_of (a := (v3.toInt + 1)) e1 (by omega) (by omega), ?_⟩
  have z2 := i32 (xs (Int32.toNatClampNeg (v3 + 1)))
  refine ⟨⟨hF0, rfl⟩, ?_⟩
  refine kp6 rfl hR0 rfl (kp4 rfl (kp5 rfl hR0 rfl (kp0 rfl (kp1 rfl (kp2 rfl (kp3 rfl (sp_X11_has hB0 hR0 (fun x3 y8 I4 J5 hB6 p7 kq12 kq11 kq10 kq9 k14 k13 k15 => ?_))))))))
  intro o16
  have i17 := i32 x3
  have b18 := Bd.o hB0 (show isO 112 3 6 = true from rfl) (show bnd 6 1 = some _ from rfl)
  have e19 : ((I4 3 1) : Int32).toInt = (I 3 1).toInt := Eq.trans (congrArg Int32.toInt kq9) rfl
  have kz20 : ((I4 3 1) : Int32).toInt = (I 3 1).toInt := e19
  have b21 := Bd.o hB0 (show isO 112 97 12 = true from rfl) (show bnd 12 8 = some _ from rfl)
  have e22 : ((I4 97 8) : Int32).toInt = (I 97 8).toInt := Eq.trans (congrArg Int32.toInt kq10) rfl
  have kz23 : ((I4 97 8) : Int32).toInt = (I 97 8).toInt := e22
  have b24 := Bd.o hB0 (show isO 112 1 11 = true from rfl) (show bnd 11 13 = some _ from rfl)
  have e25 : ((I4 1 13) : Int32).toInt = (I 1 13).toInt := Eq.trans (congrArg Int32.toInt kq11) rfl
  have kz26 : ((I4 1 13) : Int32).toInt = (I 1 13).toInt := e25
  have b27 := Bd.o hB0 (show isO 112 97 12 = true from rfl) (show bnd 12 23 = some _ from rfl)
  have e28 : ((I4 97 23) : Int32).toInt = (I 97 23).toInt := Eq.trans (congrArg Int32.toInt kq12) rfl
  have kz29 : ((I4 97 23) : Int32).toInt = (I 97 23).toInt := e28
  refine ⟨vp_of (a := (v3.toInt + 1)) e1 (by omega) (by omega), ?_⟩
  have z30 := i32 (xs (Int32.toNatClampNeg (v3 + 1)))
  refine ⟨⟨hF0, rfl⟩, ?_⟩
  refine kp6 rfl hR0 rfl (kp4 rfl (kp5 rfl hR0 rfl (kp0 rfl (kp1 rfl (kp2 rfl (kp3 rfl (sp_X12_has hB6 hR0 (fun x31 y36 I32 J33 hB34 p35 kq40 kq39 kq38 kq37 k42 k41 k43 => ?_))))))))
  intro o44
  have i45 := i32 x31
  have e46 : ((I32 3 1) : Int32).toInt = (I 3 1).toInt := Eq.trans (congrArg Int32.toInt (Eq.trans kq37 kq9)) rfl
  have kz47 : ((I32 3 1) : Int32).toInt = (I 3 1).toInt := e46
  have e48 : ((I32 97 8) : Int32).toInt = (I 97 8).toInt := Eq.trans (congrArg Int32.toInt (Eq.trans kq38 kq10)) rfl
  have kz49 : ((I32 97 8) : Int32).toInt = (I 97 8).toInt := e48
  have e50 : ((I32 1 13) : Int32).toInt = (I 1 13).toInt := Eq.trans (congrArg Int32.toInt (Eq.trans kq39 kq11)) rfl
  have kz51 : ((I32 1 13) : Int32).toInt = (I 1 13).toInt := e50
  have e52 : ((I32 97 23) : Int32).toInt = (I 97 23).toInt := Eq.trans (congrArg Int32.toInt (Eq.trans kq40 kq12)) rfl
  have kz53 : ((I32 97 23) : Int32).toInt = (I 97 23).toInt := e52
  exact hN _ _ R hB34 hR0 hF0 ⟨(Eq.trans (e46) (Eq.trans hL0 (Eq.symm (e48)))), (Eq.trans (e50) (Eq.trans hL1 (Eq.symm (e52)))), (RT.kp (RT.kp hL2 k13 k14) k41 k42), ((congrFun k43 0).trans ((congrFun k15 0).trans hL3))⟩
set_option maxHeartbeats 2000000 in
theorem lc_15 {Q : Nat → Qt} {P : Kt} {L : Nat} {xs : Nat → Int32} (hc : Cl (AM 640) false true L xs 2 112 kL_law Q P) (hL : L ≤ 3584) {v3 : Int32} {I : Im} {J : Jm} {R : Rm} (hB0 : Bd I) (hR0 : RI R) (hF0 : Fl R) (hL0 : (I 3 1).toInt = (I 97 8).toInt) (hL1 : (I 1 13).toInt = (I 97 23).toInt) (hL2 : RT I) (hL3 : J 47 0 = 0) (h0 : 0 ≤ v3.toInt) (h7 : v3.toInt + 7 ≤ (L : Int)) (hN : ∀ (I : Im) (J : Jm) (R : Rm), Bd I → RI R → Fl R → RLk I J → P 1889 112 [(0, .ref 0), (1, .ref 1), (2, .ref 97), (3, .int v3)] [] I J R) : P 729 112 [(0, .ref 0), (1, .ref 1), (2, .ref 97), (3, .int v3)] [] I J R := by
  have i_v3 := i32 v3
  refine ls_729 hc v3 _ _ _ ?_
  have e1 : ((v3 + 1) : Int32).toInt = (v3.toInt) + (1) := ti_add rfl rfl (by omega)
  refine ⟨vp_of (a := (v3.toInt + 1)) e1 (by omega) (by omega), ?_⟩
  have z2 := i32 (xs (Int32.toNatClampNeg (v3 + 1)))
  refine ⟨⟨hF0, rfl⟩, ?_⟩
  refine kp6 rfl hR0 rfl (kp4 rfl (kp5 rfl hR0 rfl (kp0 rfl (kp1 rfl (kp2 rfl (kp3 rfl (sp_X11_lacks hB0 hR0 (fun x3 y8 I4 J5 hB6 p7 kq12 kq11 kq10 kq9 k14 k13 k15 => ?_))))))))
  intro o16
  have i17 := i32 x3
  have b18 := Bd.o hB0 (show isO 112 3 6 = true from rfl) (show bnd 6 1 = some _ from rfl)
  have e19 : ((I4 3 1) : Int32).toInt = (I 3 1).toInt := Eq.trans (congrArg Int32.toInt kq9) rfl
  have kz20 : ((I4 3 1) : Int32).toInt = (I 3 1).toInt := e19
  have b21 := Bd.o hB0 (show isO 112 97 12 = true from rfl) (show bnd 12 8 = some _ from rfl)
  have e22 : ((I4 97 8) : Int32).toInt = (I 97 8).toInt := Eq.trans (congrArg Int32.toInt kq10) rfl
  have kz23 : ((I4 97 8) : Int32).toInt = (I 97 8).toInt := e22
  have b24 := Bd.o hB0 (show isO 112 1 11 = true from rfl) (show bnd 11 13 = some _ from rfl)
  have e25 : ((I4 1 13) : Int32).toInt = (I 1 13).toInt := Eq.trans (congrArg Int32.toInt kq11) rfl
  have kz26 : ((I4 1 13) : Int32).toInt = (I 1 13).toInt := e25
  have b27 := Bd.o hB0 (show isO 112 97 12 = true from rfl) (show bnd 12 23 = some _ from rfl)
  have e28 : ((I4 97 23) : Int32).toInt = (I 97 23).toInt := Eq.trans (congrArg Int32.toInt kq12) rfl
  have kz29 : ((I4 97 23) : Int32).toInt = (I 97 23).toInt := e28
  refine ⟨vp_of (a := (v3.toInt + 1)) e1 (by omega) (by omega), ?_⟩
  have z30 := i32 (xs (Int32.toNatClampNeg (v3 + 1)))
  refine ⟨⟨hF0, rfl⟩, ?_⟩
  refine kp6 rfl hR0 rfl (kp4 rfl (kp5 rfl hR0 rfl (kp0 rfl (kp1 rfl (kp2 rfl (kp3 rfl (sp_X12_lacks hB6 hR0 (fun x31 y36 I32 J33 hB34 p35 kq40 kq39 kq38 kq37 k42 k41 k43 => ?_))))))))
  intro o44
  have i45 := i32 x31
  have e46 : ((I32 3 1) : Int32).toInt = (I 3 1).toInt := Eq.trans (congrArg Int32.toInt (Eq.trans kq37 kq9)) rfl
  have kz47 : ((I32 3 1) : Int32).toInt = (I 3 1).toInt := e46
  have e48 : ((I32 97 8) : Int32).toInt = (I 97 8).toInt := Eq.trans (congrArg Int32.toInt (Eq.trans kq38 kq10)) rfl
  have kz49 : ((I32 97 8) : Int32).toInt = (I 97 8).toInt := e48
  have e50 : ((I32 1 13) : Int32).toInt = (I 1 13).toInt := Eq.trans (congrArg Int32.toInt (Eq.trans kq39 kq11)) rfl
  have kz51 : ((I32 1 13) : Int32).toInt = (I 1 13).toInt := e50
  have e52 : ((I32 97 23) : Int32).toInt = (I 97 23).toInt := Eq.trans (congrArg Int32.toInt (Eq.trans kq40 kq12)) rfl
  have kz53 : ((I32 97 23) : Int32).toInt = (I 97 23).toInt := e52
  exact hN _ _ R hB34 hR0 hF0 ⟨(Eq.trans (e46) (Eq.trans hL0 (Eq.symm (e48)))), (Eq.trans (e50) (Eq.trans hL1 (Eq.symm (e52)))), (RT.kp (RT.kp hL2 k13 k14) k41 k42), ((congrFun k43 0).trans ((congrFun k15 0).trans hL3))⟩
set_option maxHeartbeats 2000000 in
theorem lc_16 {Q : Nat → Qt} {P : Kt} {L : Nat} {xs : Nat → Int32} (hc : Cl (AM 640) false true L xs 2 112 kL_law Q P) (hL : L ≤ 3584) {v3 : Int32} {I : Im} {J : Jm} {R : Rm} (hB0 : Bd I) (hR0 : RI R) (hF0 : Fl R) (hL0 : (I 3 1).toInt = (I 97 8).toInt) (hL1 : (I 1 13).toInt = (I 97 23).toInt) (hL2 : RT I) (hL3 : J 47 0 = 0) (h0 : 0 ≤ v3.toInt) (h7 : v3.toInt + 7 ≤ (L : Int)) (hN : ∀ (I : Im) (J : Jm) (R : Rm), Bd I → RI R → Fl R → RLk I J → P 1889 112 [(0, .ref 0), (1, .ref 1), (2, .ref 97), (3, .int v3)] [] I J R) : P 752 112 [(0, .ref 0), (1, .ref 1), (2, .ref 97), (3, .int v3)] [] I J R := by
  have i_v3 := i32 v3
  refine ls_752 hc v3 _ _ _ ?_
  refine ⟨⟨hF0, rfl⟩, ?_⟩
  refine kp6 rfl hR0 rfl (kp4 rfl (kp5 rfl hR0 rfl (kp0 rfl (kp1 rfl (kp2 rfl (kp3 rfl (sp_X11_worth hB0 hR0 (fun x1 y6 I2 J3 hB4 p5 kq10 kq9 kq8 kq7 k12 k11 k13 => ?_))))))))
  intro o14
  have i15 := i32 x1
  have b16 := Bd.o hB0 (show isO 112 3 6 = true from rfl) (show bnd 6 1 = some _ from rfl)
  have e17 : ((I2 3 1) : Int32).toInt = (I 3 1).toInt := Eq.trans (congrArg Int32.toInt kq7) rfl
  have kz18 : ((I2 3 1) : Int32).toInt = (I 3 1).toInt := e17
  have b19 := Bd.o hB0 (show isO 112 97 12 = true from rfl) (show bnd 12 8 = some _ from rfl)
  have e20 : ((I2 97 8) : Int32).toInt = (I 97 8).toInt := Eq.trans (congrArg Int32.toInt kq8) rfl
  have kz21 : ((I2 97 8) : Int32).toInt = (I 97 8).toInt := e20
  have b22 := Bd.o hB0 (show isO 112 1 11 = true from rfl) (show bnd 11 13 = some _ from rfl)
  have e23 : ((I2 1 13) : Int32).toInt = (I 1 13).toInt := Eq.trans (congrArg Int32.toInt kq9) rfl
  have kz24 : ((I2 1 13) : Int32).toInt = (I 1 13).toInt := e23
  have b25 := Bd.o hB0 (show isO 112 97 12 = true from rfl) (show bnd 12 23 = some _ from rfl)
  have e26 : ((I2 97 23) : Int32).toInt = (I 97 23).toInt := Eq.trans (congrArg Int32.toInt kq10) rfl
  have kz27 : ((I2 97 23) : Int32).toInt = (I 97 23).toInt := e26
  refine ⟨⟨hF0, rfl⟩, ?_⟩
  refine kp6 rfl hR0 rfl (kp4 rfl (kp5 rfl hR0 rfl (kp0 rfl (kp1 rfl (kp2 rfl (kp3 rfl (sp_X12_worth hB4 hR0 (fun x28 y33 I29 J30 hB31 p32 kq37 kq36 kq35 kq34 k39 k38 k40 => ?_))))))))
  intro o41
  have i42 := i32 x28
  have e43 : ((I29 3 1) : Int32).toInt = (I 3 1).toInt := Eq.trans (congrArg Int32.toInt (Eq.trans kq34 kq7)) rfl
  have kz44 : ((I29 3 1) : Int32).toInt = (I 3 1).toInt := e43
  have e45 : ((I29 97 8) : Int32).toInt = (I 97 8).toInt := Eq.trans (congrArg Int32.toInt (Eq.trans kq35 kq8)) rfl
  have kz46 : ((I29 97 8) : Int32).toInt = (I 97 8).toInt := e45
  have e47 : ((I29 1 13) : Int32).toInt = (I 1 13).toInt := Eq.trans (congrArg Int32.toInt (Eq.trans kq36 kq9)) rfl
  have kz48 : ((I29 1 13) : Int32).toInt = (I 1 13).toInt := e47
  have e49 : ((I29 97 23) : Int32).toInt = (I 97 23).toInt := Eq.trans (congrArg Int32.toInt (Eq.trans kq37 kq10)) rfl
  have kz50 : ((I29 97 23) : Int32).toInt = (I 97 23).toInt := e49
  exact hN _ _ R hB31 hR0 hF0 ⟨(Eq.trans (e43) (Eq.trans hL0 (Eq.symm (e45)))), (Eq.trans (e47) (Eq.trans hL1 (Eq.symm (e49)))), (RT.kp (RT.kp hL2 k11 k12) k38 k39), ((congrFun k40 0).trans ((congrFun k13 0).trans hL3))⟩
set_option maxHeartbeats 2000000 in
theorem lc_17 {Q : Nat → Qt} {P : Kt} {L : Nat} {xs : Nat → Int32} (hc : Cl (AM 640) false true L xs 2 112 kL_law Q P) (hL : L ≤ 3584) {v3 : Int32} {I : Im} {J : Jm} {R : Rm} (hB0 : Bd I) (hR0 : RI R) (hF0 : Fl R) (hL0 : (I 3 1).toInt = (I 97 8).toInt) (hL1 : (I 1 13).toInt = (I 97 23).toInt) (hL2 : RT I) (hL3 : J 47 0 = 0) (h0 : 0 ≤ v3.toInt) (h7 : v3.toInt + 7 ≤ (L : Int)) (hN : ∀ (I : Im) (J : Jm) (R : Rm), Bd I → RI R → Fl R → RLk I J → P 1889 112 [(0, .ref 0), (1, .ref 1), (2, .ref 97), (3, .int v3)] [] I J R) : P 765 112 [(0, .ref 0), (1, .ref 1), (2, .ref 97), (3, .int v3)] [] I J R := by
  have i_v3 := i32 v3
  refine ls_765 hc v3 _ _ _ ?_
  have e1 : ((v3 + 1) : Int32).toInt = (v3.toInt) + (1) := ti_add rfl rfl (by omega)
  refine ⟨vp_of (a := (v3.toInt + 1)) e1 (by omega) (by omega), ?_⟩
  have z2 := i32 (xs (Int32.toNatClampNeg (v3 + 1)))
  have e3 : ((v3 + 2) : Int32).toInt = (v3.toInt) + (2) := ti_add rfl rfl (by omega)
  refine ⟨vp_of (a := (v3.toInt + 2)) e3 (by omega) (by omega), ?_⟩
  have z4 := i32 (xs (Int32.toNatClampNeg (v3 + 2)))
  refine ⟨⟨hF0, rfl⟩, ?_⟩
  refine kp6 rfl hR0 rfl (kp4 rfl (kp5 rfl hR0 rfl (kp0 rfl (kp1 rfl (kp2 rfl (kp3 rfl (sp_X11_copyStore hB0 hR0 (fun x5 y10 I6 J7 hB8 p9 kq14 kq13 kq12 kq11 k16 k15 k17 => ?_))))))))
  have i18 := i32 x5
  have b19 := Bd.o hB0 (show isO 112 3 6 = true from rfl) (show bnd 6 1 = some _ from rfl)
  have e20 : ((I6 3 1) : Int32).toInt = (I 3 1).toInt := Eq.trans (congrArg Int32.toInt kq11) rfl
  have kz21 : ((I6 3 1) : Int32).toInt = (I 3 1).toInt := e20
  have b22 := Bd.o hB0 (show isO 112 97 12 = true from rfl) (show bnd 12 8 = some _ from rfl)
  have e23 : ((I6 97 8) : Int32).toInt = (I 97 8).toInt := Eq.trans (congrArg Int32.toInt kq12) rfl
  have kz24 : ((I6 97 8) : Int32).toInt = (I 97 8).toInt := e23
  have b25 := Bd.o hB0 (show isO 112 1 11 = true from rfl) (show bnd 11 13 = some _ from rfl)
  have e26 : ((I6 1 13) : Int32).toInt = (I 1 13).toInt := Eq.trans (congrArg Int32.toInt kq13) rfl
  have kz27 : ((I6 1 13) : Int32).toInt = (I 1 13).toInt := e26
  have b28 := Bd.o hB0 (show isO 112 97 12 = true from rfl) (show bnd 12 23 = some _ from rfl)
  have e29 : ((I6 97 23) : Int32).toInt = (I 97 23).toInt := Eq.trans (congrArg Int32.toInt kq14) rfl
  have kz30 : ((I6 97 23) : Int32).toInt = (I 97 23).toInt := e29
  have hw31 : 0 ≤ ((xs (Int32.toNatClampNeg (v3 + 1))) : Int32).toInt → ((xs (Int32.toNatClampNeg (v3 + 1))) : Int32).toInt ≤ 3 → (I (R 2 (Int32.toNatClampNeg (xs (Int32.toNatClampNeg (v3 + 1))))) 1).toInt = (I6 99 (Int32.toNatClampNeg (xs (Int32.toNatClampNeg (v3 + 1))))).toInt := fun a b => RT.a1 hL2 hR0 k16 a b
  refine ⟨vp_of (a := (v3.toInt + 1)) e1 (by omega) (by omega), ?_⟩
  have z32 := i32 (xs (Int32.toNatClampNeg (v3 + 1)))
  refine ⟨vp_of (a := (v3.toInt + 2)) e3 (by omega) (by omega), ?_⟩
  have z33 := i32 (xs (Int32.toNatClampNeg (v3 + 2)))
  refine ⟨⟨hF0, rfl⟩, ?_⟩
  refine kp6 rfl hR0 rfl (kp4 rfl (kp0 rfl (kp1 rfl (kp2 rfl (kp3 rfl (sp_X12_copyStore hB8 hR0 (fun x34 y39 I35 J36 hB37 p38 kq43 kq42 kq41 kq40 k44 k45 => ?_)))))))
  have i46 := i32 x34
  have e47 : ((I35 3 1) : Int32).toInt = (I 3 1).toInt := Eq.trans (congrArg Int32.toInt (Eq.trans kq40 kq11)) rfl
  have kz48 : ((I35 3 1) : Int32).toInt = (I 3 1).toInt := e47
  have e49 : ((I35 97 8) : Int32).toInt = (I 97 8).toInt := Eq.trans (congrArg Int32.toInt (Eq.trans kq41 kq12)) rfl
  have kz50 : ((I35 97 8) : Int32).toInt = (I 97 8).toInt := e49
  have e51 : ((I35 1 13) : Int32).toInt = (I 1 13).toInt := Eq.trans (congrArg Int32.toInt (Eq.trans kq42 kq13)) rfl
  have kz52 : ((I35 1 13) : Int32).toInt = (I 1 13).toInt := e51
  have e53 : ((I35 97 23) : Int32).toInt = (I 97 23).toInt := Eq.trans (congrArg Int32.toInt (Eq.trans kq43 kq14)) rfl
  have kz54 : ((I35 97 23) : Int32).toInt = (I 97 23).toInt := e53
  exact hN _ _ R hB37 hR0 hF0 ⟨(Eq.trans (e47) (Eq.trans hL0 (Eq.symm (e49)))), (Eq.trans (e51) (Eq.trans hL1 (Eq.symm (e53)))), (RT.kp (RT.kp hL2 k15 k16) k44 (p38.2)), ((congrFun k45 0).trans ((congrFun k17 0).trans hL3))⟩
set_option maxHeartbeats 2000000 in
theorem lc_18 {Q : Nat → Qt} {P : Kt} {L : Nat} {xs : Nat → Int32} (hc : Cl (AM 640) false true L xs 2 112 kL_law Q P) (hL : L ≤ 3584) {v3 : Int32} {I : Im} {J : Jm} {R : Rm} (hB0 : Bd I) (hR0 : RI R) (hF0 : Fl R) (hL0 : (I 3 1).toInt = (I 97 8).toInt) (hL1 : (I 1 13).toInt = (I 97 23).toInt) (hL2 : RT I) (hL3 : J 47 0 = 0) (h0 : 0 ≤ v3.toInt) (h7 : v3.toInt + 7 ≤ (L : Int)) (hN : ∀ (I : Im) (J : Jm) (R : Rm), Bd I → RI R → Fl R → RLk I J → P 1889 112 [(0, .ref 0), (1, .ref 1), (2, .ref 97), (3, .int v3)] [] I J R) : P 798 112 [(0, .ref 0), (1, .ref 1), (2, .ref 97), (3, .int v3)] [] I J R := by
  have i_v3 := i32 v3
  refine ls_798 hc v3 _ _ _ ?_
  have e1 : ((v3 + 1) : Int32).toInt = (v3.toInt) + (1) := ti_add rfl rfl (by omega)
  refine ⟨vp_of (a := (v3.toInt + 1)) e1 (by omega) (by omega), ?_⟩
  have z2 := i32 (xs (Int32.toNatClampNeg (v3 + 1)))
  refine ⟨⟨hF0, rfl⟩, ?_⟩
  refine kp6 rfl hR0 rfl (kp4 rfl (kp5 rfl hR0 rfl (kp0 rfl (kp1 rfl (kp2 rfl (kp3 rfl (sp_X11_bake hB0 hR0 (fun x3 y8 I4 J5 hB6 p7 kq12 kq11 kq10 kq9 k14 k13 k15 => ?_))))))))
  have i16 := i32 x3
  have b17 := Bd.o hB0 (show isO 112 3 6 = true from rfl) (show bnd 6 1 = some _ from rfl)
  have e18 : ((I4 3 1) : Int32).toInt = (I 3 1).toInt := Eq.trans (congrArg Int32.toInt kq9) rfl
  have kz19 : ((I4 3 1) : Int32).toInt = (I 3 1).toInt := e18
  have b20 := Bd.o hB0 (show isO 112 97 12 = true from rfl) (show bnd 12 8 = some _ from rfl)
  have e21 : ((I4 97 8) : Int32).toInt = (I 97 8).toInt := Eq.trans (congrArg Int32.toInt kq10) rfl
  have kz22 : ((I4 97 8) : Int32).toInt = (I 97 8).toInt := e21
  have b23 := Bd.o hB0 (show isO 112 1 11 = true from rfl) (show bnd 11 13 = some _ from rfl)
  have e24 : ((I4 1 13) : Int32).toInt = (I 1 13).toInt := Eq.trans (congrArg Int32.toInt kq11) rfl
  have kz25 : ((I4 1 13) : Int32).toInt = (I 1 13).toInt := e24
  have b26 := Bd.o hB0 (show isO 112 97 12 = true from rfl) (show bnd 12 23 = some _ from rfl)
  have e27 : ((I4 97 23) : Int32).toInt = (I 97 23).toInt := Eq.trans (congrArg Int32.toInt kq12) rfl
  have kz28 : ((I4 97 23) : Int32).toInt = (I 97 23).toInt := e27
  refine ⟨vp_of (a := (v3.toInt + 1)) e1 (by omega) (by omega), ?_⟩
  have z29 := i32 (xs (Int32.toNatClampNeg (v3 + 1)))
  refine ⟨⟨hF0, rfl⟩, ?_⟩
  refine kp6 rfl hR0 rfl (kp4 rfl (kp5 rfl hR0 rfl (kp0 rfl (kp1 rfl (kp2 rfl (kp3 rfl (sp_X12_bake hB6 hR0 (fun x30 y35 I31 J32 hB33 p34 kq39 kq38 kq37 kq36 k41 k40 k42 => ?_))))))))
  have i43 := i32 x30
  have e44 : ((I31 3 1) : Int32).toInt = (I 3 1).toInt := Eq.trans (congrArg Int32.toInt (Eq.trans kq36 kq9)) rfl
  have kz45 : ((I31 3 1) : Int32).toInt = (I 3 1).toInt := e44
  have e46 : ((I31 97 8) : Int32).toInt = (I 97 8).toInt := Eq.trans (congrArg Int32.toInt (Eq.trans kq37 kq10)) rfl
  have kz47 : ((I31 97 8) : Int32).toInt = (I 97 8).toInt := e46
  have e48 : ((I31 1 13) : Int32).toInt = (I 1 13).toInt := Eq.trans (congrArg Int32.toInt (Eq.trans kq38 kq11)) rfl
  have kz49 : ((I31 1 13) : Int32).toInt = (I 1 13).toInt := e48
  have e50 : ((I31 97 23) : Int32).toInt = (I 97 23).toInt := Eq.trans (congrArg Int32.toInt (Eq.trans kq39 kq12)) rfl
  have kz51 : ((I31 97 23) : Int32).toInt = (I 97 23).toInt := e50
  exact hN _ _ R hB33 hR0 hF0 ⟨(Eq.trans (e44) (Eq.trans hL0 (Eq.symm (e46)))), (Eq.trans (e48) (Eq.trans hL1 (Eq.symm (e50)))), (RT.kp (RT.kp hL2 k13 k14) k40 k41), ((congrFun k42 0).trans ((congrFun k15 0).trans hL3))⟩
set_option maxHeartbeats 2000000 in
theorem lc_19 {Q : Nat → Qt} {P : Kt} {L : Nat} {xs : Nat → Int32} (hc : Cl (AM 640) false true L xs 2 112 kL_law Q P) (hL : L ≤ 3584) {v3 : Int32} {I : Im} {J : Jm} {R : Rm} (hB0 : Bd I) (hR0 : RI R) (hF0 : Fl R) (hL0 : (I 3 1).toInt = (I 97 8).toInt) (hL1 : (I 1 13).toInt = (I 97 23).toInt) (hL2 : RT I) (hL3 : J 47 0 = 0) (h0 : 0 ≤ v3.toInt) (h7 : v3.toInt + 7 ≤ (L : Int)) (hN : ∀ (I : Im) (J : Jm) (R : Rm), Bd I → RI R → Fl R → RLk I J → P 1889 112 [(0, .ref 0), (1, .ref 1), (2, .ref 97), (3, .int v3)] [] I J R) : P 821 112 [(0, .ref 0), (1, .ref 1), (2, .ref 97), (3, .int v3)] [] I J R := by
  have i_v3 := i32 v3
  refine ls_821 hc v3 _ _ _ ?_
  have e1 : ((v3 + 1) : Int32).toInt = (v3.toInt) + (1) := ti_add rfl rfl (by omega)
  refine ⟨vp_of (a := (v3.toInt + 1)) e1 (by omega) (by omega), ?_⟩
  have z2 := i32 (xs (Int32.toNatClampNeg (v3 + 1)))
  have e3 : ((v3 + 2) : Int32).toInt = (v3.toInt) + (2) := ti_add rfl rfl (by omega)
  refine ⟨vp_of (a := (v3.toInt + 2)) e3 (by omega) (by omega), ?_⟩
  have z4 := i32 (xs (Int32.toNatClampNeg (v3 + 2)))
  have e5 : ((v3 + 3) : Int32).toInt = (v3.toInt) + (3) := ti_add rfl rfl (by omega)
  refine ⟨vp_of (a := (v3.toInt + 3)) e5 (by omega) (by omega), ?_⟩
  have z6 := i32 (xs (Int32.toNatClampNeg (v3 + 3)))
  refine ⟨⟨hF0, rfl⟩, ?_⟩
  refine kp6 rfl hR0 rfl (kp4 rfl (kp5 rfl hR0 rfl (kp0 rfl (kp1 rfl (kp2 rfl (kp3 rfl (sp_X11_cut hB0 hR0 (fun x7 y12 I8 J9 hB10 p11 kq16 kq15 kq14 kq13 k18 k17 k19 => ?_))))))))
  have i20 := i32 x7
  have b21 := Bd.o hB0 (show isO 112 3 6 = true from rfl) (show bnd 6 1 = some _ from rfl)
  have e22 : ((I8 3 1) : Int32).toInt = (I 3 1).toInt := Eq.trans (congrArg Int32.toInt kq13) rfl
  have kz23 : ((I8 3 1) : Int32).toInt = (I 3 1).toInt := e22
  have b24 := Bd.o hB0 (show isO 112 97 12 = true from rfl) (show bnd 12 8 = some _ from rfl)
  have e25 : ((I8 97 8) : Int32).toInt = (I 97 8).toInt := Eq.trans (congrArg Int32.toInt kq14) rfl
  have kz26 : ((I8 97 8) : Int32).toInt = (I 97 8).toInt := e25
  have b27 := Bd.o hB0 (show isO 112 1 11 = true from rfl) (show bnd 11 13 = some _ from rfl)
  have e28 : ((I8 1 13) : Int32).toInt = (I 1 13).toInt := Eq.trans (congrArg Int32.toInt kq15) rfl
  have kz29 : ((I8 1 13) : Int32).toInt = (I 1 13).toInt := e28
  have b30 := Bd.o hB0 (show isO 112 97 12 = true from rfl) (show bnd 12 23 = some _ from rfl)
  have e31 : ((I8 97 23) : Int32).toInt = (I 97 23).toInt := Eq.trans (congrArg Int32.toInt kq16) rfl
  have kz32 : ((I8 97 23) : Int32).toInt = (I 97 23).toInt := e31
  refine ⟨vp_of (a := (v3.toInt + 1)) e1 (by omega) (by omega), ?_⟩
  have z33 := i32 (xs (Int32.toNatClampNeg (v3 + 1)))
  refine ⟨vp_of (a := (v3.toInt + 2)) e3 (by omega) (by omega), ?_⟩
  have z34 := i32 (xs (Int32.toNatClampNeg (v3 + 2)))
  refine ⟨vp_of (a := (v3.toInt + 3)) e5 (by omega) (by omega), ?_⟩
  have z35 := i32 (xs (Int32.toNatClampNeg (v3 + 3)))
  refine ⟨⟨hF0, rfl⟩, ?_⟩
  refine kp6 rfl hR0 rfl (kp4 rfl (kp5 rfl hR0 rfl (kp0 rfl (kp1 rfl (kp2 rfl (kp3 rfl (sp_X12_cut hB10 hR0 (fun x36 y41 I37 J38 hB39 p40 kq45 kq44 kq43 kq42 k47 k46 k48 => ?_))))))))
  have i49 := i32 x36
  have e50 : ((I37 3 1) : Int32).toInt = (I 3 1).toInt := Eq.trans (congrArg Int32.toInt (Eq.trans kq42 kq13)) rfl
  have kz51 : ((I37 3 1) : Int32).toInt = (I 3 1).toInt := e50
  have e52 : ((I37 97 8) : Int32).toInt = (I 97 8).toInt := Eq.trans (congrArg Int32.toInt (Eq.trans kq43 kq14)) rfl
  have kz53 : ((I37 97 8) : Int32).toInt = (I 97 8).toInt := e52
  have e54 : ((I37 1 13) : Int32).toInt = (I 1 13).toInt := Eq.trans (congrArg Int32.toInt (Eq.trans kq44 kq15)) rfl
  have kz55 : ((I37 1 13) : Int32).toInt = (I 1 13).toInt := e54
  have e56 : ((I37 97 23) : Int32).toInt = (I 97 23).toInt := Eq.trans (congrArg Int32.toInt (Eq.trans kq45 kq16)) rfl
  have kz57 : ((I37 97 23) : Int32).toInt = (I 97 23).toInt := e56
  exact hN _ _ R hB39 hR0 hF0 ⟨(Eq.trans (e50) (Eq.trans hL0 (Eq.symm (e52)))), (Eq.trans (e54) (Eq.trans hL1 (Eq.symm (e56)))), (RT.kp (RT.kp hL2 k17 k18) k46 k47), ((congrFun k48 0).trans ((congrFun k19 0).trans hL3))⟩
set_option maxHeartbeats 2000000 in
theorem lc_20 {Q : Nat → Qt} {P : Kt} {L : Nat} {xs : Nat → Int32} (hc : Cl (AM 640) false true L xs 2 112 kL_law Q P) (hL : L ≤ 3584) {v3 : Int32} {I : Im} {J : Jm} {R : Rm} (hB0 : Bd I) (hR0 : RI R) (hF0 : Fl R) (hL0 : (I 3 1).toInt = (I 97 8).toInt) (hL1 : (I 1 13).toInt = (I 97 23).toInt) (hL2 : RT I) (hL3 : J 47 0 = 0) (h0 : 0 ≤ v3.toInt) (h7 : v3.toInt + 7 ≤ (L : Int)) (hN : ∀ (I : Im) (J : Jm) (R : Rm), Bd I → RI R → Fl R → RLk I J → P 1889 112 [(0, .ref 0), (1, .ref 1), (2, .ref 97), (3, .int v3)] [] I J R) : P 864 112 [(0, .ref 0), (1, .ref 1), (2, .ref 97), (3, .int v3)] [] I J R := by
  have i_v3 := i32 v3
  refine ls_864 hc v3 _ _ _ ?_
  have e1 : ((v3 + 1) : Int32).toInt = (v3.toInt) + (1) := ti_add rfl rfl (by omega)
  refine ⟨vp_of (a := (v3.toInt + 1)) e1 (by omega) (by omega), ?_⟩
  have z2 := i32 (xs (Int32.toNatClampNeg (v3 + 1)))
  have e3 : ((v3 + 2) : Int32).toInt = (v3.toInt) + (2) := ti_add rfl rfl (by omega)
  refine ⟨vp_of (a := (v3.toInt + 2)) e3 (by omega) (by omega), ?_⟩
  have z4 := i32 (xs (Int32.toNatClampNeg (v3 + 2)))
  refine ⟨⟨hF0, rfl⟩, ?_⟩
  refine kp6 rfl hR0 rfl (kp4 rfl (kp5 rfl hR0 rfl (kp0 rfl (kp1 rfl (kp2 rfl (kp3 rfl (sp_X11_split hB0 hR0 (fun x5 y10 I6 J7 hB8 p9 kq14 kq13 kq12 kq11 k16 k15 k17 => ?_))))))))
  have i18 := i32 x5
  have b19 := Bd.o hB0 (show isO 112 3 6 = true from rfl) (show bnd 6 1 = some _ from rfl)
  have e20 : ((I6 3 1) : Int32).toInt = (I 3 1).toInt := Eq.trans (congrArg Int32.toInt kq11) rfl
  have kz21 : ((I6 3 1) : Int32).toInt = (I 3 1).toInt := e20
  have b22 := Bd.o hB0 (show isO 112 97 12 = true from rfl) (show bnd 12 8 = some _ from rfl)
  have e23 : ((I6 97 8) : Int32).toInt = (I 97 8).toInt := Eq.trans (congrArg Int32.toInt kq12) rfl
  have kz24 : ((I6 97 8) : Int32).toInt = (I 97 8).toInt := e23
  have b25 := Bd.o hB0 (show isO 112 1 11 = true from rfl) (show bnd 11 13 = some _ from rfl)
  have e26 : ((I6 1 13) : Int32).toInt = (I 1 13).toInt := Eq.trans (congrArg Int32.toInt kq13) rfl
  have kz27 : ((I6 1 13) : Int32).toInt = (I 1 13).toInt := e26
  have b28 := Bd.o hB0 (show isO 112 97 12 = true from rfl) (show bnd 12 23 = some _ from rfl)
  have e29 : ((I6 97 23) : Int32).toInt = (I 97 23).toInt := Eq.trans (congrArg Int32.toInt kq14) rfl
  have kz30 : ((I6 97 23) : Int32).toInt = (I 97 23).toInt := e29
  refine ⟨vp_of (a := (v3.toInt + 1)) e1 (by omega) (by omega), ?_⟩
  have z31 := i32 (xs (Int32.toNatClampNeg (v3 + 1)))
  refine ⟨vp_of (a := (v3.toInt + 2)) e3 (by omega) (by omega), ?_⟩
  have z32 := i32 (xs (Int32.toNatClampNeg (v3 + 2)))
  refine ⟨⟨hF0, rfl⟩, ?_⟩
  refine kp6 rfl hR0 rfl (kp4 rfl (kp5 rfl hR0 rfl (kp0 rfl (kp1 rfl (kp2 rfl (kp3 rfl (sp_X12_split hB8 hR0 (fun x33 y38 I34 J35 hB36 p37 kq42 kq41 kq40 kq39 k44 k43 k45 => ?_))))))))
  have i46 := i32 x33
  have e47 : ((I34 3 1) : Int32).toInt = (I 3 1).toInt := Eq.trans (congrArg Int32.toInt (Eq.trans kq39 kq11)) rfl
  have kz48 : ((I34 3 1) : Int32).toInt = (I 3 1).toInt := e47
  have e49 : ((I34 97 8) : Int32).toInt = (I 97 8).toInt := Eq.trans (congrArg Int32.toInt (Eq.trans kq40 kq12)) rfl
  have kz50 : ((I34 97 8) : Int32).toInt = (I 97 8).toInt := e49
  have e51 : ((I34 1 13) : Int32).toInt = (I 1 13).toInt := Eq.trans (congrArg Int32.toInt (Eq.trans kq41 kq13)) rfl
  have kz52 : ((I34 1 13) : Int32).toInt = (I 1 13).toInt := e51
  have e53 : ((I34 97 23) : Int32).toInt = (I 97 23).toInt := Eq.trans (congrArg Int32.toInt (Eq.trans kq42 kq14)) rfl
  have kz54 : ((I34 97 23) : Int32).toInt = (I 97 23).toInt := e53
  exact hN _ _ R hB36 hR0 hF0 ⟨(Eq.trans (e47) (Eq.trans hL0 (Eq.symm (e49)))), (Eq.trans (e51) (Eq.trans hL1 (Eq.symm (e53)))), (RT.kp (RT.kp hL2 k15 k16) k43 k44), ((congrFun k45 0).trans ((congrFun k17 0).trans hL3))⟩
set_option maxHeartbeats 2000000 in
theorem lc_21 {Q : Nat → Qt} {P : Kt} {L : Nat} {xs : Nat → Int32} (hc : Cl (AM 640) false true L xs 2 112 kL_law Q P) (hL : L ≤ 3584) {v3 : Int32} {I : Im} {J : Jm} {R : Rm} (hB0 : Bd I) (hR0 : RI R) (hF0 : Fl R) (hL0 : (I 3 1).toInt = (I 97 8).toInt) (hL1 : (I 1 13).toInt = (I 97 23).toInt) (hL2 : RT I) (hL3 : J 47 0 = 0) (h0 : 0 ≤ v3.toInt) (h7 : v3.toInt + 7 ≤ (L : Int)) (hN : ∀ (I : Im) (J : Jm) (R : Rm), Bd I → RI R → Fl R → RLk I J → P 1889 112 [(0, .ref 0), (1, .ref 1), (2, .ref 97), (3, .int v3)] [] I J R) : P 897 112 [(0, .ref 0), (1, .ref 1), (2, .ref 97), (3, .int v3)] [] I J R := by
  have i_v3 := i32 v3
  refine ls_897 hc v3 _ _ _ ?_
  have e1 : ((v3 + 1) : Int32).toInt = (v3.toInt) + (1) := ti_add rfl rfl (by omega)
  refine ⟨vp_of (a := (v3.toInt + 1)) e1 (by omega) (by omega), ?_⟩
  have z2 := i32 (xs (Int32.toNatClampNeg (v3 + 1)))
  have e3 : ((v3 + 2) : Int32).toInt = (v3.toInt) + (2) := ti_add rfl rfl (by omega)
  refine ⟨vp_of (a := (v3.toInt + 2)) e3 (by omega) (by omega), ?_⟩
  have z4 := i32 (xs (Int32.toNatClampNeg (v3 + 2)))
  refine ⟨⟨hF0, rfl⟩, ?_⟩
  refine kp6 rfl hR0 rfl (kp4 rfl (kp5 rfl hR0 rfl (kp0 rfl (kp1 rfl (kp2 rfl (kp3 rfl (sp_X11_give hB0 hR0 (fun x5 y10 I6 J7 hB8 p9 kq14 kq13 kq12 kq11 k16 k15 k17 => ?_))))))))
  have i18 := i32 x5
  have b19 := Bd.o hB0 (show isO 112 3 6 = true from rfl) (show bnd 6 1 = some _ from rfl)
  have e20 : ((I6 3 1) : Int32).toInt = (I 3 1).toInt := Eq.trans (congrArg Int32.toInt kq11) rfl
  have kz21 : ((I6 3 1) : Int32).toInt = (I 3 1).toInt := e20
  have b22 := Bd.o hB0 (show isO 112 97 12 = true from rfl) (show bnd 12 8 = some _ from rfl)
  have e23 : ((I6 97 8) : Int32).toInt = (I 97 8).toInt := Eq.trans (congrArg Int32.toInt kq12) rfl
  have kz24 : ((I6 97 8) : Int32).toInt = (I 97 8).toInt := e23
  have b25 := Bd.o hB0 (show isO 112 1 11 = true from rfl) (show bnd 11 13 = some _ from rfl)
  have e26 : ((I6 1 13) : Int32).toInt = (I 1 13).toInt := Eq.trans (congrArg Int32.toInt kq13) rfl
  have kz27 : ((I6 1 13) : Int32).toInt = (I 1 13).toInt := e26
  have b28 := Bd.o hB0 (show isO 112 97 12 = true from rfl) (show bnd 12 23 = some _ from rfl)
  have e29 : ((I6 97 23) : Int32).toInt = (I 97 23).toInt := Eq.trans (congrArg Int32.toInt kq14) rfl
  have kz30 : ((I6 97 23) : Int32).toInt = (I 97 23).toInt := e29
  refine ⟨vp_of (a := (v3.toInt + 1)) e1 (by omega) (by omega), ?_⟩
  have z31 := i32 (xs (Int32.toNatClampNeg (v3 + 1)))
  refine ⟨vp_of (a := (v3.toInt + 2)) e3 (by omega) (by omega), ?_⟩
  have z32 := i32 (xs (Int32.toNatClampNeg (v3 + 2)))
  refine ⟨⟨hF0, rfl⟩, ?_⟩
  refine kp6 rfl hR0 rfl (kp4 rfl (kp5 rfl hR0 rfl (kp0 rfl (kp1 rfl (kp2 rfl (kp3 rfl (sp_X12_give hB8 hR0 (fun x33 y38 I34 J35 hB36 p37 kq42 kq41 kq40 kq39 k44 k43 k45 => ?_))))))))
  have i46 := i32 x33
  have e47 : ((I34 3 1) : Int32).toInt = (I 3 1).toInt := Eq.trans (congrArg Int32.toInt (Eq.trans kq39 kq11)) rfl
  have kz48 : ((I34 3 1) : Int32).toInt = (I 3 1).toInt := e47
  have e49 : ((I34 97 8) : Int32).toInt = (I 97 8).toInt := Eq.trans (congrArg Int32.toInt (Eq.trans kq40 kq12)) rfl
  have kz50 : ((I34 97 8) : Int32).toInt = (I 97 8).toInt := e49
  have e51 : ((I34 1 13) : Int32).toInt = (I 1 13).toInt := Eq.trans (congrArg Int32.toInt (Eq.trans kq41 kq13)) rfl
  have kz52 : ((I34 1 13) : Int32).toInt = (I 1 13).toInt := e51
  have e53 : ((I34 97 23) : Int32).toInt = (I 97 23).toInt := Eq.trans (congrArg Int32.toInt (Eq.trans kq42 kq14)) rfl
  have kz54 : ((I34 97 23) : Int32).toInt = (I 97 23).toInt := e53
  exact hN _ _ R hB36 hR0 hF0 ⟨(Eq.trans (e47) (Eq.trans hL0 (Eq.symm (e49)))), (Eq.trans (e51) (Eq.trans hL1 (Eq.symm (e53)))), (RT.kp (RT.kp hL2 k15 k16) k43 k44), ((congrFun k45 0).trans ((congrFun k17 0).trans hL3))⟩
set_option maxHeartbeats 2000000 in
theorem lc_22 {Q : Nat → Qt} {P : Kt} {L : Nat} {xs : Nat → Int32} (hc : Cl (AM 640) false true L xs 2 112 kL_law Q P) (hL : L ≤ 3584) {v3 : Int32} {I : Im} {J : Jm} {R : Rm} (hB0 : Bd I) (hR0 : RI R) (hF0 : Fl R) (hL0 : (I 3 1).toInt = (I 97 8).toInt) (hL1 : (I 1 13).toInt = (I 97 23).toInt) (hL2 : RT I) (hL3 : J 47 0 = 0) (h0 : 0 ≤ v3.toInt) (h7 : v3.toInt + 7 ≤ (L : Int)) (hN : ∀ (I : Im) (J : Jm) (R : Rm), Bd I → RI R → Fl R → RLk I J → P 1889 112 [(0, .ref 0), (1, .ref 1), (2, .ref 97), (3, .int v3)] [] I J R) : P 930 112 [(0, .ref 0), (1, .ref 1), (2, .ref 97), (3, .int v3)] [] I J R := by
  have i_v3 := i32 v3
  refine ls_930 hc v3 _ _ _ ?_
  have e1 : ((v3 + 1) : Int32).toInt = (v3.toInt) + (1) := ti_add rfl rfl (by omega)
  refine ⟨vp_of (a := (v3.toInt + 1)) e1 (by omega) (by omega), ?_⟩
  have z2 := i32 (xs (Int32.toNatClampNeg (v3 + 1)))
  have e3 : ((v3 + 2) : Int32).toInt = (v3.toInt) + (2) := ti_add rfl rfl (by omega)
  refine ⟨vp_of (a := (v3.toInt + 2)) e3 (by omega) (by omega), ?_⟩
  have z4 := i32 (xs (Int32.toNatClampNeg (v3 + 2)))
  refine ⟨⟨hF0, rfl⟩, ?_⟩
  refine kp6 rfl hR0 rfl (kp4 rfl (kp5 rfl hR0 rfl (kp0 rfl (kp1 rfl (kp2 rfl (kp3 rfl (sp_X11_take hB0 hR0 (fun x5 y10 I6 J7 hB8 p9 kq14 kq13 kq12 kq11 k16 k15 k17 => ?_))))))))
  have i18 := i32 x5
  have b19 := Bd.o hB0 (show isO 112 3 6 = true from rfl) (show bnd 6 1 = some _ from rfl)
  have e20 : ((I6 3 1) : Int32).toInt = (I 3 1).toInt := Eq.trans (congrArg Int32.toInt kq11) rfl
  have kz21 : ((I6 3 1) : Int32).toInt = (I 3 1).toInt := e20
  have b22 := Bd.o hB0 (show isO 112 97 12 = true from rfl) (show bnd 12 8 = some _ from rfl)
  have e23 : ((I6 97 8) : Int32).toInt = (I 97 8).toInt := Eq.trans (congrArg Int32.toInt kq12) rfl
  have kz24 : ((I6 97 8) : Int32).toInt = (I 97 8).toInt := e23
  have b25 := Bd.o hB0 (show isO 112 1 11 = true from rfl) (show bnd 11 13 = some _ from rfl)
  have e26 : ((I6 1 13) : Int32).toInt = (I 1 13).toInt := Eq.trans (congrArg Int32.toInt kq13) rfl
  have kz27 : ((I6 1 13) : Int32).toInt = (I 1 13).toInt := e26
  have b28 := Bd.o hB0 (show isO 112 97 12 = true from rfl) (show bnd 12 23 = some _ from rfl)
  have e29 : ((I6 97 23) : Int32).toInt = (I 97 23).toInt := Eq.trans (congrArg Int32.toInt kq14) rfl
  have kz30 : ((I6 97 23) : Int32).toInt = (I 97 23).toInt := e29
  refine ⟨vp_of (a := (v3.toInt + 1)) e1 (by omega) (by omega), ?_⟩
  have z31 := i32 (xs (Int32.toNatClampNeg (v3 + 1)))
  refine ⟨vp_of (a := (v3.toInt + 2)) e3 (by omega) (by omega), ?_⟩
  have z32 := i32 (xs (Int32.toNatClampNeg (v3 + 2)))
  refine ⟨⟨hF0, rfl⟩, ?_⟩
  refine kp6 rfl hR0 rfl (kp4 rfl (kp5 rfl hR0 rfl (kp0 rfl (kp1 rfl (kp2 rfl (kp3 rfl (sp_X12_take hB8 hR0 (fun x33 y38 I34 J35 hB36 p37 kq42 kq41 kq40 kq39 k44 k43 k45 => ?_))))))))
  have i46 := i32 x33
  have e47 : ((I34 3 1) : Int32).toInt = (I 3 1).toInt := Eq.trans (congrArg Int32.toInt (Eq.trans kq39 kq11)) rfl
  have kz48 : ((I34 3 1) : Int32).toInt = (I 3 1).toInt := e47
  have e49 : ((I34 97 8) : Int32).toInt = (I 97 8).toInt := Eq.trans (congrArg Int32.toInt (Eq.trans kq40 kq12)) rfl
  have kz50 : ((I34 97 8) : Int32).toInt = (I 97 8).toInt := e49
  have e51 : ((I34 1 13) : Int32).toInt = (I 1 13).toInt := Eq.trans (congrArg Int32.toInt (Eq.trans kq41 kq13)) rfl
  have kz52 : ((I34 1 13) : Int32).toInt = (I 1 13).toInt := e51
  have e53 : ((I34 97 23) : Int32).toInt = (I 97 23).toInt := Eq.trans (congrArg Int32.toInt (Eq.trans kq42 kq14)) rfl
  have kz54 : ((I34 97 23) : Int32).toInt = (I 97 23).toInt := e53
  exact hN _ _ R hB36 hR0 hF0 ⟨(Eq.trans (e47) (Eq.trans hL0 (Eq.symm (e49)))), (Eq.trans (e51) (Eq.trans hL1 (Eq.symm (e53)))), (RT.kp (RT.kp hL2 k15 k16) k43 k44), ((congrFun k45 0).trans ((congrFun k17 0).trans hL3))⟩
set_option maxHeartbeats 2000000 in
theorem lc_23 {Q : Nat → Qt} {P : Kt} {L : Nat} {xs : Nat → Int32} (hc : Cl (AM 640) false true L xs 2 112 kL_law Q P) (hL : L ≤ 3584) {v3 : Int32} {I : Im} {J : Jm} {R : Rm} (hB0 : Bd I) (hR0 : RI R) (hF0 : Fl R) (hL0 : (I 3 1).toInt = (I 97 8).toInt) (hL1 : (I 1 13).toInt = (I 97 23).toInt) (hL2 : RT I) (hL3 : J 47 0 = 0) (h0 : 0 ≤ v3.toInt) (h7 : v3.toInt + 7 ≤ (L : Int)) (hN : ∀ (I : Im) (J : Jm) (R : Rm), Bd I → RI R → Fl R → RLk I J → P 1889 112 [(0, .ref 0), (1, .ref 1), (2, .ref 97), (3, .int v3)] [] I J R) : P 963 112 [(0, .ref 0), (1, .ref 1), (2, .ref 97), (3, .int v3)] [] I J R := by
  have i_v3 := i32 v3
  refine ls_963 hc v3 _ _ _ ?_
  have e1 : ((v3 + 1) : Int32).toInt = (v3.toInt) + (1) := ti_add rfl rfl (by omega)
  refine ⟨vp_of (a := (v3.toInt + 1)) e1 (by omega) (by omega), ?_⟩
  have z2 := i32 (xs (Int32.toNatClampNeg (v3 + 1)))
  have e3 : ((v3 + 2) : Int32).toInt = (v3.toInt) + (2) := ti_add rfl rfl (by omega)
  refine ⟨vp_of (a := (v3.toInt + 2)) e3 (by omega) (by omega), ?_⟩
  have z4 := i32 (xs (Int32.toNatClampNeg (v3 + 2)))
  have e5 : ((v3 + 3) : Int32).toInt = (v3.toInt) + (3) := ti_add rfl rfl (by omega)
  refine ⟨vp_of (a := (v3.toInt + 3)) e5 (by omega) (by omega), ?_⟩
  have z6 := i32 (xs (Int32.toNatClampNeg (v3 + 3)))
  refine ⟨⟨hF0, rfl⟩, ?_⟩
  refine kp6 rfl hR0 rfl (kp4 rfl (kp5 rfl hR0 rfl (kp0 rfl (kp1 rfl (kp2 rfl (kp3 rfl (sp_X11_owe hB0 hR0 (fun x7 y12 I8 J9 hB10 p11 kq16 kq15 kq14 kq13 k18 k17 k19 => ?_))))))))
  intro o20
  have i21 := i32 x7
  have b22 := Bd.o hB0 (show isO 112 3 6 = true from rfl) (show bnd 6 1 = some _ from rfl)
  have e23 : ((I8 3 1) : Int32).toInt = (I 3 1).toInt := Eq.trans (congrArg Int32.toInt kq13) rfl
  have kz24 : ((I8 3 1) : Int32).toInt = (I 3 1).toInt := e23
  have b25 := Bd.o hB0 (show isO 112 97 12 = true from rfl) (show bnd 12 8 = some _ from rfl)
  have e26 : ((I8 97 8) : Int32).toInt = (I 97 8).toInt := Eq.trans (congrArg Int32.toInt kq14) rfl
  have kz27 : ((I8 97 8) : Int32).toInt = (I 97 8).toInt := e26
  have b28 := Bd.o hB0 (show isO 112 1 11 = true from rfl) (show bnd 11 13 = some _ from rfl)
  have e29 : ((I8 1 13) : Int32).toInt = (I 1 13).toInt := Eq.trans (congrArg Int32.toInt kq15) rfl
  have kz30 : ((I8 1 13) : Int32).toInt = (I 1 13).toInt := e29
  have b31 := Bd.o hB0 (show isO 112 97 12 = true from rfl) (show bnd 12 23 = some _ from rfl)
  have e32 : ((I8 97 23) : Int32).toInt = (I 97 23).toInt := Eq.trans (congrArg Int32.toInt kq16) rfl
  have kz33 : ((I8 97 23) : Int32).toInt = (I 97 23).toInt := e32
  refine ⟨vp_of (a := (v3.toInt + 1)) e1 (by omega) (by omega), ?_⟩
  have z34 := i32 (xs (Int32.toNatClampNeg (v3 + 1)))
  refine ⟨vp_of (a := (v3.toInt + 2)) e3 (by omega) (by omega), ?_⟩
  have z35 := i32 (xs (Int32.toNatClampNeg (v3 + 2)))
  refine ⟨vp_of (a := (v3.toInt + 3)) e5 (by omega) (by omega), ?_⟩
  have z36 := i32 (xs (Int32.toNatClampNeg (v3 + 3)))
  refine ⟨⟨hF0, rfl⟩, ?_⟩
  refine kp6 rfl hR0 rfl (kp4 rfl (kp5 rfl hR0 rfl (kp0 rfl (kp1 rfl (kp2 rfl (kp3 rfl (sp_X12_owe hB10 hR0 (fun x37 y42 I38 J39 hB40 p41 kq46 kq45 kq44 kq43 k48 k47 k49 => ?_))))))))
  intro o50
  have i51 := i32 x37
  have e52 : ((I38 3 1) : Int32).toInt = (I 3 1).toInt := Eq.trans (congrArg Int32.toInt (Eq.trans kq43 kq13)) rfl
  have kz53 : ((I38 3 1) : Int32).toInt = (I 3 1).toInt := e52
  have e54 : ((I38 97 8) : Int32).toInt = (I 97 8).toInt := Eq.trans (congrArg Int32.toInt (Eq.trans kq44 kq14)) rfl
  have kz55 : ((I38 97 8) : Int32).toInt = (I 97 8).toInt := e54
  have e56 : ((I38 1 13) : Int32).toInt = (I 1 13).toInt := Eq.trans (congrArg Int32.toInt (Eq.trans kq45 kq15)) rfl
  have kz57 : ((I38 1 13) : Int32).toInt = (I 1 13).toInt := e56
  have e58 : ((I38 97 23) : Int32).toInt = (I 97 23).toInt := Eq.trans (congrArg Int32.toInt (Eq.trans kq46 kq16)) rfl
  have kz59 : ((I38 97 23) : Int32).toInt = (I 97 23).toInt := e58
  exact hN _ _ R hB40 hR0 hF0 ⟨(Eq.trans (e52) (Eq.trans hL0 (Eq.symm (e54)))), (Eq.trans (e56) (Eq.trans hL1 (Eq.symm (e58)))), (RT.kp (RT.kp hL2 k17 k18) k47 k48), ((congrFun k49 0).trans ((congrFun k19 0).trans hL3))⟩
set_option maxHeartbeats 2000000 in
theorem lc_24 {Q : Nat → Qt} {P : Kt} {L : Nat} {xs : Nat → Int32} (hc : Cl (AM 640) false true L xs 2 112 kL_law Q P) (hL : L ≤ 3584) {v3 : Int32} {I : Im} {J : Jm} {R : Rm} (hB0 : Bd I) (hR0 : RI R) (hF0 : Fl R) (hL0 : (I 3 1).toInt = (I 97 8).toInt) (hL1 : (I 1 13).toInt = (I 97 23).toInt) (hL2 : RT I) (hL3 : J 47 0 = 0) (h0 : 0 ≤ v3.toInt) (h7 : v3.toInt + 7 ≤ (L : Int)) (hN : ∀ (I : Im) (J : Jm) (R : Rm), Bd I → RI R → Fl R → RLk I J → P 1889 112 [(0, .ref 0), (1, .ref 1), (2, .ref 97), (3, .int v3)] [] I J R) : P 1006 112 [(0, .ref 0), (1, .ref 1), (2, .ref 97), (3, .int v3)] [] I J R := by
  have i_v3 := i32 v3
  refine ls_1006 hc v3 _ _ _ ?_
  have e1 : ((v3 + 1) : Int32).toInt = (v3.toInt) + (1) := ti_add rfl rfl (by omega)
  refine ⟨vp_of (a := (v3.toInt + 1)) e1 (by omega) (by omega), ?_⟩
  have z2 := i32 (xs (Int32.toNatClampNeg (v3 + 1)))
  have e3 : ((v3 + 2) : Int32).toInt = (v3.toInt) + (2) := ti_add rfl rfl (by omega)
  refine ⟨vp_of (a := (v3.toInt + 2)) e3 (by omega) (by omega), ?_⟩
  have z4 := i32 (xs (Int32.toNatClampNeg (v3 + 2)))
  refine ⟨⟨hF0, rfl⟩, ?_⟩
  refine kp6 rfl hR0 rfl (kp4 rfl (kp5 rfl hR0 rfl (kp0 rfl (kp1 rfl (kp2 rfl (kp3 rfl (sp_X11_come hB0 hR0 (fun x5 y10 I6 J7 hB8 p9 kq14 kq13 kq12 kq11 k16 k15 k17 => ?_))))))))
  have i18 := i32 x5
  have b19 := Bd.o hB0 (show isO 112 3 6 = true from rfl) (show bnd 6 1 = some _ from rfl)
  have e20 : ((I6 3 1) : Int32).toInt = (I 3 1).toInt := Eq.trans (congrArg Int32.toInt kq11) rfl
  have kz21 : ((I6 3 1) : Int32).toInt = (I 3 1).toInt := e20
  have b22 := Bd.o hB0 (show isO 112 97 12 = true from rfl) (show bnd 12 8 = some _ from rfl)
  have e23 : ((I6 97 8) : Int32).toInt = (I 97 8).toInt := Eq.trans (congrArg Int32.toInt kq12) rfl
  have kz24 : ((I6 97 8) : Int32).toInt = (I 97 8).toInt := e23
  have b25 := Bd.o hB0 (show isO 112 1 11 = true from rfl) (show bnd 11 13 = some _ from rfl)
  have e26 : ((I6 1 13) : Int32).toInt = (I 1 13).toInt := Eq.trans (congrArg Int32.toInt kq13) rfl
  have kz27 : ((I6 1 13) : Int32).toInt = (I 1 13).toInt := e26
  have b28 := Bd.o hB0 (show isO 112 97 12 = true from rfl) (show bnd 12 23 = some _ from rfl)
  have e29 : ((I6 97 23) : Int32).toInt = (I 97 23).toInt := Eq.trans (congrArg Int32.toInt kq14) rfl
  have kz30 : ((I6 97 23) : Int32).toInt = (I 97 23).toInt := e29
  refine ⟨vp_of (a := (v3.toInt + 1)) e1 (by omega) (by omega), ?_⟩
  have z31 := i32 (xs (Int32.toNatClampNeg (v3 + 1)))
  refine ⟨vp_of (a := (v3.toInt + 2)) e3 (by omega) (by omega), ?_⟩
  have z32 := i32 (xs (Int32.toNatClampNeg (v3 + 2)))
  refine ⟨⟨hF0, rfl⟩, ?_⟩
  refine kp6 rfl hR0 rfl (kp4 rfl (kp5 rfl hR0 rfl (kp0 rfl (kp1 rfl (kp2 rfl (kp3 rfl (sp_X12_come hB8 hR0 (fun x33 y38 I34 J35 hB36 p37 kq42 kq41 kq40 kq39 k44 k43 k45 => ?_))))))))
  have i46 := i32 x33
  have e47 : ((I34 3 1) : Int32).toInt = (I 3 1).toInt := Eq.trans (congrArg Int32.toInt (Eq.trans kq39 kq11)) rfl
  have kz48 : ((I34 3 1) : Int32).toInt = (I 3 1).toInt := e47
  have e49 : ((I34 97 8) : Int32).toInt = (I 97 8).toInt := Eq.trans (congrArg Int32.toInt (Eq.trans kq40 kq12)) rfl
  have kz50 : ((I34 97 8) : Int32).toInt = (I 97 8).toInt := e49
  have e51 : ((I34 1 13) : Int32).toInt = (I 1 13).toInt := Eq.trans (congrArg Int32.toInt (Eq.trans kq41 kq13)) rfl
  have kz52 : ((I34 1 13) : Int32).toInt = (I 1 13).toInt := e51
  have e53 : ((I34 97 23) : Int32).toInt = (I 97 23).toInt := Eq.trans (congrArg Int32.toInt (Eq.trans kq42 kq14)) rfl
  have kz54 : ((I34 97 23) : Int32).toInt = (I 97 23).toInt := e53
  exact hN _ _ R hB36 hR0 hF0 ⟨(Eq.trans (e47) (Eq.trans hL0 (Eq.symm (e49)))), (Eq.trans (e51) (Eq.trans hL1 (Eq.symm (e53)))), (RT.kp (RT.kp hL2 k15 k16) k43 k44), ((congrFun k45 0).trans ((congrFun k17 0).trans hL3))⟩
set_option maxHeartbeats 2000000 in
theorem lc_25 {Q : Nat → Qt} {P : Kt} {L : Nat} {xs : Nat → Int32} (hc : Cl (AM 640) false true L xs 2 112 kL_law Q P) (hL : L ≤ 3584) {v3 : Int32} {I : Im} {J : Jm} {R : Rm} (hB0 : Bd I) (hR0 : RI R) (hF0 : Fl R) (hL0 : (I 3 1).toInt = (I 97 8).toInt) (hL1 : (I 1 13).toInt = (I 97 23).toInt) (hL2 : RT I) (hL3 : J 47 0 = 0) (h0 : 0 ≤ v3.toInt) (h7 : v3.toInt + 7 ≤ (L : Int)) (hN : ∀ (I : Im) (J : Jm) (R : Rm), Bd I → RI R → Fl R → RLk I J → P 1889 112 [(0, .ref 0), (1, .ref 1), (2, .ref 97), (3, .int v3)] [] I J R) : P 1039 112 [(0, .ref 0), (1, .ref 1), (2, .ref 97), (3, .int v3)] [] I J R := by
  have i_v3 := i32 v3
  refine ls_1039 hc v3 _ _ _ ?_
  have e1 : ((v3 + 1) : Int32).toInt = (v3.toInt) + (1) := ti_add rfl rfl (by omega)
  refine ⟨vp_of (a := (v3.toInt + 1)) e1 (by omega) (by omega), ?_⟩
  have z2 := i32 (xs (Int32.toNatClampNeg (v3 + 1)))
  have e3 : ((v3 + 2) : Int32).toInt = (v3.toInt) + (2) := ti_add rfl rfl (by omega)
  refine ⟨vp_of (a := (v3.toInt + 2)) e3 (by omega) (by omega), ?_⟩
  have z4 := i32 (xs (Int32.toNatClampNeg (v3 + 2)))
  refine ⟨fun c5 => ?_, fun c5 => ?_⟩
  · skip
    have d6 : (((xs (Int32.toNatClampNeg (v3 + 2))).toInt) : Int) = (0) := ci_eq rfl rfl c5
    refine ⟨⟨hF0, rfl⟩, ?_⟩
    refine kp6 rfl hR0 rfl (kp4 rfl (kp5 rfl hR0 rfl (kp0 rfl (kp1 rfl (kp2 rfl (kp3 rfl (sp_X11_learn hB0 hR0 (fun x7 y12 I8 J9 hB10 p11 kq16 kq15 kq14 kq13 k18 k17 k19 => ?_))))))))
    intro o20
    have i21 := i32 x7
    have b22 := Bd.o hB0 (show isO 112 3 6 = true from rfl) (show bnd 6 1 = some _ from rfl)
    have e23 : ((I8 3 1) : Int32).toInt = (I 3 1).toInt := Eq.trans (congrArg Int32.toInt kq13) rfl
    have kz24 : ((I8 3 1) : Int32).toInt = (I 3 1).toInt := e23
    have b25 := Bd.o hB0 (show isO 112 97 12 = true from rfl) (show bnd 12 8 = some _ from rfl)
    have e26 : ((I8 97 8) : Int32).toInt = (I 97 8).toInt := Eq.trans (congrArg Int32.toInt kq14) rfl
    have kz27 : ((I8 97 8) : Int32).toInt = (I 97 8).toInt := e26
    have b28 := Bd.o hB0 (show isO 112 1 11 = true from rfl) (show bnd 11 13 = some _ from rfl)
    have e29 : ((I8 1 13) : Int32).toInt = (I 1 13).toInt := Eq.trans (congrArg Int32.toInt kq15) rfl
    have kz30 : ((I8 1 13) : Int32).toInt = (I 1 13).toInt := e29
    have b31 := Bd.o hB0 (show isO 112 97 12 = true from rfl) (show bnd 12 23 = some _ from rfl)
    have e32 : ((I8 97 23) : Int32).toInt = (I 97 23).toInt := Eq.trans (congrArg Int32.toInt kq16) rfl
    have kz33 : ((I8 97 23) : Int32).toInt = (I 97 23).toInt := e32
    refine ⟨vp_of (a := (v3.toInt + 1)) e1 (by omega) (by omega), ?_⟩
    have z34 := i32 (xs (Int32.toNatClampNeg (v3 + 1)))
    refine ⟨vp_of (a := (v3.toInt + 2)) e3 (by omega) (by omega), ?_⟩
    have z35 := i32 (xs (Int32.toNatClampNeg (v3 + 2)))
    refine ⟨fun c36 => ?_, fun c36 => ?_⟩
    · skip
      have d37 : (((xs (Int32.toNatClampNeg (v3 + 2))).toInt) : Int) = (0) := ci_eq rfl rfl c36
      refine ⟨⟨hF0, rfl⟩, ?_⟩
      refine kp6 rfl hR0 rfl (kp4 rfl (kp5 rfl hR0 rfl (kp0 rfl (kp1 rfl (kp2 rfl (kp3 rfl (sp_X12_learn hB10 hR0 (fun x38 y43 I39 J40 hB41 p42 kq47 kq46 kq45 kq44 k49 k48 k50 => ?_))))))))
      intro o51
      have i52 := i32 x38
      have e53 : ((I39 3 1) : Int32).toInt = (I 3 1).toInt := Eq.trans (congrArg Int32.toInt (Eq.trans kq44 kq13)) rfl
      have kz54 : ((I39 3 1) : Int32).toInt = (I 3 1).toInt := e53
      have e55 : ((I39 97 8) : Int32).toInt = (I 97 8).toInt := Eq.trans (congrArg Int32.toInt (Eq.trans kq45 kq14)) rfl
      have kz56 : ((I39 97 8) : Int32).toInt = (I 97 8).toInt := e55
      have e57 : ((I39 1 13) : Int32).toInt = (I 1 13).toInt := Eq.trans (congrArg Int32.toInt (Eq.trans kq46 kq15)) rfl
      have kz58 : ((I39 1 13) : Int32).toInt = (I 1 13).toInt := e57
      have e59 : ((I39 97 23) : Int32).toInt = (I 97 23).toInt := Eq.trans (congrArg Int32.toInt (Eq.trans kq47 kq16)) rfl
      have kz60 : ((I39 97 23) : Int32).toInt = (I 97 23).toInt := e59
      exact hN _ _ R hB41 hR0 hF0 ⟨(Eq.trans (e53) (Eq.trans hL0 (Eq.symm (e55)))), (Eq.trans (e57) (Eq.trans hL1 (Eq.symm (e59)))), (RT.kp (RT.kp hL2 k17 k18) k48 k49), ((congrFun k50 0).trans ((congrFun k19 0).trans hL3))⟩
    · skip
      have d61 : ¬ (((xs (Int32.toNatClampNeg (v3 + 2))).toInt) : Int) = (0) := ci_ne rfl rfl c36
      refine ⟨⟨hF0, rfl⟩, ?_⟩
      refine kp6 rfl hR0 rfl (kp4 rfl (kp5 rfl hR0 rfl (kp0 rfl (kp1 rfl (kp2 rfl (kp3 rfl (sp_X12_learn hB10 hR0 (fun x62 y67 I63 J64 hB65 p66 kq71 kq70 kq69 kq68 k73 k72 k74 => ?_))))))))
      intro o75
      have i76 := i32 x62
      have e77 : ((I63 3 1) : Int32).toInt = (I 3 1).toInt := Eq.trans (congrArg Int32.toInt (Eq.trans kq68 kq13)) rfl
      have kz78 : ((I63 3 1) : Int32).toInt = (I 3 1).toInt := e77
      have e79 : ((I63 97 8) : Int32).toInt = (I 97 8).toInt := Eq.trans (congrArg Int32.toInt (Eq.trans kq69 kq14)) rfl
      have kz80 : ((I63 97 8) : Int32).toInt = (I 97 8).toInt := e79
      have e81 : ((I63 1 13) : Int32).toInt = (I 1 13).toInt := Eq.trans (congrArg Int32.toInt (Eq.trans kq70 kq15)) rfl
      have kz82 : ((I63 1 13) : Int32).toInt = (I 1 13).toInt := e81
      have e83 : ((I63 97 23) : Int32).toInt = (I 97 23).toInt := Eq.trans (congrArg Int32.toInt (Eq.trans kq71 kq16)) rfl
      have kz84 : ((I63 97 23) : Int32).toInt = (I 97 23).toInt := e83
      exact hN _ _ R hB65 hR0 hF0 ⟨(Eq.trans (e77) (Eq.trans hL0 (Eq.symm (e79)))), (Eq.trans (e81) (Eq.trans hL1 (Eq.symm (e83)))), (RT.kp (RT.kp hL2 k17 k18) k72 k73), ((congrFun k74 0).trans ((congrFun k19 0).trans hL3))⟩
  · skip
    have d85 : ¬ (((xs (Int32.toNatClampNeg (v3 + 2))).toInt) : Int) = (0) := ci_ne rfl rfl c5
    refine ⟨⟨hF0, rfl⟩, ?_⟩
    refine kp6 rfl hR0 rfl (kp4 rfl (kp5 rfl hR0 rfl (kp0 rfl (kp1 rfl (kp2 rfl (kp3 rfl (sp_X11_learn hB0 hR0 (fun x86 y91 I87 J88 hB89 p90 kq95 kq94 kq93 kq92 k97 k96 k98 => ?_))))))))
    intro o99
    have i100 := i32 x86
    have b101 := Bd.o hB0 (show isO 112 3 6 = true from rfl) (show bnd 6 1 = some _ from rfl)
    have e102 : ((I87 3 1) : Int32).toInt = (I 3 1).toInt := Eq.trans (congrArg Int32.toInt kq92) rfl
    have kz103 : ((I87 3 1) : Int32).toInt = (I 3 1).toInt := e102
    have b104 := Bd.o hB0 (show isO 112 97 12 = true from rfl) (show bnd 12 8 = some _ from rfl)
    have e105 : ((I87 97 8) : Int32).toInt = (I 97 8).toInt := Eq.trans (congrArg Int32.toInt kq93) rfl
    have kz106 : ((I87 97 8) : Int32).toInt = (I 97 8).toInt := e105
    have b107 := Bd.o hB0 (show isO 112 1 11 = true from rfl) (show bnd 11 13 = some _ from rfl)
    have e108 : ((I87 1 13) : Int32).toInt = (I 1 13).toInt := Eq.trans (congrArg Int32.toInt kq94) rfl
    have kz109 : ((I87 1 13) : Int32).toInt = (I 1 13).toInt := e108
    have b110 := Bd.o hB0 (show isO 112 97 12 = true from rfl) (show bnd 12 23 = some _ from rfl)
    have e111 : ((I87 97 23) : Int32).toInt = (I 97 23).toInt := Eq.trans (congrArg Int32.toInt kq95) rfl
    have kz112 : ((I87 97 23) : Int32).toInt = (I 97 23).toInt := e111
    refine ⟨vp_of (a := (v3.toInt + 1)) e1 (by omega) (by omega), ?_⟩
    have z113 := i32 (xs (Int32.toNatClampNeg (v3 + 1)))
    refine ⟨vp_of (a := (v3.toInt + 2)) e3 (by omega) (by omega), ?_⟩
    have z114 := i32 (xs (Int32.toNatClampNeg (v3 + 2)))
    refine ⟨fun c115 => ?_, fun c115 => ?_⟩
    · skip
      have d116 : (((xs (Int32.toNatClampNeg (v3 + 2))).toInt) : Int) = (0) := ci_eq rfl rfl c115
      refine ⟨⟨hF0, rfl⟩, ?_⟩
      refine kp6 rfl hR0 rfl (kp4 rfl (kp5 rfl hR0 rfl (kp0 rfl (kp1 rfl (kp2 rfl (kp3 rfl (sp_X12_learn hB89 hR0 (fun x117 y122 I118 J119 hB120 p121 kq126 kq125 kq124 kq123 k128 k127 k129 => ?_))))))))
      intro o130
      have i131 := i32 x117
      have e132 : ((I118 3 1) : Int32).toInt = (I 3 1).toInt := Eq.trans (congrArg Int32.toInt (Eq.trans kq123 kq92)) rfl
      have kz133 : ((I118 3 1) : Int32).toInt = (I 3 1).toInt := e132
      have e134 : ((I118 97 8) : Int32).toInt = (I 97 8).toInt := Eq.trans (congrArg Int32.toInt (Eq.trans kq124 kq93)) rfl
      have kz135 : ((I118 97 8) : Int32).toInt = (I 97 8).toInt := e134
      have e136 : ((I118 1 13) : Int32).toInt = (I 1 13).toInt := Eq.trans (congrArg Int32.toInt (Eq.trans kq125 kq94)) rfl
      have kz137 : ((I118 1 13) : Int32).toInt = (I 1 13).toInt := e136
      have e138 : ((I118 97 23) : Int32).toInt = (I 97 23).toInt := Eq.trans (congrArg Int32.toInt (Eq.trans kq126 kq95)) rfl
      have kz139 : ((I118 97 23) : Int32).toInt = (I 97 23).toInt := e138
      exact hN _ _ R hB120 hR0 hF0 ⟨(Eq.trans (e132) (Eq.trans hL0 (Eq.symm (e134)))), (Eq.trans (e136) (Eq.trans hL1 (Eq.symm (e138)))), (RT.kp (RT.kp hL2 k96 k97) k127 k128), ((congrFun k129 0).trans ((congrFun k98 0).trans hL3))⟩
    · skip
      have d140 : ¬ (((xs (Int32.toNatClampNeg (v3 + 2))).toInt) : Int) = (0) := ci_ne rfl rfl c115
      refine ⟨⟨hF0, rfl⟩, ?_⟩
      refine kp6 rfl hR0 rfl (kp4 rfl (kp5 rfl hR0 rfl (kp0 rfl (kp1 rfl (kp2 rfl (kp3 rfl (sp_X12_learn hB89 hR0 (fun x141 y146 I142 J143 hB144 p145 kq150 kq149 kq148 kq147 k152 k151 k153 => ?_))))))))
      intro o154
      have i155 := i32 x141
      have e156 : ((I142 3 1) : Int32).toInt = (I 3 1).toInt := Eq.trans (congrArg Int32.toInt (Eq.trans kq147 kq92)) rfl
      have kz157 : ((I142 3 1) : Int32).toInt = (I 3 1).toInt := e156
      have e158 : ((I142 97 8) : Int32).toInt = (I 97 8).toInt := Eq.trans (congrArg Int32.toInt (Eq.trans kq148 kq93)) rfl
      have kz159 : ((I142 97 8) : Int32).toInt = (I 97 8).toInt := e158
      have e160 : ((I142 1 13) : Int32).toInt = (I 1 13).toInt := Eq.trans (congrArg Int32.toInt (Eq.trans kq149 kq94)) rfl
      have kz161 : ((I142 1 13) : Int32).toInt = (I 1 13).toInt := e160
      have e162 : ((I142 97 23) : Int32).toInt = (I 97 23).toInt := Eq.trans (congrArg Int32.toInt (Eq.trans kq150 kq95)) rfl
      have kz163 : ((I142 97 23) : Int32).toInt = (I 97 23).toInt := e162
      exact hN _ _ R hB144 hR0 hF0 ⟨(Eq.trans (e156) (Eq.trans hL0 (Eq.symm (e158)))), (Eq.trans (e160) (Eq.trans hL1 (Eq.symm (e162)))), (RT.kp (RT.kp hL2 k96 k97) k151 k152), ((congrFun k153 0).trans ((congrFun k98 0).trans hL3))⟩
set_option maxHeartbeats 2000000 in
theorem lc_26 {Q : Nat → Qt} {P : Kt} {L : Nat} {xs : Nat → Int32} (hc : Cl (AM 640) false true L xs 2 112 kL_law Q P) (hL : L ≤ 3584) {v3 : Int32} {I : Im} {J : Jm} {R : Rm} (hB0 : Bd I) (hR0 : RI R) (hF0 : Fl R) (hL0 : (I 3 1).toInt = (I 97 8).toInt) (hL1 : (I 1 13).toInt = (I 97 23).toInt) (hL2 : RT I) (hL3 : J 47 0 = 0) (h0 : 0 ≤ v3.toInt) (h7 : v3.toInt + 7 ≤ (L : Int)) (hN : ∀ (I : Im) (J : Jm) (R : Rm), Bd I → RI R → Fl R → RLk I J → P 1889 112 [(0, .ref 0), (1, .ref 1), (2, .ref 97), (3, .int v3)] [] I J R) : P 1088 112 [(0, .ref 0), (1, .ref 1), (2, .ref 97), (3, .int v3)] [] I J R := by
  have i_v3 := i32 v3
  refine ls_1088 hc v3 _ _ _ ?_
  have e1 : ((v3 + 1) : Int32).toInt = (v3.toInt) + (1) := ti_add rfl rfl (by omega)
  refine ⟨vp_of (a := (v3.toInt + 1)) e1 (by omega) (by omega), ?_⟩
  have z2 := i32 (xs (Int32.toNatClampNeg (v3 + 1)))
  refine ⟨⟨hF0, rfl⟩, ?_⟩
  refine kp6 rfl hR0 rfl (kp4 rfl (kp5 rfl hR0 rfl (kp0 rfl (kp1 rfl (kp2 rfl (kp3 rfl (sp_X11_rule hB0 hR0 (fun x3 y8 I4 J5 hB6 p7 kq12 kq11 kq10 kq9 k14 k13 k15 => ?_))))))))
  intro o16
  have i17 := i32 x3
  have b18 := Bd.o hB0 (show isO 112 3 6 = true from rfl) (show bnd 6 1 = some _ from rfl)
  have e19 : ((I4 3 1) : Int32).toInt = (I 3 1).toInt := Eq.trans (congrArg Int32.toInt kq9) rfl
  have kz20 : ((I4 3 1) : Int32).toInt = (I 3 1).toInt := e19
  have b21 := Bd.o hB0 (show isO 112 97 12 = true from rfl) (show bnd 12 8 = some _ from rfl)
  have e22 : ((I4 97 8) : Int32).toInt = (I 97 8).toInt := Eq.trans (congrArg Int32.toInt kq10) rfl
  have kz23 : ((I4 97 8) : Int32).toInt = (I 97 8).toInt := e22
  have b24 := Bd.o hB0 (show isO 112 1 11 = true from rfl) (show bnd 11 13 = some _ from rfl)
  have e25 : ((I4 1 13) : Int32).toInt = (I 1 13).toInt := Eq.trans (congrArg Int32.toInt kq11) rfl
  have kz26 : ((I4 1 13) : Int32).toInt = (I 1 13).toInt := e25
  have b27 := Bd.o hB0 (show isO 112 97 12 = true from rfl) (show bnd 12 23 = some _ from rfl)
  have e28 : ((I4 97 23) : Int32).toInt = (I 97 23).toInt := Eq.trans (congrArg Int32.toInt kq12) rfl
  have kz29 : ((I4 97 23) : Int32).toInt = (I 97 23).toInt := e28
  refine ⟨vp_of (a := (v3.toInt + 1)) e1 (by omega) (by omega), ?_⟩
  have z30 := i32 (xs (Int32.toNatClampNeg (v3 + 1)))
  refine ⟨⟨hF0, rfl⟩, ?_⟩
  refine kp6 rfl hR0 rfl (kp4 rfl (kp5 rfl hR0 rfl (kp0 rfl (kp1 rfl (kp2 rfl (kp3 rfl (sp_X12_rule hB6 hR0 (fun x31 y36 I32 J33 hB34 p35 kq40 kq39 kq38 kq37 k42 k41 k43 => ?_))))))))
  intro o44
  have i45 := i32 x31
  have e46 : ((I32 3 1) : Int32).toInt = (I 3 1).toInt := Eq.trans (congrArg Int32.toInt (Eq.trans kq37 kq9)) rfl
  have kz47 : ((I32 3 1) : Int32).toInt = (I 3 1).toInt := e46
  have e48 : ((I32 97 8) : Int32).toInt = (I 97 8).toInt := Eq.trans (congrArg Int32.toInt (Eq.trans kq38 kq10)) rfl
  have kz49 : ((I32 97 8) : Int32).toInt = (I 97 8).toInt := e48
  have e50 : ((I32 1 13) : Int32).toInt = (I 1 13).toInt := Eq.trans (congrArg Int32.toInt (Eq.trans kq39 kq11)) rfl
  have kz51 : ((I32 1 13) : Int32).toInt = (I 1 13).toInt := e50
  have e52 : ((I32 97 23) : Int32).toInt = (I 97 23).toInt := Eq.trans (congrArg Int32.toInt (Eq.trans kq40 kq12)) rfl
  have kz53 : ((I32 97 23) : Int32).toInt = (I 97 23).toInt := e52
  exact hN _ _ R hB34 hR0 hF0 ⟨(Eq.trans (e46) (Eq.trans hL0 (Eq.symm (e48)))), (Eq.trans (e50) (Eq.trans hL1 (Eq.symm (e52)))), (RT.kp (RT.kp hL2 k13 k14) k41 k42), ((congrFun k43 0).trans ((congrFun k15 0).trans hL3))⟩
set_option maxHeartbeats 2000000 in
theorem lc_27 {Q : Nat → Qt} {P : Kt} {L : Nat} {xs : Nat → Int32} (hc : Cl (AM 640) false true L xs 2 112 kL_law Q P) (hL : L ≤ 3584) {v3 : Int32} {I : Im} {J : Jm} {R : Rm} (hB0 : Bd I) (hR0 : RI R) (hF0 : Fl R) (hL0 : (I 3 1).toInt = (I 97 8).toInt) (hL1 : (I 1 13).toInt = (I 97 23).toInt) (hL2 : RT I) (hL3 : J 47 0 = 0) (h0 : 0 ≤ v3.toInt) (h7 : v3.toInt + 7 ≤ (L : Int)) (hN : ∀ (I : Im) (J : Jm) (R : Rm), Bd I → RI R → Fl R → RLk I J → P 1889 112 [(0, .ref 0), (1, .ref 1), (2, .ref 97), (3, .int v3)] [] I J R) : P 1111 112 [(0, .ref 0), (1, .ref 1), (2, .ref 97), (3, .int v3)] [] I J R := by
  have i_v3 := i32 v3
  refine ls_1111 hc v3 _ _ _ ?_
  have e1 : ((v3 + 1) : Int32).toInt = (v3.toInt) + (1) := ti_add rfl rfl (by omega)
  refine ⟨vp_of (a := (v3.toInt + 1)) e1 (by omega) (by omega), ?_⟩
  have z2 := i32 (xs (Int32.toNatClampNeg (v3 + 1)))
  have e3 : ((v3 + 2) : Int32).toInt = (v3.toInt) + (2) := ti_add rfl rfl (by omega)
  refine ⟨vp_of (a := (v3.toInt + 2)) e3 (by omega) (by omega), ?_⟩
  have z4 := i32 (xs (Int32.toNatClampNeg (v3 + 2)))
  refine ⟨⟨hF0, rfl⟩, ?_⟩
  refine kp6 rfl hR0 rfl (kp4 rfl (kp5 rfl hR0 rfl (kp0 rfl (kp1 rfl (kp2 rfl (kp3 rfl (sp_X11_fewest hB0 hR0 (fun x5 y10 I6 J7 hB8 p9 kq14 kq13 kq12 kq11 k16 k15 k17 => ?_))))))))
  have i18 := i32 x5
  have b19 := Bd.o hB0 (show isO 112 3 6 = true from rfl) (show bnd 6 1 = some _ from rfl)
  have e20 : ((I6 3 1) : Int32).toInt = (I 3 1).toInt := Eq.trans (congrArg Int32.toInt kq11) rfl
  have kz21 : ((I6 3 1) : Int32).toInt = (I 3 1).toInt := e20
  have b22 := Bd.o hB0 (show isO 112 97 12 = true from rfl) (show bnd 12 8 = some _ from rfl)
  have e23 : ((I6 97 8) : Int32).toInt = (I 97 8).toInt := Eq.trans (congrArg Int32.toInt kq12) rfl
  have kz24 : ((I6 97 8) : Int32).toInt = (I 97 8).toInt := e23
  have b25 := Bd.o hB0 (show isO 112 1 11 = true from rfl) (show bnd 11 13 = some _ from rfl)
  have e26 : ((I6 1 13) : Int32).toInt = (I 1 13).toInt := Eq.trans (congrArg Int32.toInt kq13) rfl
  have kz27 : ((I6 1 13) : Int32).toInt = (I 1 13).toInt := e26
  have b28 := Bd.o hB0 (show isO 112 97 12 = true from rfl) (show bnd 12 23 = some _ from rfl)
  have e29 : ((I6 97 23) : Int32).toInt = (I 97 23).toInt := Eq.trans (congrArg Int32.toInt kq14) rfl
  have kz30 : ((I6 97 23) : Int32).toInt = (I 97 23).toInt := e29
  refine ⟨vp_of (a := (v3.toInt + 1)) e1 (by omega) (by omega), ?_⟩
  have z31 := i32 (xs (Int32.toNatClampNeg (v3 + 1)))
  refine ⟨vp_of (a := (v3.toInt + 2)) e3 (by omega) (by omega), ?_⟩
  have z32 := i32 (xs (Int32.toNatClampNeg (v3 + 2)))
  refine ⟨⟨hF0, rfl⟩, ?_⟩
  refine kp6 rfl hR0 rfl (kp4 rfl (kp5 rfl hR0 rfl (kp0 rfl (kp1 rfl (kp2 rfl (kp3 rfl (sp_X12_fewest hB8 hR0 (fun x33 y38 I34 J35 hB36 p37 kq42 kq41 kq40 kq39 k44 k43 k45 => ?_))))))))
  have i46 := i32 x33
  have e47 : ((I34 3 1) : Int32).toInt = (I 3 1).toInt := Eq.trans (congrArg Int32.toInt (Eq.trans kq39 kq11)) rfl
  have kz48 : ((I34 3 1) : Int32).toInt = (I 3 1).toInt := e47
  have e49 : ((I34 97 8) : Int32).toInt = (I 97 8).toInt := Eq.trans (congrArg Int32.toInt (Eq.trans kq40 kq12)) rfl
  have kz50 : ((I34 97 8) : Int32).toInt = (I 97 8).toInt := e49
  have e51 : ((I34 1 13) : Int32).toInt = (I 1 13).toInt := Eq.trans (congrArg Int32.toInt (Eq.trans kq41 kq13)) rfl
  have kz52 : ((I34 1 13) : Int32).toInt = (I 1 13).toInt := e51
  have e53 : ((I34 97 23) : Int32).toInt = (I 97 23).toInt := Eq.trans (congrArg Int32.toInt (Eq.trans kq42 kq14)) rfl
  have kz54 : ((I34 97 23) : Int32).toInt = (I 97 23).toInt := e53
  exact hN _ _ R hB36 hR0 hF0 ⟨(Eq.trans (e47) (Eq.trans hL0 (Eq.symm (e49)))), (Eq.trans (e51) (Eq.trans hL1 (Eq.symm (e53)))), (RT.kp (RT.kp hL2 k15 k16) k43 k44), ((congrFun k45 0).trans ((congrFun k17 0).trans hL3))⟩
set_option maxHeartbeats 2000000 in
theorem lc_28 {Q : Nat → Qt} {P : Kt} {L : Nat} {xs : Nat → Int32} (hc : Cl (AM 640) false true L xs 2 112 kL_law Q P) (hL : L ≤ 3584) {v3 : Int32} {I : Im} {J : Jm} {R : Rm} (hB0 : Bd I) (hR0 : RI R) (hF0 : Fl R) (hL0 : (I 3 1).toInt = (I 97 8).toInt) (hL1 : (I 1 13).toInt = (I 97 23).toInt) (hL2 : RT I) (hL3 : J 47 0 = 0) (h0 : 0 ≤ v3.toInt) (h7 : v3.toInt + 7 ≤ (L : Int)) (hN : ∀ (I : Im) (J : Jm) (R : Rm), Bd I → RI R → Fl R → RLk I J → P 1889 112 [(0, .ref 0), (1, .ref 1), (2, .ref 97), (3, .int v3)] [] I J R) : P 1144 112 [(0, .ref 0), (1, .ref 1), (2, .ref 97), (3, .int v3)] [] I J R := by
  have i_v3 := i32 v3
  refine ls_1144 hc v3 _ _ _ ?_
  have e1 : ((v3 + 1) : Int32).toInt = (v3.toInt) + (1) := ti_add rfl rfl (by omega)
  refine ⟨vp_of (a := (v3.toInt + 1)) e1 (by omega) (by omega), ?_⟩
  have z2 := i32 (xs (Int32.toNatClampNeg (v3 + 1)))
  have e3 : ((v3 + 2) : Int32).toInt = (v3.toInt) + (2) := ti_add rfl rfl (by omega)
  refine ⟨vp_of (a := (v3.toInt + 2)) e3 (by omega) (by omega), ?_⟩
  have z4 := i32 (xs (Int32.toNatClampNeg (v3 + 2)))
  have e5 : ((v3 + 3) : Int32).toInt = (v3.toInt) + (3) := ti_add rfl rfl (by omega)
  refine ⟨vp_of (a := (v3.toInt + 3)) e5 (by omega) (by omega), ?_⟩
  have z6 := i32 (xs (Int32.toNatClampNeg (v3 + 3)))
  refine ⟨⟨hF0, rfl⟩, ?_⟩
  refine kp6 rfl hR0 rfl (kp4 rfl (kp5 rfl hR0 rfl (kp0 rfl (kp1 rfl (kp2 rfl (kp3 rfl (sp_X11_fewestAt hB0 hR0 (fun x7 y12 I8 J9 hB10 p11 kq16 kq15 kq14 kq13 k18 k17 k19 => ?_))))))))
  have i20 := i32 x7
  have b21 := Bd.o hB0 (show isO 112 3 6 = true from rfl) (show bnd 6 1 = some _ from rfl)
  have e22 : ((I8 3 1) : Int32).toInt = (I 3 1).toInt := Eq.trans (congrArg Int32.toInt kq13) rfl
  have kz23 : ((I8 3 1) : Int32).toInt = (I 3 1).toInt := e22
  have b24 := Bd.o hB0 (show isO 112 97 12 = true from rfl) (show bnd 12 8 = some _ from rfl)
  have e25 : ((I8 97 8) : Int32).toInt = (I 97 8).toInt := Eq.trans (congrArg Int32.toInt kq14) rfl
  have kz26 : ((I8 97 8) : Int32).toInt = (I 97 8).toInt := e25
  have b27 := Bd.o hB0 (show isO 112 1 11 = true from rfl) (show bnd 11 13 = some _ from rfl)
  have e28 : ((I8 1 13) : Int32).toInt = (I 1 13).toInt := Eq.trans (congrArg Int32.toInt kq15) rfl
  have kz29 : ((I8 1 13) : Int32).toInt = (I 1 13).toInt := e28
  have b30 := Bd.o hB0 (show isO 112 97 12 = true from rfl) (show bnd 12 23 = some _ from rfl)
  have e31 : ((I8 97 23) : Int32).toInt = (I 97 23).toInt := Eq.trans (congrArg Int32.toInt kq16) rfl
  have kz32 : ((I8 97 23) : Int32).toInt = (I 97 23).toInt := e31
  refine ⟨vp_of (a := (v3.toInt + 1)) e1 (by omega) (by omega), ?_⟩
  have z33 := i32 (xs (Int32.toNatClampNeg (v3 + 1)))
  refine ⟨vp_of (a := (v3.toInt + 2)) e3 (by omega) (by omega), ?_⟩
  have z34 := i32 (xs (Int32.toNatClampNeg (v3 + 2)))
  refine ⟨vp_of (a := (v3.toInt + 3)) e5 (by omega) (by omega), ?_⟩
  have z35 := i32 (xs (Int32.toNatClampNeg (v3 + 3)))
  refine ⟨⟨hF0, rfl⟩, ?_⟩
  refine kp6 rfl hR0 rfl (kp4 rfl (kp5 rfl hR0 rfl (kp0 rfl (kp1 rfl (kp2 rfl (kp3 rfl (sp_X12_fewestAt hB10 hR0 (fun x36 y41 I37 J38 hB39 p40 kq45 kq44 kq43 kq42 k47 k46 k48 => ?_))))))))
  have i49 := i32 x36
  have e50 : ((I37 3 1) : Int32).toInt = (I 3 1).toInt := Eq.trans (congrArg Int32.toInt (Eq.trans kq42 kq13)) rfl
  have kz51 : ((I37 3 1) : Int32).toInt = (I 3 1).toInt := e50
  have e52 : ((I37 97 8) : Int32).toInt = (I 97 8).toInt := Eq.trans (congrArg Int32.toInt (Eq.trans kq43 kq14)) rfl
  have kz53 : ((I37 97 8) : Int32).toInt = (I 97 8).toInt := e52
  have e54 : ((I37 1 13) : Int32).toInt = (I 1 13).toInt := Eq.trans (congrArg Int32.toInt (Eq.trans kq44 kq15)) rfl
  have kz55 : ((I37 1 13) : Int32).toInt = (I 1 13).toInt := e54
  have e56 : ((I37 97 23) : Int32).toInt = (I 97 23).toInt := Eq.trans (congrArg Int32.toInt (Eq.trans kq45 kq16)) rfl
  have kz57 : ((I37 97 23) : Int32).toInt = (I 97 23).toInt := e56
  exact hN _ _ R hB39 hR0 hF0 ⟨(Eq.trans (e50) (Eq.trans hL0 (Eq.symm (e52)))), (Eq.trans (e54) (Eq.trans hL1 (Eq.symm (e56)))), (RT.kp (RT.kp hL2 k17 k18) k46 k47), ((congrFun k48 0).trans ((congrFun k19 0).trans hL3))⟩
set_option maxHeartbeats 2000000 in
theorem lc_29 {Q : Nat → Qt} {P : Kt} {L : Nat} {xs : Nat → Int32} (hc : Cl (AM 640) false true L xs 2 112 kL_law Q P) (hL : L ≤ 3584) {v3 : Int32} {I : Im} {J : Jm} {R : Rm} (hB0 : Bd I) (hR0 : RI R) (hF0 : Fl R) (hL0 : (I 3 1).toInt = (I 97 8).toInt) (hL1 : (I 1 13).toInt = (I 97 23).toInt) (hL2 : RT I) (hL3 : J 47 0 = 0) (h0 : 0 ≤ v3.toInt) (h7 : v3.toInt + 7 ≤ (L : Int)) (hN : ∀ (I : Im) (J : Jm) (R : Rm), Bd I → RI R → Fl R → RLk I J → P 1889 112 [(0, .ref 0), (1, .ref 1), (2, .ref 97), (3, .int v3)] [] I J R) : P 1187 112 [(0, .ref 0), (1, .ref 1), (2, .ref 97), (3, .int v3)] [] I J R := by
  have i_v3 := i32 v3
  refine ls_1187 hc v3 _ _ _ ?_
  have e1 : ((v3 + 1) : Int32).toInt = (v3.toInt) + (1) := ti_add rfl rfl (by omega)
  refine ⟨vp_of (a := (v3.toInt + 1)) e1 (by omega) (by omega), ?_⟩
  have z2 := i32 (xs (Int32.toNatClampNeg (v3 + 1)))
  have e3 : ((v3 + 2) : Int32).toInt = (v3.toInt) + (2) := ti_add rfl rfl (by omega)
  refine ⟨vp_of (a := (v3.toInt + 2)) e3 (by omega) (by omega), ?_⟩
  have z4 := i32 (xs (Int32.toNatClampNeg (v3 + 2)))
  have e5 : ((v3 + 3) : Int32).toInt = (v3.toInt) + (3) := ti_add rfl rfl (by omega)
  refine ⟨vp_of (a := (v3.toInt + 3)) e5 (by omega) (by omega), ?_⟩
  have z6 := i32 (xs (Int32.toNatClampNeg (v3 + 3)))
  refine ⟨⟨hF0, rfl⟩, ?_⟩
  refine kp6 rfl hR0 rfl (kp4 rfl (kp5 rfl hR0 rfl (kp0 rfl (kp1 rfl (kp2 rfl (kp3 rfl (sp_X11_ways hB0 hR0 (fun x7 y12 I8 J9 hB10 p11 kq16 kq15 kq14 kq13 k18 k17 k19 => ?_))))))))
  have i20 := i32 x7
  have b21 := Bd.o hB0 (show isO 112 3 6 = true from rfl) (show bnd 6 1 = some _ from rfl)
  have e22 : ((I8 3 1) : Int32).toInt = (I 3 1).toInt := Eq.trans (congrArg Int32.toInt kq13) rfl
  have kz23 : ((I8 3 1) : Int32).toInt = (I 3 1).toInt := e22
  have b24 := Bd.o hB0 (show isO 112 97 12 = true from rfl) (show bnd 12 8 = some _ from rfl)
  have e25 : ((I8 97 8) : Int32).toInt = (I 97 8).toInt := Eq.trans (congrArg Int32.toInt kq14) rfl
  have kz26 : ((I8 97 8) : Int32).toInt = (I 97 8).toInt := e25
  have b27 := Bd.o hB0 (show isO 112 1 11 = true from rfl) (show bnd 11 13 = some _ from rfl)
  have e28 : ((I8 1 13) : Int32).toInt = (I 1 13).toInt := Eq.trans (congrArg Int32.toInt kq15) rfl
  have kz29 : ((I8 1 13) : Int32).toInt = (I 1 13).toInt := e28
  have b30 := Bd.o hB0 (show isO 112 97 12 = true from rfl) (show bnd 12 23 = some _ from rfl)
  have e31 : ((I8 97 23) : Int32).toInt = (I 97 23).toInt := Eq.trans (congrArg Int32.toInt kq16) rfl
  have kz32 : ((I8 97 23) : Int32).toInt = (I 97 23).toInt := e31
  refine ⟨vp_of (a := (v3.toInt + 1)) e1 (by omega) (by omega), ?_⟩
  have z33 := i32 (xs (Int32.toNatClampNeg (v3 + 1)))
  refine ⟨vp_of (a := (v3.toInt + 2)) e3 (by omega) (by omega), ?_⟩
  have z34 := i32 (xs (Int32.toNatClampNeg (v3 + 2)))
  refine ⟨vp_of (a := (v3.toInt + 3)) e5 (by omega) (by omega), ?_⟩
  have z35 := i32 (xs (Int32.toNatClampNeg (v3 + 3)))
  refine ⟨⟨hF0, rfl⟩, ?_⟩
  refine kp6 rfl hR0 rfl (kp4 rfl (kp5 rfl hR0 rfl (kp0 rfl (kp1 rfl (kp2 rfl (kp3 rfl (sp_X12_ways hB10 hR0 (fun x36 y41 I37 J38 hB39 p40 kq45 kq44 kq43 kq42 k47 k46 k48 => ?_))))))))
  have i49 := i32 x36
  have e50 : ((I37 3 1) : Int32).toInt = (I 3 1).toInt := Eq.trans (congrArg Int32.toInt (Eq.trans kq42 kq13)) rfl
  have kz51 : ((I37 3 1) : Int32).toInt = (I 3 1).toInt := e50
  have e52 : ((I37 97 8) : Int32).toInt = (I 97 8).toInt := Eq.trans (congrArg Int32.toInt (Eq.trans kq43 kq14)) rfl
  have kz53 : ((I37 97 8) : Int32).toInt = (I 97 8).toInt := e52
  have e54 : ((I37 1 13) : Int32).toInt = (I 1 13).toInt := Eq.trans (congrArg Int32.toInt (Eq.trans kq44 kq15)) rfl
  have kz55 : ((I37 1 13) : Int32).toInt = (I 1 13).toInt := e54
  have e56 : ((I37 97 23) : Int32).toInt = (I 97 23).toInt := Eq.trans (congrArg Int32.toInt (Eq.trans kq45 kq16)) rfl
  have kz57 : ((I37 97 23) : Int32).toInt = (I 97 23).toInt := e56
  exact hN _ _ R hB39 hR0 hF0 ⟨(Eq.trans (e50) (Eq.trans hL0 (Eq.symm (e52)))), (Eq.trans (e54) (Eq.trans hL1 (Eq.symm (e56)))), (RT.kp (RT.kp hL2 k17 k18) k46 k47), ((congrFun k48 0).trans ((congrFun k19 0).trans hL3))⟩
set_option maxHeartbeats 2000000 in
theorem lc_30 {Q : Nat → Qt} {P : Kt} {L : Nat} {xs : Nat → Int32} (hc : Cl (AM 640) false true L xs 2 112 kL_law Q P) (hL : L ≤ 3584) {v3 : Int32} {I : Im} {J : Jm} {R : Rm} (hB0 : Bd I) (hR0 : RI R) (hF0 : Fl R) (hL0 : (I 3 1).toInt = (I 97 8).toInt) (hL1 : (I 1 13).toInt = (I 97 23).toInt) (hL2 : RT I) (hL3 : J 47 0 = 0) (h0 : 0 ≤ v3.toInt) (h7 : v3.toInt + 7 ≤ (L : Int)) (hN : ∀ (I : Im) (J : Jm) (R : Rm), Bd I → RI R → Fl R → RLk I J → P 1889 112 [(0, .ref 0), (1, .ref 1), (2, .ref 97), (3, .int v3)] [] I J R) : P 1230 112 [(0, .ref 0), (1, .ref 1), (2, .ref 97), (3, .int v3)] [] I J R := by
  have i_v3 := i32 v3
  refine ls_1230 hc v3 _ _ _ ?_
  have e1 : ((v3 + 1) : Int32).toInt = (v3.toInt) + (1) := ti_add rfl rfl (by omega)
  refine ⟨vp_of (a := (v3.toInt + 1)) e1 (by omega) (by omega), ?_⟩
  have z2 := i32 (xs (Int32.toNatClampNeg (v3 + 1)))
  have e3 : ((v3 + 2) : Int32).toInt = (v3.toInt) + (2) := ti_add rfl rfl (by omega)
  refine ⟨vp_of (a := (v3.toInt + 2)) e3 (by omega) (by omega), ?_⟩
  have z4 := i32 (xs (Int32.toNatClampNeg (v3 + 2)))
  have e5 : ((v3 + 3) : Int32).toInt = (v3.toInt) + (3) := ti_add rfl rfl (by omega)
  refine ⟨vp_of (a := (v3.toInt + 3)) e5 (by omega) (by omega), ?_⟩
  have z6 := i32 (xs (Int32.toNatClampNeg (v3 + 3)))
  have e7 : ((v3 + 4) : Int32).toInt = (v3.toInt) + (4) := ti_add rfl rfl (by omega)
  refine ⟨vp_of (a := (v3.toInt + 4)) e7 (by omega) (by omega), ?_⟩
  have z8 := i32 (xs (Int32.toNatClampNeg (v3 + 4)))
  refine ⟨⟨hF0, rfl⟩, ?_⟩
  refine kp6 rfl hR0 rfl (kp4 rfl (kp5 rfl hR0 rfl (kp0 rfl (kp1 rfl (kp2 rfl (kp3 rfl (sp_X11_oddsThat hB0 hR0 (fun x9 y14 I10 J11 hB12 p13 kq18 kq17 kq16 kq15 k20 k19 k21 => ?_))))))))
  intro o22
  have i23 := i32 x9
  have b24 := Bd.o hB0 (show isO 112 3 6 = true from rfl) (show bnd 6 1 = some _ from rfl)
  have e25 : ((I10 3 1) : Int32).toInt = (I 3 1).toInt := Eq.trans (congrArg Int32.toInt kq15) rfl
  have kz26 : ((I10 3 1) : Int32).toInt = (I 3 1).toInt := e25
  have b27 := Bd.o hB0 (show isO 112 97 12 = true from rfl) (show bnd 12 8 = some _ from rfl)
  have e28 : ((I10 97 8) : Int32).toInt = (I 97 8).toInt := Eq.trans (congrArg Int32.toInt kq16) rfl
  have kz29 : ((I10 97 8) : Int32).toInt = (I 97 8).toInt := e28
  have b30 := Bd.o hB0 (show isO 112 1 11 = true from rfl) (show bnd 11 13 = some _ from rfl)
  have e31 : ((I10 1 13) : Int32).toInt = (I 1 13).toInt := Eq.trans (congrArg Int32.toInt kq17) rfl
  have kz32 : ((I10 1 13) : Int32).toInt = (I 1 13).toInt := e31
  have b33 := Bd.o hB0 (show isO 112 97 12 = true from rfl) (show bnd 12 23 = some _ from rfl)
  have e34 : ((I10 97 23) : Int32).toInt = (I 97 23).toInt := Eq.trans (congrArg Int32.toInt kq18) rfl
  have kz35 : ((I10 97 23) : Int32).toInt = (I 97 23).toInt := e34
  refine ⟨vp_of (a := (v3.toInt + 1)) e1 (by omega) (by omega), ?_⟩
  have z36 := i32 (xs (Int32.toNatClampNeg (v3 + 1)))
  refine ⟨vp_of (a := (v3.toInt + 2)) e3 (by omega) (by omega), ?_⟩
  have z37 := i32 (xs (Int32.toNatClampNeg (v3 + 2)))
  refine ⟨vp_of (a := (v3.toInt + 3)) e5 (by omega) (by omega), ?_⟩
  have z38 := i32 (xs (Int32.toNatClampNeg (v3 + 3)))
  refine ⟨vp_of (a := (v3.toInt + 4)) e7 (by omega) (by omega), ?_⟩
  have z39 := i32 (xs (Int32.toNatClampNeg (v3 + 4)))
  refine ⟨⟨hF0, rfl⟩, ?_⟩
  refine kp6 rfl hR0 rfl (kp4 rfl (kp5 rfl hR0 rfl (kp0 rfl (kp1 rfl (kp2 rfl (kp3 rfl (sp_X12_oddsThat hB12 hR0 (fun x40 y45 I41 J42 hB43 p44 kq49 kq48 kq47 kq46 k51 k50 k52 => ?_))))))))
  intro o53
  have i54 := i32 x40
  have e55 : ((I41 3 1) : Int32).toInt = (I 3 1).toInt := Eq.trans (congrArg Int32.toInt (Eq.trans kq46 kq15)) rfl
  have kz56 : ((I41 3 1) : Int32).toInt = (I 3 1).toInt := e55
  have e57 : ((I41 97 8) : Int32).toInt = (I 97 8).toInt := Eq.trans (congrArg Int32.toInt (Eq.trans kq47 kq16)) rfl
  have kz58 : ((I41 97 8) : Int32).toInt = (I 97 8).toInt := e57
  have e59 : ((I41 1 13) : Int32).toInt = (I 1 13).toInt := Eq.trans (congrArg Int32.toInt (Eq.trans kq48 kq17)) rfl
  have kz60 : ((I41 1 13) : Int32).toInt = (I 1 13).toInt := e59
  have e61 : ((I41 97 23) : Int32).toInt = (I 97 23).toInt := Eq.trans (congrArg Int32.toInt (Eq.trans kq49 kq18)) rfl
  have kz62 : ((I41 97 23) : Int32).toInt = (I 97 23).toInt := e61
  exact hN _ _ R hB43 hR0 hF0 ⟨(Eq.trans (e55) (Eq.trans hL0 (Eq.symm (e57)))), (Eq.trans (e59) (Eq.trans hL1 (Eq.symm (e61)))), (RT.kp (RT.kp hL2 k19 k20) k50 k51), ((congrFun k52 0).trans ((congrFun k21 0).trans hL3))⟩
set_option maxHeartbeats 2000000 in
theorem lc_31 {Q : Nat → Qt} {P : Kt} {L : Nat} {xs : Nat → Int32} (hc : Cl (AM 640) false true L xs 2 112 kL_law Q P) (hL : L ≤ 3584) {v3 : Int32} {I : Im} {J : Jm} {R : Rm} (hB0 : Bd I) (hR0 : RI R) (hF0 : Fl R) (hL0 : (I 3 1).toInt = (I 97 8).toInt) (hL1 : (I 1 13).toInt = (I 97 23).toInt) (hL2 : RT I) (hL3 : J 47 0 = 0) (h0 : 0 ≤ v3.toInt) (h7 : v3.toInt + 7 ≤ (L : Int)) (hN : ∀ (I : Im) (J : Jm) (R : Rm), Bd I → RI R → Fl R → RLk I J → P 1889 112 [(0, .ref 0), (1, .ref 1), (2, .ref 97), (3, .int v3)] [] I J R) : P 1283 112 [(0, .ref 0), (1, .ref 1), (2, .ref 97), (3, .int v3)] [] I J R := by
  have i_v3 := i32 v3
  refine ls_1283 hc v3 _ _ _ ?_
  have e1 : ((v3 + 1) : Int32).toInt = (v3.toInt) + (1) := ti_add rfl rfl (by omega)
  refine ⟨vp_of (a := (v3.toInt + 1)) e1 (by omega) (by omega), ?_⟩
  have z2 := i32 (xs (Int32.toNatClampNeg (v3 + 1)))
  have e3 : ((v3 + 2) : Int32).toInt = (v3.toInt) + (2) := ti_add rfl rfl (by omega)
  refine ⟨vp_of (a := (v3.toInt + 2)) e3 (by omega) (by omega), ?_⟩
  have z4 := i32 (xs (Int32.toNatClampNeg (v3 + 2)))
  have e5 : ((v3 + 3) : Int32).toInt = (v3.toInt) + (3) := ti_add rfl rfl (by omega)
  refine ⟨vp_of (a := (v3.toInt + 3)) e5 (by omega) (by omega), ?_⟩
  have z6 := i32 (xs (Int32.toNatClampNeg (v3 + 3)))
  refine ⟨⟨hF0, rfl⟩, ?_⟩
  refine kp6 rfl hR0 rfl (kp4 rfl (kp5 rfl hR0 rfl (kp0 rfl (kp1 rfl (kp2 rfl (kp3 rfl (sp_X11_ask hB0 hR0 (fun x7 y12 I8 J9 hB10 p11 kq16 kq15 kq14 kq13 k18 k17 k19 => ?_))))))))
  have i20 := i32 x7
  have b21 := Bd.o hB0 (show isO 112 3 6 = true from rfl) (show bnd 6 1 = some _ from rfl)
  have e22 : ((I8 3 1) : Int32).toInt = (I 3 1).toInt := Eq.trans (congrArg Int32.toInt kq13) rfl
  have kz23 : ((I8 3 1) : Int32).toInt = (I 3 1).toInt := e22
  have b24 := Bd.o hB0 (show isO 112 97 12 = true from rfl) (show bnd 12 8 = some _ from rfl)
  have e25 : ((I8 97 8) : Int32).toInt = (I 97 8).toInt := Eq.trans (congrArg Int32.toInt kq14) rfl
  have kz26 : ((I8 97 8) : Int32).toInt = (I 97 8).toInt := e25
  have b27 := Bd.o hB0 (show isO 112 1 11 = true from rfl) (show bnd 11 13 = some _ from rfl)
  have e28 : ((I8 1 13) : Int32).toInt = (I 1 13).toInt := Eq.trans (congrArg Int32.toInt kq15) rfl
  have kz29 : ((I8 1 13) : Int32).toInt = (I 1 13).toInt := e28
  have b30 := Bd.o hB0 (show isO 112 97 12 = true from rfl) (show bnd 12 23 = some _ from rfl)
  have e31 : ((I8 97 23) : Int32).toInt = (I 97 23).toInt := Eq.trans (congrArg Int32.toInt kq16) rfl
  have kz32 : ((I8 97 23) : Int32).toInt = (I 97 23).toInt := e31
  refine ⟨vp_of (a := (v3.toInt + 1)) e1 (by omega) (by omega), ?_⟩
  have z33 := i32 (xs (Int32.toNatClampNeg (v3 + 1)))
  refine ⟨vp_of (a := (v3.toInt + 2)) e3 (by omega) (by omega), ?_⟩
  have z34 := i32 (xs (Int32.toNatClampNeg (v3 + 2)))
  refine ⟨vp_of (a := (v3.toInt + 3)) e5 (by omega) (by omega), ?_⟩
  have z35 := i32 (xs (Int32.toNatClampNeg (v3 + 3)))
  refine ⟨⟨hF0, rfl⟩, ?_⟩
  refine kp6 rfl hR0 rfl (kp4 rfl (kp5 rfl hR0 rfl (kp0 rfl (kp1 rfl (kp2 rfl (kp3 rfl (sp_X12_ask hB10 hR0 (fun x36 y41 I37 J38 hB39 p40 kq45 kq44 kq43 kq42 k47 k46 k48 => ?_))))))))
  have i49 := i32 x36
  have e50 : ((I37 3 1) : Int32).toInt = (I 3 1).toInt := Eq.trans (congrArg Int32.toInt (Eq.trans kq42 kq13)) rfl
  have kz51 : ((I37 3 1) : Int32).toInt = (I 3 1).toInt := e50
  have e52 : ((I37 97 8) : Int32).toInt = (I 97 8).toInt := Eq.trans (congrArg Int32.toInt (Eq.trans kq43 kq14)) rfl
  have kz53 : ((I37 97 8) : Int32).toInt = (I 97 8).toInt := e52
  have e54 : ((I37 1 13) : Int32).toInt = (I 1 13).toInt := Eq.trans (congrArg Int32.toInt (Eq.trans kq44 kq15)) rfl
  have kz55 : ((I37 1 13) : Int32).toInt = (I 1 13).toInt := e54
  have e56 : ((I37 97 23) : Int32).toInt = (I 97 23).toInt := Eq.trans (congrArg Int32.toInt (Eq.trans kq45 kq16)) rfl
  have kz57 : ((I37 97 23) : Int32).toInt = (I 97 23).toInt := e56
  exact hN _ _ R hB39 hR0 hF0 ⟨(Eq.trans (e50) (Eq.trans hL0 (Eq.symm (e52)))), (Eq.trans (e54) (Eq.trans hL1 (Eq.symm (e56)))), (RT.kp (RT.kp hL2 k17 k18) k46 k47), ((congrFun k48 0).trans ((congrFun k19 0).trans hL3))⟩
set_option maxHeartbeats 2000000 in
theorem lc_32 {Q : Nat → Qt} {P : Kt} {L : Nat} {xs : Nat → Int32} (hc : Cl (AM 640) false true L xs 2 112 kL_law Q P) (hL : L ≤ 3584) {v3 : Int32} {I : Im} {J : Jm} {R : Rm} (hB0 : Bd I) (hR0 : RI R) (hF0 : Fl R) (hL0 : (I 3 1).toInt = (I 97 8).toInt) (hL1 : (I 1 13).toInt = (I 97 23).toInt) (hL2 : RT I) (hL3 : J 47 0 = 0) (h0 : 0 ≤ v3.toInt) (h7 : v3.toInt + 7 ≤ (L : Int)) (hN : ∀ (I : Im) (J : Jm) (R : Rm), Bd I → RI R → Fl R → RLk I J → P 1889 112 [(0, .ref 0), (1, .ref 1), (2, .ref 97), (3, .int v3)] [] I J R) : P 1326 112 [(0, .ref 0), (1, .ref 1), (2, .ref 97), (3, .int v3)] [] I J R := by
  have i_v3 := i32 v3
  refine ls_1326 hc v3 _ _ _ ?_
  have e1 : ((v3 + 1) : Int32).toInt = (v3.toInt) + (1) := ti_add rfl rfl (by omega)
  refine ⟨vp_of (a := (v3.toInt + 1)) e1 (by omega) (by omega), ?_⟩
  have z2 := i32 (xs (Int32.toNatClampNeg (v3 + 1)))
  have e3 : ((v3 + 2) : Int32).toInt = (v3.toInt) + (2) := ti_add rfl rfl (by omega)
  refine ⟨vp_of (a := (v3.toInt + 2)) e3 (by omega) (by omega), ?_⟩
  have z4 := i32 (xs (Int32.toNatClampNeg (v3 + 2)))
  have e5 : ((v3 + 3) : Int32).toInt = (v3.toInt) + (3) := ti_add rfl rfl (by omega)
  refine ⟨vp_of (a := (v3.toInt + 3)) e5 (by omega) (by omega), ?_⟩
  have z6 := i32 (xs (Int32.toNatClampNeg (v3 + 3)))
  refine ⟨⟨hF0, rfl⟩, ?_⟩
  refine kp6 rfl hR0 rfl (kp4 rfl (kp5 rfl hR0 rfl (kp0 rfl (kp1 rfl (kp2 rfl (kp3 rfl (sp_X11_kindestAt hB0 hR0 (fun x7 y12 I8 J9 hB10 p11 kq16 kq15 kq14 kq13 k18 k17 k19 => ?_))))))))
  have i20 := i32 x7
  have b21 := Bd.o hB0 (show isO 112 3 6 = true from rfl) (show bnd 6 1 = some _ from rfl)
  have e22 : ((I8 3 1) : Int32).toInt = (I 3 1).toInt := Eq.trans (congrArg Int32.toInt kq13) rfl
  have kz23 : ((I8 3 1) : Int32).toInt = (I 3 1).toInt := e22
  have b24 := Bd.o hB0 (show isO 112 97 12 = true from rfl) (show bnd 12 8 = some _ from rfl)
  have e25 : ((I8 97 8) : Int32).toInt = (I 97 8).toInt := Eq.trans (congrArg Int32.toInt kq14) rfl
  have kz26 : ((I8 97 8) : Int32).toInt = (I 97 8).toInt := e25
  have b27 := Bd.o hB0 (show isO 112 1 11 = true from rfl) (show bnd 11 13 = some _ from rfl)
  have e28 : ((I8 1 13) : Int32).toInt = (I 1 13).toInt := Eq.trans (congrArg Int32.toInt kq15) rfl
  have kz29 : ((I8 1 13) : Int32).toInt = (I 1 13).toInt := e28
  have b30 := Bd.o hB0 (show isO 112 97 12 = true from rfl) (show bnd 12 23 = some _ from rfl)
  have e31 : ((I8 97 23) : Int32).toInt = (I 97 23).toInt := Eq.trans (congrArg Int32.toInt kq16) rfl
  have kz32 : ((I8 97 23) : Int32).toInt = (I 97 23).toInt := e31
  refine ⟨vp_of (a := (v3.toInt + 1)) e1 (by omega) (by omega), ?_⟩
  have z33 := i32 (xs (Int32.toNatClampNeg (v3 + 1)))
  refine ⟨vp_of (a := (v3.toInt + 2)) e3 (by omega) (by omega), ?_⟩
  have z34 := i32 (xs (Int32.toNatClampNeg (v3 + 2)))
  refine ⟨vp_of (a := (v3.toInt + 3)) e5 (by omega) (by omega), ?_⟩
  have z35 := i32 (xs (Int32.toNatClampNeg (v3 + 3)))
  refine ⟨⟨hF0, rfl⟩, ?_⟩
  refine kp6 rfl hR0 rfl (kp4 rfl (kp5 rfl hR0 rfl (kp0 rfl (kp1 rfl (kp2 rfl (kp3 rfl (sp_X12_kindestAt hB10 hR0 (fun x36 y41 I37 J38 hB39 p40 kq45 kq44 kq43 kq42 k47 k46 k48 => ?_))))))))
  have i49 := i32 x36
  have e50 : ((I37 3 1) : Int32).toInt = (I 3 1).toInt := Eq.trans (congrArg Int32.toInt (Eq.trans kq42 kq13)) rfl
  have kz51 : ((I37 3 1) : Int32).toInt = (I 3 1).toInt := e50
  have e52 : ((I37 97 8) : Int32).toInt = (I 97 8).toInt := Eq.trans (congrArg Int32.toInt (Eq.trans kq43 kq14)) rfl
  have kz53 : ((I37 97 8) : Int32).toInt = (I 97 8).toInt := e52
  have e54 : ((I37 1 13) : Int32).toInt = (I 1 13).toInt := Eq.trans (congrArg Int32.toInt (Eq.trans kq44 kq15)) rfl
  have kz55 : ((I37 1 13) : Int32).toInt = (I 1 13).toInt := e54
  have e56 : ((I37 97 23) : Int32).toInt = (I 97 23).toInt := Eq.trans (congrArg Int32.toInt (Eq.trans kq45 kq16)) rfl
  have kz57 : ((I37 97 23) : Int32).toInt = (I 97 23).toInt := e56
  exact hN _ _ R hB39 hR0 hF0 ⟨(Eq.trans (e50) (Eq.trans hL0 (Eq.symm (e52)))), (Eq.trans (e54) (Eq.trans hL1 (Eq.symm (e56)))), (RT.kp (RT.kp hL2 k17 k18) k46 k47), ((congrFun k48 0).trans ((congrFun k19 0).trans hL3))⟩
set_option maxHeartbeats 2000000 in
theorem lc_33 {Q : Nat → Qt} {P : Kt} {L : Nat} {xs : Nat → Int32} (hc : Cl (AM 640) false true L xs 2 112 kL_law Q P) (hL : L ≤ 3584) {v3 : Int32} {I : Im} {J : Jm} {R : Rm} (hB0 : Bd I) (hR0 : RI R) (hF0 : Fl R) (hL0 : (I 3 1).toInt = (I 97 8).toInt) (hL1 : (I 1 13).toInt = (I 97 23).toInt) (hL2 : RT I) (hL3 : J 47 0 = 0) (h0 : 0 ≤ v3.toInt) (h7 : v3.toInt + 7 ≤ (L : Int)) (hN : ∀ (I : Im) (J : Jm) (R : Rm), Bd I → RI R → Fl R → RLk I J → P 1889 112 [(0, .ref 0), (1, .ref 1), (2, .ref 97), (3, .int v3)] [] I J R) : P 1369 112 [(0, .ref 0), (1, .ref 1), (2, .ref 97), (3, .int v3)] [] I J R := by
  have i_v3 := i32 v3
  refine ls_1369 hc v3 _ _ _ ?_
  have e1 : ((v3 + 1) : Int32).toInt = (v3.toInt) + (1) := ti_add rfl rfl (by omega)
  refine ⟨vp_of (a := (v3.toInt + 1)) e1 (by omega) (by omega), ?_⟩
  have z2 := i32 (xs (Int32.toNatClampNeg (v3 + 1)))
  have e3 : ((v3 + 2) : Int32).toInt = (v3.toInt) + (2) := ti_add rfl rfl (by omega)
  refine ⟨vp_of (a := (v3.toInt + 2)) e3 (by omega) (by omega), ?_⟩
  have z4 := i32 (xs (Int32.toNatClampNeg (v3 + 2)))
  have e5 : ((v3 + 3) : Int32).toInt = (v3.toInt) + (3) := ti_add rfl rfl (by omega)
  refine ⟨vp_of (a := (v3.toInt + 3)) e5 (by omega) (by omega), ?_⟩
  have z6 := i32 (xs (Int32.toNatClampNeg (v3 + 3)))
  refine ⟨⟨hF0, rfl⟩, ?_⟩
  refine kp6 rfl hR0 rfl (kp4 rfl (kp5 rfl hR0 rfl (kp0 rfl (kp1 rfl (kp2 rfl (kp3 rfl (gp_X11_greedyAt hB0 hR0 (fun x7 y12 I8 J9 hB10 p11 kq16 kq15 kq14 kq13 k18 k17 k19 => ?_))))))))
  have i20 := i32 x7
  have b21 := Bd.o hB0 (show isO 112 3 6 = true from rfl) (show bnd 6 1 = some _ from rfl)
  have e22 : ((I8 3 1) : Int32).toInt = (I 3 1).toInt := Eq.trans (congrArg Int32.toInt kq13) rfl
  have kz23 : ((I8 3 1) : Int32).toInt = (I 3 1).toInt := e22
  have b24 := Bd.o hB0 (show isO 112 97 12 = true from rfl) (show bnd 12 8 = some _ from rfl)
  have e25 : ((I8 97 8) : Int32).toInt = (I 97 8).toInt := Eq.trans (congrArg Int32.toInt kq14) rfl
  have kz26 : ((I8 97 8) : Int32).toInt = (I 97 8).toInt := e25
  have b27 := Bd.o hB0 (show isO 112 1 11 = true from rfl) (show bnd 11 13 = some _ from rfl)
  have e28 : ((I8 1 13) : Int32).toInt = (I 1 13).toInt := Eq.trans (congrArg Int32.toInt kq15) rfl
  have kz29 : ((I8 1 13) : Int32).toInt = (I 1 13).toInt := e28
  have b30 := Bd.o hB0 (show isO 112 97 12 = true from rfl) (show bnd 12 23 = some _ from rfl)
  have e31 : ((I8 97 23) : Int32).toInt = (I 97 23).toInt := Eq.trans (congrArg Int32.toInt kq16) rfl
  have kz32 : ((I8 97 23) : Int32).toInt = (I 97 23).toInt := e31
  refine ⟨vp_of (a := (v3.toInt + 1)) e1 (by omega) (by omega), ?_⟩
  have z33 := i32 (xs (Int32.toNatClampNeg (v3 + 1)))
  refine ⟨vp_of (a := (v3.toInt + 2)) e3 (by omega) (by omega), ?_⟩
  have z34 := i32 (xs (Int32.toNatClampNeg (v3 + 2)))
  refine ⟨vp_of (a := (v3.toInt + 3)) e5 (by omega) (by omega), ?_⟩
  have z35 := i32 (xs (Int32.toNatClampNeg (v3 + 3)))
  refine ⟨⟨hF0, rfl⟩, ?_⟩
  refine kp6 rfl hR0 rfl (kp4 rfl (kp5 rfl hR0 rfl (kp0 rfl (kp1 rfl (kp2 rfl (kp3 rfl (gp_X12_greedyAt hB10 hR0 (fun x36 y41 I37 J38 hB39 p40 kq45 kq44 kq43 kq42 k47 k46 k48 => ?_))))))))
  have i49 := i32 x36
  have e50 : ((I37 3 1) : Int32).toInt = (I 3 1).toInt := Eq.trans (congrArg Int32.toInt (Eq.trans kq42 kq13)) rfl
  have kz51 : ((I37 3 1) : Int32).toInt = (I 3 1).toInt := e50
  have e52 : ((I37 97 8) : Int32).toInt = (I 97 8).toInt := Eq.trans (congrArg Int32.toInt (Eq.trans kq43 kq14)) rfl
  have kz53 : ((I37 97 8) : Int32).toInt = (I 97 8).toInt := e52
  have e54 : ((I37 1 13) : Int32).toInt = (I 1 13).toInt := Eq.trans (congrArg Int32.toInt (Eq.trans kq44 kq15)) rfl
  have kz55 : ((I37 1 13) : Int32).toInt = (I 1 13).toInt := e54
  have e56 : ((I37 97 23) : Int32).toInt = (I 97 23).toInt := Eq.trans (congrArg Int32.toInt (Eq.trans kq45 kq16)) rfl
  have kz57 : ((I37 97 23) : Int32).toInt = (I 97 23).toInt := e56
  have hg58 : (x36 : Int32).toInt = (x7 : Int32).toInt := Eq.trans p40 (Eq.trans (Eq.symm (congrArg Int32.toInt (ga_eq _ _ _))) (Eq.symm p11))
  clear p11
  clear p40
  exact hN _ _ R hB39 hR0 hF0 ⟨(Eq.trans (e50) (Eq.trans hL0 (Eq.symm (e52)))), (Eq.trans (e54) (Eq.trans hL1 (Eq.symm (e56)))), (RT.kp (RT.kp hL2 k17 k18) k46 k47), ((congrFun k48 0).trans ((congrFun k19 0).trans hL3))⟩
set_option maxHeartbeats 2000000 in
theorem lc_34 {Q : Nat → Qt} {P : Kt} {L : Nat} {xs : Nat → Int32} (hc : Cl (AM 640) false true L xs 2 112 kL_law Q P) (hL : L ≤ 3584) {v3 : Int32} {I : Im} {J : Jm} {R : Rm} (hB0 : Bd I) (hR0 : RI R) (hF0 : Fl R) (hL0 : (I 3 1).toInt = (I 97 8).toInt) (hL1 : (I 1 13).toInt = (I 97 23).toInt) (hL2 : RT I) (hL3 : J 47 0 = 0) (h0 : 0 ≤ v3.toInt) (h7 : v3.toInt + 7 ≤ (L : Int)) (hN : ∀ (I : Im) (J : Jm) (R : Rm), Bd I → RI R → Fl R → RLk I J → P 1889 112 [(0, .ref 0), (1, .ref 1), (2, .ref 97), (3, .int v3)] [] I J R) : P 1412 112 [(0, .ref 0), (1, .ref 1), (2, .ref 97), (3, .int v3)] [] I J R := by
  have i_v3 := i32 v3
  refine ls_1412 hc v3 _ _ _ ?_
  have e1 : ((v3 + 1) : Int32).toInt = (v3.toInt) + (1) := ti_add rfl rfl (by omega)
  refine ⟨vp_of (a := (v3.toInt + 1)) e1 (by omega) (by omega), ?_⟩
  have z2 := i32 (xs (Int32.toNatClampNeg (v3 + 1)))
  have e3 : ((v3 + 2) : Int32).toInt = (v3.toInt) + (2) := ti_add rfl rfl (by omega)
  refine ⟨vp_of (a := (v3.toInt + 2)) e3 (by omega) (by omega), ?_⟩
  have z4 := i32 (xs (Int32.toNatClampNeg (v3 + 2)))
  have e5 : ((v3 + 3) : Int32).toInt = (v3.toInt) + (3) := ti_add rfl rfl (by omega)
  refine ⟨vp_of (a := (v3.toInt + 3)) e5 (by omega) (by omega), ?_⟩
  have z6 := i32 (xs (Int32.toNatClampNeg (v3 + 3)))
  have e7 : ((v3 + 4) : Int32).toInt = (v3.toInt) + (4) := ti_add rfl rfl (by omega)
  refine ⟨vp_of (a := (v3.toInt + 4)) e7 (by omega) (by omega), ?_⟩
  have z8 := i32 (xs (Int32.toNatClampNeg (v3 + 4)))
  refine ⟨⟨hF0, rfl⟩, ?_⟩
  refine kp6 rfl hR0 rfl (kp4 rfl (kp5 rfl hR0 rfl (kp0 rfl (kp1 rfl (kp2 rfl (kp3 rfl (sp_X11_slips hB0 hR0 (fun x9 y14 I10 J11 hB12 p13 kq18 kq17 kq16 kq15 k20 k19 k21 => ?_))))))))
  have i22 := i32 x9
  have b23 := Bd.o hB0 (show isO 112 3 6 = true from rfl) (show bnd 6 1 = some _ from rfl)
  have e24 : ((I10 3 1) : Int32).toInt = (I 3 1).toInt := Eq.trans (congrArg Int32.toInt kq15) rfl
  have kz25 : ((I10 3 1) : Int32).toInt = (I 3 1).toInt := e24
  have b26 := Bd.o hB0 (show isO 112 97 12 = true from rfl) (show bnd 12 8 = some _ from rfl)
  have e27 : ((I10 97 8) : Int32).toInt = (I 97 8).toInt := Eq.trans (congrArg Int32.toInt kq16) rfl
  have kz28 : ((I10 97 8) : Int32).toInt = (I 97 8).toInt := e27
  have b29 := Bd.o hB0 (show isO 112 1 11 = true from rfl) (show bnd 11 13 = some _ from rfl)
  have e30 : ((I10 1 13) : Int32).toInt = (I 1 13).toInt := Eq.trans (congrArg Int32.toInt kq17) rfl
  have kz31 : ((I10 1 13) : Int32).toInt = (I 1 13).toInt := e30
  have b32 := Bd.o hB0 (show isO 112 97 12 = true from rfl) (show bnd 12 23 = some _ from rfl)
  have e33 : ((I10 97 23) : Int32).toInt = (I 97 23).toInt := Eq.trans (congrArg Int32.toInt kq18) rfl
  have kz34 : ((I10 97 23) : Int32).toInt = (I 97 23).toInt := e33
  refine ⟨vp_of (a := (v3.toInt + 1)) e1 (by omega) (by omega), ?_⟩
  have z35 := i32 (xs (Int32.toNatClampNeg (v3 + 1)))
  refine ⟨vp_of (a := (v3.toInt + 2)) e3 (by omega) (by omega), ?_⟩
  have z36 := i32 (xs (Int32.toNatClampNeg (v3 + 2)))
  refine ⟨vp_of (a := (v3.toInt + 3)) e5 (by omega) (by omega), ?_⟩
  have z37 := i32 (xs (Int32.toNatClampNeg (v3 + 3)))
  refine ⟨vp_of (a := (v3.toInt + 4)) e7 (by omega) (by omega), ?_⟩
  have z38 := i32 (xs (Int32.toNatClampNeg (v3 + 4)))
  refine ⟨⟨hF0, rfl⟩, ?_⟩
  refine kp6 rfl hR0 rfl (kp4 rfl (kp5 rfl hR0 rfl (kp0 rfl (kp1 rfl (kp2 rfl (kp3 rfl (sp_X12_slips hB12 hR0 (fun x39 y44 I40 J41 hB42 p43 kq48 kq47 kq46 kq45 k50 k49 k51 => ?_))))))))
  have i52 := i32 x39
  have e53 : ((I40 3 1) : Int32).toInt = (I 3 1).toInt := Eq.trans (congrArg Int32.toInt (Eq.trans kq45 kq15)) rfl
  have kz54 : ((I40 3 1) : Int32).toInt = (I 3 1).toInt := e53
  have e55 : ((I40 97 8) : Int32).toInt = (I 97 8).toInt := Eq.trans (congrArg Int32.toInt (Eq.trans kq46 kq16)) rfl
  have kz56 : ((I40 97 8) : Int32).toInt = (I 97 8).toInt := e55
  have e57 : ((I40 1 13) : Int32).toInt = (I 1 13).toInt := Eq.trans (congrArg Int32.toInt (Eq.trans kq47 kq17)) rfl
  have kz58 : ((I40 1 13) : Int32).toInt = (I 1 13).toInt := e57
  have e59 : ((I40 97 23) : Int32).toInt = (I 97 23).toInt := Eq.trans (congrArg Int32.toInt (Eq.trans kq48 kq18)) rfl
  have kz60 : ((I40 97 23) : Int32).toInt = (I 97 23).toInt := e59
  exact hN _ _ R hB42 hR0 hF0 ⟨(Eq.trans (e53) (Eq.trans hL0 (Eq.symm (e55)))), (Eq.trans (e57) (Eq.trans hL1 (Eq.symm (e59)))), (RT.kp (RT.kp hL2 k19 k20) k49 k50), ((congrFun k51 0).trans ((congrFun k21 0).trans hL3))⟩
set_option maxHeartbeats 2000000 in
theorem lc_35 {Q : Nat → Qt} {P : Kt} {L : Nat} {xs : Nat → Int32} (hc : Cl (AM 640) false true L xs 2 112 kL_law Q P) (hL : L ≤ 3584) {v3 : Int32} {I : Im} {J : Jm} {R : Rm} (hB0 : Bd I) (hR0 : RI R) (hF0 : Fl R) (hL0 : (I 3 1).toInt = (I 97 8).toInt) (hL1 : (I 1 13).toInt = (I 97 23).toInt) (hL2 : RT I) (hL3 : J 47 0 = 0) (h0 : 0 ≤ v3.toInt) (h7 : v3.toInt + 7 ≤ (L : Int)) (hN : ∀ (I : Im) (J : Jm) (R : Rm), Bd I → RI R → Fl R → RLk I J → P 1889 112 [(0, .ref 0), (1, .ref 1), (2, .ref 97), (3, .int v3)] [] I J R) : P 1465 112 [(0, .ref 0), (1, .ref 1), (2, .ref 97), (3, .int v3)] [] I J R := by
  have i_v3 := i32 v3
  refine ls_1465 hc v3 _ _ _ ?_
  have e1 : ((v3 + 1) : Int32).toInt = (v3.toInt) + (1) := ti_add rfl rfl (by omega)
  refine ⟨vp_of (a := (v3.toInt + 1)) e1 (by omega) (by omega), ?_⟩
  have z2 := i32 (xs (Int32.toNatClampNeg (v3 + 1)))
  have e3 : ((v3 + 2) : Int32).toInt = (v3.toInt) + (2) := ti_add rfl rfl (by omega)
  refine ⟨vp_of (a := (v3.toInt + 2)) e3 (by omega) (by omega), ?_⟩
  have z4 := i32 (xs (Int32.toNatClampNeg (v3 + 2)))
  have e5 : ((v3 + 3) : Int32).toInt = (v3.toInt) + (3) := ti_add rfl rfl (by omega)
  refine ⟨vp_of (a := (v3.toInt + 3)) e5 (by omega) (by omega), ?_⟩
  have z6 := i32 (xs (Int32.toNatClampNeg (v3 + 3)))
  have e7 : ((v3 + 4) : Int32).toInt = (v3.toInt) + (4) := ti_add rfl rfl (by omega)
  refine ⟨vp_of (a := (v3.toInt + 4)) e7 (by omega) (by omega), ?_⟩
  have z8 := i32 (xs (Int32.toNatClampNeg (v3 + 4)))
  have e9 : ((v3 + 5) : Int32).toInt = (v3.toInt) + (5) := ti_add rfl rfl (by omega)
  refine ⟨vp_of (a := (v3.toInt + 5)) e9 (by omega) (by omega), ?_⟩
  have z10 := i32 (xs (Int32.toNatClampNeg (v3 + 5)))
  have e11 : ((v3 + 6) : Int32).toInt = (v3.toInt) + (6) := ti_add rfl rfl (by omega)
  refine ⟨vp_of (a := (v3.toInt + 6)) e11 (by omega) (by omega), ?_⟩
  have z12 := i32 (xs (Int32.toNatClampNeg (v3 + 6)))
  refine ⟨⟨hF0, rfl⟩, ?_⟩
  refine kp6 rfl hR0 rfl (kp4 rfl (kp5 rfl hR0 rfl (kp0 rfl (kp1 rfl (kp2 rfl (kp3 rfl (sp_X11_slipAt hB0 hR0 (fun x13 y18 I14 J15 hB16 p17 kq22 kq21 kq20 kq19 k24 k23 k25 => ?_))))))))
  have i26 := i32 x13
  have b27 := Bd.o hB0 (show isO 112 3 6 = true from rfl) (show bnd 6 1 = some _ from rfl)
  have e28 : ((I14 3 1) : Int32).toInt = (I 3 1).toInt := Eq.trans (congrArg Int32.toInt kq19) rfl
  have kz29 : ((I14 3 1) : Int32).toInt = (I 3 1).toInt := e28
  have b30 := Bd.o hB0 (show isO 112 97 12 = true from rfl) (show bnd 12 8 = some _ from rfl)
  have e31 : ((I14 97 8) : Int32).toInt = (I 97 8).toInt := Eq.trans (congrArg Int32.toInt kq20) rfl
  have kz32 : ((I14 97 8) : Int32).toInt = (I 97 8).toInt := e31
  have b33 := Bd.o hB0 (show isO 112 1 11 = true from rfl) (show bnd 11 13 = some _ from rfl)
  have e34 : ((I14 1 13) : Int32).toInt = (I 1 13).toInt := Eq.trans (congrArg Int32.toInt kq21) rfl
  have kz35 : ((I14 1 13) : Int32).toInt = (I 1 13).toInt := e34
  have b36 := Bd.o hB0 (show isO 112 97 12 = true from rfl) (show bnd 12 23 = some _ from rfl)
  have e37 : ((I14 97 23) : Int32).toInt = (I 97 23).toInt := Eq.trans (congrArg Int32.toInt kq22) rfl
  have kz38 : ((I14 97 23) : Int32).toInt = (I 97 23).toInt := e37
  refine ⟨vp_of (a := (v3.toInt + 1)) e1 (by omega) (by omega), ?_⟩
  have z39 := i32 (xs (Int32.toNatClampNeg (v3 + 1)))
  refine ⟨vp_of (a := (v3.toInt + 2)) e3 (by omega) (by omega), ?_⟩
  have z40 := i32 (xs (Int32.toNatClampNeg (v3 + 2)))
  refine ⟨vp_of (a := (v3.toInt + 3)) e5 (by omega) (by omega), ?_⟩
  have z41 := i32 (xs (Int32.toNatClampNeg (v3 + 3)))
  refine ⟨vp_of (a := (v3.toInt + 4)) e7 (by omega) (by omega), ?_⟩
  have z42 := i32 (xs (Int32.toNatClampNeg (v3 + 4)))
  refine ⟨vp_of (a := (v3.toInt + 5)) e9 (by omega) (by omega), ?_⟩
  have z43 := i32 (xs (Int32.toNatClampNeg (v3 + 5)))
  refine ⟨vp_of (a := (v3.toInt + 6)) e11 (by omega) (by omega), ?_⟩
  have z44 := i32 (xs (Int32.toNatClampNeg (v3 + 6)))
  refine ⟨⟨hF0, rfl⟩, ?_⟩
  refine kp6 rfl hR0 rfl (kp4 rfl (kp5 rfl hR0 rfl (kp0 rfl (kp1 rfl (kp2 rfl (kp3 rfl (sp_X12_slipAt hB16 hR0 (fun x45 y50 I46 J47 hB48 p49 kq54 kq53 kq52 kq51 k56 k55 k57 => ?_))))))))
  have i58 := i32 x45
  have e59 : ((I46 3 1) : Int32).toInt = (I 3 1).toInt := Eq.trans (congrArg Int32.toInt (Eq.trans kq51 kq19)) rfl
  have kz60 : ((I46 3 1) : Int32).toInt = (I 3 1).toInt := e59
  have e61 : ((I46 97 8) : Int32).toInt = (I 97 8).toInt := Eq.trans (congrArg Int32.toInt (Eq.trans kq52 kq20)) rfl
  have kz62 : ((I46 97 8) : Int32).toInt = (I 97 8).toInt := e61
  have e63 : ((I46 1 13) : Int32).toInt = (I 1 13).toInt := Eq.trans (congrArg Int32.toInt (Eq.trans kq53 kq21)) rfl
  have kz64 : ((I46 1 13) : Int32).toInt = (I 1 13).toInt := e63
  have e65 : ((I46 97 23) : Int32).toInt = (I 97 23).toInt := Eq.trans (congrArg Int32.toInt (Eq.trans kq54 kq22)) rfl
  have kz66 : ((I46 97 23) : Int32).toInt = (I 97 23).toInt := e65
  exact hN _ _ R hB48 hR0 hF0 ⟨(Eq.trans (e59) (Eq.trans hL0 (Eq.symm (e61)))), (Eq.trans (e63) (Eq.trans hL1 (Eq.symm (e65)))), (RT.kp (RT.kp hL2 k23 k24) k55 k56), ((congrFun k57 0).trans ((congrFun k25 0).trans hL3))⟩
set_option maxHeartbeats 2000000 in
theorem lc_36 {Q : Nat → Qt} {P : Kt} {L : Nat} {xs : Nat → Int32} (hc : Cl (AM 640) false true L xs 2 112 kL_law Q P) (hL : L ≤ 3584) {v3 : Int32} {I : Im} {J : Jm} {R : Rm} (hB0 : Bd I) (hR0 : RI R) (hF0 : Fl R) (hL0 : (I 3 1).toInt = (I 97 8).toInt) (hL1 : (I 1 13).toInt = (I 97 23).toInt) (hL2 : RT I) (hL3 : J 47 0 = 0) (h0 : 0 ≤ v3.toInt) (h7 : v3.toInt + 7 ≤ (L : Int)) (hN : ∀ (I : Im) (J : Jm) (R : Rm), Bd I → RI R → Fl R → RLk I J → P 1889 112 [(0, .ref 0), (1, .ref 1), (2, .ref 97), (3, .int v3)] [] I J R) : P 1540 112 [(0, .ref 0), (1, .ref 1), (2, .ref 97), (3, .int v3)] [] I J R := by
  have i_v3 := i32 v3
  refine ls_1540 hc v3 _ _ _ ?_
  have e1 : ((v3 + 1) : Int32).toInt = (v3.toInt) + (1) := ti_add rfl rfl (by omega)
  refine ⟨vp_of (a := (v3.toInt + 1)) e1 (by omega) (by omega), ?_⟩
  have z2 := i32 (xs (Int32.toNatClampNeg (v3 + 1)))
  refine ⟨⟨hF0, rfl⟩, ?_⟩
  refine kp6 rfl hR0 rfl (kp4 rfl (kp5 rfl hR0 rfl (kp0 rfl (kp1 rfl (kp2 rfl (kp3 rfl (sp_X11_reach hB0 hR0 (fun x3 y8 I4 J5 hB6 p7 kq12 kq11 kq10 kq9 k14 k13 k15 => ?_))))))))
  have i16 := i32 x3
  have b17 := Bd.o hB0 (show isO 112 3 6 = true from rfl) (show bnd 6 1 = some _ from rfl)
  have e18 : ((I4 3 1) : Int32).toInt = (I 3 1).toInt := Eq.trans (congrArg Int32.toInt kq9) rfl
  have kz19 : ((I4 3 1) : Int32).toInt = (I 3 1).toInt := e18
  have b20 := Bd.o hB0 (show isO 112 97 12 = true from rfl) (show bnd 12 8 = some _ from rfl)
  have e21 : ((I4 97 8) : Int32).toInt = (I 97 8).toInt := Eq.trans (congrArg Int32.toInt kq10) rfl
  have kz22 : ((I4 97 8) : Int32).toInt = (I 97 8).toInt := e21
  have b23 := Bd.o hB0 (show isO 112 1 11 = true from rfl) (show bnd 11 13 = some _ from rfl)
  have e24 : ((I4 1 13) : Int32).toInt = (I 1 13).toInt := Eq.trans (congrArg Int32.toInt kq11) rfl
  have kz25 : ((I4 1 13) : Int32).toInt = (I 1 13).toInt := e24
  have b26 := Bd.o hB0 (show isO 112 97 12 = true from rfl) (show bnd 12 23 = some _ from rfl)
  have e27 : ((I4 97 23) : Int32).toInt = (I 97 23).toInt := Eq.trans (congrArg Int32.toInt kq12) rfl
  have kz28 : ((I4 97 23) : Int32).toInt = (I 97 23).toInt := e27
  refine ⟨vp_of (a := (v3.toInt + 1)) e1 (by omega) (by omega), ?_⟩
  have z29 := i32 (xs (Int32.toNatClampNeg (v3 + 1)))
  refine ⟨⟨hF0, rfl⟩, ?_⟩
  refine kp6 rfl hR0 rfl (kp4 rfl (kp5 rfl hR0 rfl (kp0 rfl (kp1 rfl (kp2 rfl (kp3 rfl (sp_X12_reach hB6 hR0 (fun x30 y35 I31 J32 hB33 p34 kq39 kq38 kq37 kq36 k41 k40 k42 => ?_))))))))
  have i43 := i32 x30
  have e44 : ((I31 3 1) : Int32).toInt = (I 3 1).toInt := Eq.trans (congrArg Int32.toInt (Eq.trans kq36 kq9)) rfl
  have kz45 : ((I31 3 1) : Int32).toInt = (I 3 1).toInt := e44
  have e46 : ((I31 97 8) : Int32).toInt = (I 97 8).toInt := Eq.trans (congrArg Int32.toInt (Eq.trans kq37 kq10)) rfl
  have kz47 : ((I31 97 8) : Int32).toInt = (I 97 8).toInt := e46
  have e48 : ((I31 1 13) : Int32).toInt = (I 1 13).toInt := Eq.trans (congrArg Int32.toInt (Eq.trans kq38 kq11)) rfl
  have kz49 : ((I31 1 13) : Int32).toInt = (I 1 13).toInt := e48
  have e50 : ((I31 97 23) : Int32).toInt = (I 97 23).toInt := Eq.trans (congrArg Int32.toInt (Eq.trans kq39 kq12)) rfl
  have kz51 : ((I31 97 23) : Int32).toInt = (I 97 23).toInt := e50
  exact hN _ _ R hB33 hR0 hF0 ⟨(Eq.trans (e44) (Eq.trans hL0 (Eq.symm (e46)))), (Eq.trans (e48) (Eq.trans hL1 (Eq.symm (e50)))), (RT.kp (RT.kp hL2 k13 k14) k40 k41), ((congrFun k42 0).trans ((congrFun k15 0).trans hL3))⟩
set_option maxHeartbeats 2000000 in
theorem lc_37 {Q : Nat → Qt} {P : Kt} {L : Nat} {xs : Nat → Int32} (hc : Cl (AM 640) false true L xs 2 112 kL_law Q P) (hL : L ≤ 3584) {v3 : Int32} {I : Im} {J : Jm} {R : Rm} (hB0 : Bd I) (hR0 : RI R) (hF0 : Fl R) (hL0 : (I 3 1).toInt = (I 97 8).toInt) (hL1 : (I 1 13).toInt = (I 97 23).toInt) (hL2 : RT I) (hL3 : J 47 0 = 0) (h0 : 0 ≤ v3.toInt) (h7 : v3.toInt + 7 ≤ (L : Int)) (hN : ∀ (I : Im) (J : Jm) (R : Rm), Bd I → RI R → Fl R → RLk I J → P 1889 112 [(0, .ref 0), (1, .ref 1), (2, .ref 97), (3, .int v3)] [] I J R) : P 1563 112 [(0, .ref 0), (1, .ref 1), (2, .ref 97), (3, .int v3)] [] I J R := by
  have i_v3 := i32 v3
  refine ls_1563 hc v3 _ _ _ ?_
  have e1 : ((v3 + 1) : Int32).toInt = (v3.toInt) + (1) := ti_add rfl rfl (by omega)
  refine ⟨vp_of (a := (v3.toInt + 1)) e1 (by omega) (by omega), ?_⟩
  have z2 := i32 (xs (Int32.toNatClampNeg (v3 + 1)))
  have e3 : ((v3 + 2) : Int32).toInt = (v3.toInt) + (2) := ti_add rfl rfl (by omega)
  refine ⟨vp_of (a := (v3.toInt + 2)) e3 (by omega) (by omega), ?_⟩
  have z4 := i32 (xs (Int32.toNatClampNeg (v3 + 2)))
  refine ⟨⟨hF0, rfl⟩, ?_⟩
  refine kp6 rfl hR0 rfl (kp4 rfl (kp5 rfl hR0 rfl (kp0 rfl (kp1 rfl (kp2 rfl (kp3 rfl (sp_X11_reachAt hB0 hR0 (fun x5 y10 I6 J7 hB8 p9 kq14 kq13 kq12 kq11 k16 k15 k17 => ?_))))))))
  have i18 := i32 x5
  have b19 := Bd.o hB0 (show isO 112 3 6 = true from rfl) (show bnd 6 1 = some _ from rfl)
  have e20 : ((I6 3 1) : Int32).toInt = (I 3 1).toInt := Eq.trans (congrArg Int32.toInt kq11) rfl
  have kz21 : ((I6 3 1) : Int32).toInt = (I 3 1).toInt := e20
  have b22 := Bd.o hB0 (show isO 112 97 12 = true from rfl) (show bnd 12 8 = some _ from rfl)
  have e23 : ((I6 97 8) : Int32).toInt = (I 97 8).toInt := Eq.trans (congrArg Int32.toInt kq12) rfl
  have kz24 : ((I6 97 8) : Int32).toInt = (I 97 8).toInt := e23
  have b25 := Bd.o hB0 (show isO 112 1 11 = true from rfl) (show bnd 11 13 = some _ from rfl)
  have e26 : ((I6 1 13) : Int32).toInt = (I 1 13).toInt := Eq.trans (congrArg Int32.toInt kq13) rfl
  have kz27 : ((I6 1 13) : Int32).toInt = (I 1 13).toInt := e26
  have b28 := Bd.o hB0 (show isO 112 97 12 = true from rfl) (show bnd 12 23 = some _ from rfl)
  have e29 : ((I6 97 23) : Int32).toInt = (I 97 23).toInt := Eq.trans (congrArg Int32.toInt kq14) rfl
  have kz30 : ((I6 97 23) : Int32).toInt = (I 97 23).toInt := e29
  refine ⟨vp_of (a := (v3.toInt + 1)) e1 (by omega) (by omega), ?_⟩
  have z31 := i32 (xs (Int32.toNatClampNeg (v3 + 1)))
  refine ⟨vp_of (a := (v3.toInt + 2)) e3 (by omega) (by omega), ?_⟩
  have z32 := i32 (xs (Int32.toNatClampNeg (v3 + 2)))
  refine ⟨⟨hF0, rfl⟩, ?_⟩
  refine kp6 rfl hR0 rfl (kp4 rfl (kp5 rfl hR0 rfl (kp0 rfl (kp1 rfl (kp2 rfl (kp3 rfl (sp_X12_reachAt hB8 hR0 (fun x33 y38 I34 J35 hB36 p37 kq42 kq41 kq40 kq39 k44 k43 k45 => ?_))))))))
  have i46 := i32 x33
  have e47 : ((I34 3 1) : Int32).toInt = (I 3 1).toInt := Eq.trans (congrArg Int32.toInt (Eq.trans kq39 kq11)) rfl
  have kz48 : ((I34 3 1) : Int32).toInt = (I 3 1).toInt := e47
  have e49 : ((I34 97 8) : Int32).toInt = (I 97 8).toInt := Eq.trans (congrArg Int32.toInt (Eq.trans kq40 kq12)) rfl
  have kz50 : ((I34 97 8) : Int32).toInt = (I 97 8).toInt := e49
  have e51 : ((I34 1 13) : Int32).toInt = (I 1 13).toInt := Eq.trans (congrArg Int32.toInt (Eq.trans kq41 kq13)) rfl
  have kz52 : ((I34 1 13) : Int32).toInt = (I 1 13).toInt := e51
  have e53 : ((I34 97 23) : Int32).toInt = (I 97 23).toInt := Eq.trans (congrArg Int32.toInt (Eq.trans kq42 kq14)) rfl
  have kz54 : ((I34 97 23) : Int32).toInt = (I 97 23).toInt := e53
  exact hN _ _ R hB36 hR0 hF0 ⟨(Eq.trans (e47) (Eq.trans hL0 (Eq.symm (e49)))), (Eq.trans (e51) (Eq.trans hL1 (Eq.symm (e53)))), (RT.kp (RT.kp hL2 k15 k16) k43 k44), ((congrFun k45 0).trans ((congrFun k17 0).trans hL3))⟩
set_option maxHeartbeats 2000000 in
theorem lc_38 {Q : Nat → Qt} {P : Kt} {L : Nat} {xs : Nat → Int32} (hc : Cl (AM 640) false true L xs 2 112 kL_law Q P) (hL : L ≤ 3584) {v3 : Int32} {I : Im} {J : Jm} {R : Rm} (hB0 : Bd I) (hR0 : RI R) (hF0 : Fl R) (hL0 : (I 3 1).toInt = (I 97 8).toInt) (hL1 : (I 1 13).toInt = (I 97 23).toInt) (hL2 : RT I) (hL3 : J 47 0 = 0) (h0 : 0 ≤ v3.toInt) (h7 : v3.toInt + 7 ≤ (L : Int)) (hN : ∀ (I : Im) (J : Jm) (R : Rm), Bd I → RI R → Fl R → RLk I J → P 1889 112 [(0, .ref 0), (1, .ref 1), (2, .ref 97), (3, .int v3)] [] I J R) : P 1596 112 [(0, .ref 0), (1, .ref 1), (2, .ref 97), (3, .int v3)] [] I J R := by
  have i_v3 := i32 v3
  refine ls_1596 hc v3 _ _ _ ?_
  have e1 : ((v3 + 1) : Int32).toInt = (v3.toInt) + (1) := ti_add rfl rfl (by omega)
  refine ⟨vp_of (a := (v3.toInt + 1)) e1 (by omega) (by omega), ?_⟩
  have z2 := i32 (xs (Int32.toNatClampNeg (v3 + 1)))
  refine ⟨⟨hF0, rfl⟩, ?_⟩
  refine kp6 rfl hR0 rfl (kp4 rfl (kp5 rfl hR0 rfl (kp0 rfl (kp1 rfl (kp2 rfl (kp3 rfl (sp_X11_fill hB0 hR0 (fun x3 y8 I4 J5 hB6 p7 kq12 kq11 kq10 kq9 k14 k13 k15 => ?_))))))))
  have i16 := i32 x3
  have b17 := Bd.o hB0 (show isO 112 3 6 = true from rfl) (show bnd 6 1 = some _ from rfl)
  have e18 : ((I4 3 1) : Int32).toInt = (I 3 1).toInt := Eq.trans (congrArg Int32.toInt kq9) rfl
  have kz19 : ((I4 3 1) : Int32).toInt = (I 3 1).toInt := e18
  have b20 := Bd.o hB0 (show isO 112 97 12 = true from rfl) (show bnd 12 8 = some _ from rfl)
  have e21 : ((I4 97 8) : Int32).toInt = (I 97 8).toInt := Eq.trans (congrArg Int32.toInt kq10) rfl
  have kz22 : ((I4 97 8) : Int32).toInt = (I 97 8).toInt := e21
  have b23 := Bd.o hB0 (show isO 112 1 11 = true from rfl) (show bnd 11 13 = some _ from rfl)
  have e24 : ((I4 1 13) : Int32).toInt = (I 1 13).toInt := Eq.trans (congrArg Int32.toInt kq11) rfl
  have kz25 : ((I4 1 13) : Int32).toInt = (I 1 13).toInt := e24
  have b26 := Bd.o hB0 (show isO 112 97 12 = true from rfl) (show bnd 12 23 = some _ from rfl)
  have e27 : ((I4 97 23) : Int32).toInt = (I 97 23).toInt := Eq.trans (congrArg Int32.toInt kq12) rfl
  have kz28 : ((I4 97 23) : Int32).toInt = (I 97 23).toInt := e27
  refine ⟨vp_of (a := (v3.toInt + 1)) e1 (by omega) (by omega), ?_⟩
  have z29 := i32 (xs (Int32.toNatClampNeg (v3 + 1)))
  refine ⟨⟨hF0, rfl⟩, ?_⟩
  refine kp6 rfl hR0 rfl (kp4 rfl (kp5 rfl hR0 rfl (kp0 rfl (kp1 rfl (kp2 rfl (kp3 rfl (sp_X12_fill hB6 hR0 (fun x30 y35 I31 J32 hB33 p34 kq39 kq38 kq37 kq36 k41 k40 k42 => ?_))))))))
  have i43 := i32 x30
  have e44 : ((I31 3 1) : Int32).toInt = (I 3 1).toInt := Eq.trans (congrArg Int32.toInt (Eq.trans kq36 kq9)) rfl
  have kz45 : ((I31 3 1) : Int32).toInt = (I 3 1).toInt := e44
  have e46 : ((I31 97 8) : Int32).toInt = (I 97 8).toInt := Eq.trans (congrArg Int32.toInt (Eq.trans kq37 kq10)) rfl
  have kz47 : ((I31 97 8) : Int32).toInt = (I 97 8).toInt := e46
  have e48 : ((I31 1 13) : Int32).toInt = (I 1 13).toInt := Eq.trans (congrArg Int32.toInt (Eq.trans kq38 kq11)) rfl
  have kz49 : ((I31 1 13) : Int32).toInt = (I 1 13).toInt := e48
  have e50 : ((I31 97 23) : Int32).toInt = (I 97 23).toInt := Eq.trans (congrArg Int32.toInt (Eq.trans kq39 kq12)) rfl
  have kz51 : ((I31 97 23) : Int32).toInt = (I 97 23).toInt := e50
  exact hN _ _ R hB33 hR0 hF0 ⟨(Eq.trans (e44) (Eq.trans hL0 (Eq.symm (e46)))), (Eq.trans (e48) (Eq.trans hL1 (Eq.symm (e50)))), (RT.kp (RT.kp hL2 k13 k14) k40 k41), ((congrFun k42 0).trans ((congrFun k15 0).trans hL3))⟩
set_option maxHeartbeats 2000000 in
theorem lc_39 {Q : Nat → Qt} {P : Kt} {L : Nat} {xs : Nat → Int32} (hc : Cl (AM 640) false true L xs 2 112 kL_law Q P) (hL : L ≤ 3584) {v3 : Int32} {I : Im} {J : Jm} {R : Rm} (hB0 : Bd I) (hR0 : RI R) (hF0 : Fl R) (hL0 : (I 3 1).toInt = (I 97 8).toInt) (hL1 : (I 1 13).toInt = (I 97 23).toInt) (hL2 : RT I) (hL3 : J 47 0 = 0) (h0 : 0 ≤ v3.toInt) (h7 : v3.toInt + 7 ≤ (L : Int)) (hN : ∀ (I : Im) (J : Jm) (R : Rm), Bd I → RI R → Fl R → RLk I J → P 1889 112 [(0, .ref 0), (1, .ref 1), (2, .ref 97), (3, .int v3)] [] I J R) : P 1619 112 [(0, .ref 0), (1, .ref 1), (2, .ref 97), (3, .int v3)] [] I J R := by
  have i_v3 := i32 v3
  refine ls_1619 hc v3 _ _ _ ?_
  have e1 : ((v3 + 1) : Int32).toInt = (v3.toInt) + (1) := ti_add rfl rfl (by omega)
  refine ⟨vp_of (a := (v3.toInt + 1)) e1 (by omega) (by omega), ?_⟩
  have z2 := i32 (xs (Int32.toNatClampNeg (v3 + 1)))
  have e3 : ((v3 + 2) : Int32).toInt = (v3.toInt) + (2) := ti_add rfl rfl (by omega)
  refine ⟨vp_of (a := (v3.toInt + 2)) e3 (by omega) (by omega), ?_⟩
  have z4 := i32 (xs (Int32.toNatClampNeg (v3 + 2)))
  refine ⟨⟨hF0, rfl⟩, ?_⟩
  refine kp6 rfl hR0 rfl (kp4 rfl (kp5 rfl hR0 rfl (kp0 rfl (kp1 rfl (kp2 rfl (kp3 rfl (sp_X11_fillAt hB0 hR0 (fun x5 y10 I6 J7 hB8 p9 kq14 kq13 kq12 kq11 k16 k15 k17 => ?_))))))))
  have i18 := i32 x5
  have b19 := Bd.o hB0 (show isO 112 3 6 = true from rfl) (show bnd 6 1 = some _ from rfl)
  have e20 : ((I6 3 1) : Int32).toInt = (I 3 1).toInt := Eq.trans (congrArg Int32.toInt kq11) rfl
  have kz21 : ((I6 3 1) : Int32).toInt = (I 3 1).toInt := e20
  have b22 := Bd.o hB0 (show isO 112 97 12 = true from rfl) (show bnd 12 8 = some _ from rfl)
  have e23 : ((I6 97 8) : Int32).toInt = (I 97 8).toInt := Eq.trans (congrArg Int32.toInt kq12) rfl
  have kz24 : ((I6 97 8) : Int32).toInt = (I 97 8).toInt := e23
  have b25 := Bd.o hB0 (show isO 112 1 11 = true from rfl) (show bnd 11 13 = some _ from rfl)
  have e26 : ((I6 1 13) : Int32).toInt = (I 1 13).toInt := Eq.trans (congrArg Int32.toInt kq13) rfl
  have kz27 : ((I6 1 13) : Int32).toInt = (I 1 13).toInt := e26
  have b28 := Bd.o hB0 (show isO 112 97 12 = true from rfl) (show bnd 12 23 = some _ from rfl)
  have e29 : ((I6 97 23) : Int32).toInt = (I 97 23).toInt := Eq.trans (congrArg Int32.toInt kq14) rfl
  have kz30 : ((I6 97 23) : Int32).toInt = (I 97 23).toInt := e29
  refine ⟨vp_of (a := (v3.toInt + 1)) e1 (by omega) (by omega), ?_⟩
  have z31 := i32 (xs (Int32.toNatClampNeg (v3 + 1)))
  refine ⟨vp_of (a := (v3.toInt + 2)) e3 (by omega) (by omega), ?_⟩
  have z32 := i32 (xs (Int32.toNatClampNeg (v3 + 2)))
  refine ⟨⟨hF0, rfl⟩, ?_⟩
  refine kp6 rfl hR0 rfl (kp4 rfl (kp5 rfl hR0 rfl (kp0 rfl (kp1 rfl (kp2 rfl (kp3 rfl (sp_X12_fillAt hB8 hR0 (fun x33 y38 I34 J35 hB36 p37 kq42 kq41 kq40 kq39 k44 k43 k45 => ?_))))))))
  have i46 := i32 x33
  have e47 : ((I34 3 1) : Int32).toInt = (I 3 1).toInt := Eq.trans (congrArg Int32.toInt (Eq.trans kq39 kq11)) rfl
  have kz48 : ((I34 3 1) : Int32).toInt = (I 3 1).toInt := e47
  have e49 : ((I34 97 8) : Int32).toInt = (I 97 8).toInt := Eq.trans (congrArg Int32.toInt (Eq.trans kq40 kq12)) rfl
  have kz50 : ((I34 97 8) : Int32).toInt = (I 97 8).toInt := e49
  have e51 : ((I34 1 13) : Int32).toInt = (I 1 13).toInt := Eq.trans (congrArg Int32.toInt (Eq.trans kq41 kq13)) rfl
  have kz52 : ((I34 1 13) : Int32).toInt = (I 1 13).toInt := e51
  have e53 : ((I34 97 23) : Int32).toInt = (I 97 23).toInt := Eq.trans (congrArg Int32.toInt (Eq.trans kq42 kq14)) rfl
  have kz54 : ((I34 97 23) : Int32).toInt = (I 97 23).toInt := e53
  exact hN _ _ R hB36 hR0 hF0 ⟨(Eq.trans (e47) (Eq.trans hL0 (Eq.symm (e49)))), (Eq.trans (e51) (Eq.trans hL1 (Eq.symm (e53)))), (RT.kp (RT.kp hL2 k15 k16) k43 k44), ((congrFun k45 0).trans ((congrFun k17 0).trans hL3))⟩
set_option maxHeartbeats 2000000 in
theorem lc_40 {Q : Nat → Qt} {P : Kt} {L : Nat} {xs : Nat → Int32} (hc : Cl (AM 640) false true L xs 2 112 kL_law Q P) (hL : L ≤ 3584) {v3 : Int32} {I : Im} {J : Jm} {R : Rm} (hB0 : Bd I) (hR0 : RI R) (hF0 : Fl R) (hL0 : (I 3 1).toInt = (I 97 8).toInt) (hL1 : (I 1 13).toInt = (I 97 23).toInt) (hL2 : RT I) (hL3 : J 47 0 = 0) (h0 : 0 ≤ v3.toInt) (h7 : v3.toInt + 7 ≤ (L : Int)) (hN : ∀ (I : Im) (J : Jm) (R : Rm), Bd I → RI R → Fl R → RLk I J → P 1889 112 [(0, .ref 0), (1, .ref 1), (2, .ref 97), (3, .int v3)] [] I J R) : P 1652 112 [(0, .ref 0), (1, .ref 1), (2, .ref 97), (3, .int v3)] [] I J R := by
  have i_v3 := i32 v3
  refine ls_1652 hc v3 _ _ _ ?_
  have e1 : ((v3 + 1) : Int32).toInt = (v3.toInt) + (1) := ti_add rfl rfl (by omega)
  refine ⟨vp_of (a := (v3.toInt + 1)) e1 (by omega) (by omega), ?_⟩
  have z2 := i32 (xs (Int32.toNatClampNeg (v3 + 1)))
  refine ⟨⟨hF0, rfl⟩, ?_⟩
  refine kp4 rfl (kp5 rfl hR0 rfl (kp0 rfl (kp1 rfl (kp2 rfl (kp3 rfl (gx_X11_plate hB0 hR0 hL3 (fun x3 y8 I4 J5 hB6 p7 kq12 kq11 kq10 kq9 k14 k13 => ?_)))))))
  have i15 := i32 x3
  have b16 := Bd.o hB0 (show isO 112 3 6 = true from rfl) (show bnd 6 1 = some _ from rfl)
  have e17 : ((I4 3 1) : Int32).toInt = (I 3 1).toInt := Eq.trans (congrArg Int32.toInt kq9) rfl
  have kz18 : ((I4 3 1) : Int32).toInt = (I 3 1).toInt := e17
  have b19 := Bd.o hB0 (show isO 112 97 12 = true from rfl) (show bnd 12 8 = some _ from rfl)
  have e20 : ((I4 97 8) : Int32).toInt = (I 97 8).toInt := Eq.trans (congrArg Int32.toInt kq10) rfl
  have kz21 : ((I4 97 8) : Int32).toInt = (I 97 8).toInt := e20
  have b22 := Bd.o hB0 (show isO 112 1 11 = true from rfl) (show bnd 11 13 = some _ from rfl)
  have e23 : ((I4 1 13) : Int32).toInt = (I 1 13).toInt := Eq.trans (congrArg Int32.toInt kq11) rfl
  have kz24 : ((I4 1 13) : Int32).toInt = (I 1 13).toInt := e23
  have b25 := Bd.o hB0 (show isO 112 97 12 = true from rfl) (show bnd 12 23 = some _ from rfl)
  have e26 : ((I4 97 23) : Int32).toInt = (I 97 23).toInt := Eq.trans (congrArg Int32.toInt kq12) rfl
  have kz27 : ((I4 97 23) : Int32).toInt = (I 97 23).toInt := e26
  refine ⟨vp_of (a := (v3.toInt + 1)) e1 (by omega) (by omega), ?_⟩
  have z28 := i32 (xs (Int32.toNatClampNeg (v3 + 1)))
  refine ⟨⟨hF0, rfl⟩, ?_⟩
  refine kp6 rfl hR0 rfl (kp4 rfl (kp5 rfl hR0 rfl (kp0 rfl (kp1 rfl (kp2 rfl (kp3 rfl (gx_X12_plate hB6 hR0 (fun x29 y34 I30 J31 hB32 p33 kq38 kq37 kq36 kq35 k40 k39 k41 => ?_))))))))
  have i42 := i32 x29
  have e43 : ((I30 3 1) : Int32).toInt = (I 3 1).toInt := Eq.trans (congrArg Int32.toInt (Eq.trans kq35 kq9)) rfl
  have kz44 : ((I30 3 1) : Int32).toInt = (I 3 1).toInt := e43
  have e45 : ((I30 97 8) : Int32).toInt = (I 97 8).toInt := Eq.trans (congrArg Int32.toInt (Eq.trans kq36 kq10)) rfl
  have kz46 : ((I30 97 8) : Int32).toInt = (I 97 8).toInt := e45
  have e47 : ((I30 1 13) : Int32).toInt = (I 1 13).toInt := Eq.trans (congrArg Int32.toInt (Eq.trans kq37 kq11)) rfl
  have kz48 : ((I30 1 13) : Int32).toInt = (I 1 13).toInt := e47
  have e49 : ((I30 97 23) : Int32).toInt = (I 97 23).toInt := Eq.trans (congrArg Int32.toInt (Eq.trans kq38 kq12)) rfl
  have kz50 : ((I30 97 23) : Int32).toInt = (I 97 23).toInt := e49
  have hg51 : (x29 : Int32).toInt = (x3 : Int32).toInt := PL1.eq p33 p7.2
  exact hN _ _ R hB32 hR0 hF0 ⟨(Eq.trans (e43) (Eq.trans hL0 (Eq.symm (e45)))), (Eq.trans (e47) (Eq.trans hL1 (Eq.symm (e49)))), (RT.kp (RT.kp hL2 k13 k14) k39 k40), ((congrFun k41 0).trans (p7.1))⟩
set_option maxHeartbeats 2000000 in
theorem lc_41 {Q : Nat → Qt} {P : Kt} {L : Nat} {xs : Nat → Int32} (hc : Cl (AM 640) false true L xs 2 112 kL_law Q P) (hL : L ≤ 3584) {v3 : Int32} {I : Im} {J : Jm} {R : Rm} (hB0 : Bd I) (hR0 : RI R) (hF0 : Fl R) (hL0 : (I 3 1).toInt = (I 97 8).toInt) (hL1 : (I 1 13).toInt = (I 97 23).toInt) (hL2 : RT I) (hL3 : J 47 0 = 0) (h0 : 0 ≤ v3.toInt) (h7 : v3.toInt + 7 ≤ (L : Int)) (hN : ∀ (I : Im) (J : Jm) (R : Rm), Bd I → RI R → Fl R → RLk I J → P 1889 112 [(0, .ref 0), (1, .ref 1), (2, .ref 97), (3, .int v3)] [] I J R) : P 1675 112 [(0, .ref 0), (1, .ref 1), (2, .ref 97), (3, .int v3)] [] I J R := by
  have i_v3 := i32 v3
  refine ls_1675 hc v3 _ _ _ ?_
  have e1 : ((v3 + 1) : Int32).toInt = (v3.toInt) + (1) := ti_add rfl rfl (by omega)
  refine ⟨vp_of (a := (v3.toInt + 1)) e1 (by omega) (by omega), ?_⟩
  have z2 := i32 (xs (Int32.toNatClampNeg (v3 + 1)))
  refine ⟨⟨hF0, rfl⟩, ?_⟩
  refine kp4 rfl (kp5 rfl hR0 rfl (kp0 rfl (kp1 rfl (kp2 rfl (kp3 rfl (gx_X11_plateMove hB0 hR0 hL3 (fun x3 y8 I4 J5 hB6 p7 kq12 kq11 kq10 kq9 k14 k13 => ?_)))))))
  have i15 := i32 x3
  have b16 := Bd.o hB0 (show isO 112 3 6 = true from rfl) (show bnd 6 1 = some _ from rfl)
  have e17 : ((I4 3 1) : Int32).toInt = (I 3 1).toInt := Eq.trans (congrArg Int32.toInt kq9) rfl
  have kz18 : ((I4 3 1) : Int32).toInt = (I 3 1).toInt := e17
  have b19 := Bd.o hB0 (show isO 112 97 12 = true from rfl) (show bnd 12 8 = some _ from rfl)
  have e20 : ((I4 97 8) : Int32).toInt = (I 97 8).toInt := Eq.trans (congrArg Int32.toInt kq10) rfl
  have kz21 : ((I4 97 8) : Int32).toInt = (I 97 8).toInt := e20
  have b22 := Bd.o hB0 (show isO 112 1 11 = true from rfl) (show bnd 11 13 = some _ from rfl)
  have e23 : ((I4 1 13) : Int32).toInt = (I 1 13).toInt := Eq.trans (congrArg Int32.toInt kq11) rfl
  have kz24 : ((I4 1 13) : Int32).toInt = (I 1 13).toInt := e23
  have b25 := Bd.o hB0 (show isO 112 97 12 = true from rfl) (show bnd 12 23 = some _ from rfl)
  have e26 : ((I4 97 23) : Int32).toInt = (I 97 23).toInt := Eq.trans (congrArg Int32.toInt kq12) rfl
  have kz27 : ((I4 97 23) : Int32).toInt = (I 97 23).toInt := e26
  refine ⟨vp_of (a := (v3.toInt + 1)) e1 (by omega) (by omega), ?_⟩
  have z28 := i32 (xs (Int32.toNatClampNeg (v3 + 1)))
  refine ⟨⟨hF0, rfl⟩, ?_⟩
  refine kp6 rfl hR0 rfl (kp4 rfl (kp5 rfl hR0 rfl (kp0 rfl (kp1 rfl (kp2 rfl (kp3 rfl (gx_X12_plateMove hB6 hR0 (fun x29 y34 I30 J31 hB32 p33 kq38 kq37 kq36 kq35 k40 k39 k41 => ?_))))))))
  have i42 := i32 x29
  have e43 : ((I30 3 1) : Int32).toInt = (I 3 1).toInt := Eq.trans (congrArg Int32.toInt (Eq.trans kq35 kq9)) rfl
  have kz44 : ((I30 3 1) : Int32).toInt = (I 3 1).toInt := e43
  have e45 : ((I30 97 8) : Int32).toInt = (I 97 8).toInt := Eq.trans (congrArg Int32.toInt (Eq.trans kq36 kq10)) rfl
  have kz46 : ((I30 97 8) : Int32).toInt = (I 97 8).toInt := e45
  have e47 : ((I30 1 13) : Int32).toInt = (I 1 13).toInt := Eq.trans (congrArg Int32.toInt (Eq.trans kq37 kq11)) rfl
  have kz48 : ((I30 1 13) : Int32).toInt = (I 1 13).toInt := e47
  have e49 : ((I30 97 23) : Int32).toInt = (I 97 23).toInt := Eq.trans (congrArg Int32.toInt (Eq.trans kq38 kq12)) rfl
  have kz50 : ((I30 97 23) : Int32).toInt = (I 97 23).toInt := e49
  have hg51 : (x29 : Int32).toInt = (x3 : Int32).toInt := PL2.eq p33 p7.2
  refine ⟨fun c52 => ?_, fun c52 => ?_⟩
  · skip
    have d53 : ((x3.toInt) : Int) = (x29.toInt) := ci_eq rfl rfl c52
    exact hN _ _ R hB32 hR0 hF0 ⟨(Eq.trans (e43) (Eq.trans hL0 (Eq.symm (e45)))), (Eq.trans (e47) (Eq.trans hL1 (Eq.symm (e49)))), (RT.kp (RT.kp hL2 k13 k14) k39 k40), ((congrFun k41 0).trans (p7.1))⟩
  · skip
    have d54 : ¬ ((x3.toInt) : Int) = (x29.toInt) := ci_ne rfl rfl c52
    exfalso
    omega
set_option maxHeartbeats 2000000 in
theorem lc_42 {Q : Nat → Qt} {P : Kt} {L : Nat} {xs : Nat → Int32} (hc : Cl (AM 640) false true L xs 2 112 kL_law Q P) (hL : L ≤ 3584) {v3 : Int32} {I : Im} {J : Jm} {R : Rm} (hB0 : Bd I) (hR0 : RI R) (hF0 : Fl R) (hL0 : (I 3 1).toInt = (I 97 8).toInt) (hL1 : (I 1 13).toInt = (I 97 23).toInt) (hL2 : RT I) (hL3 : J 47 0 = 0) (h0 : 0 ≤ v3.toInt) (h7 : v3.toInt + 7 ≤ (L : Int)) (hN : ∀ (I : Im) (J : Jm) (R : Rm), Bd I → RI R → Fl R → RLk I J → P 1889 112 [(0, .ref 0), (1, .ref 1), (2, .ref 97), (3, .int v3)] [] I J R) : P 1698 112 [(0, .ref 0), (1, .ref 1), (2, .ref 97), (3, .int v3)] [] I J R := by
  have i_v3 := i32 v3
  refine ls_1698 hc v3 _ _ _ ?_
  have e1 : ((v3 + 1) : Int32).toInt = (v3.toInt) + (1) := ti_add rfl rfl (by omega)
  refine ⟨vp_of (a := (v3.toInt + 1)) e1 (by omega) (by omega), ?_⟩
  have z2 := i32 (xs (Int32.toNatClampNeg (v3 + 1)))
  have e3 : ((v3 + 2) : Int32).toInt = (v3.toInt) + (2) := ti_add rfl rfl (by omega)
  refine ⟨vp_of (a := (v3.toInt + 2)) e3 (by omega) (by omega), ?_⟩
  have z4 := i32 (xs (Int32.toNatClampNeg (v3 + 2)))
  have e5 : ((v3 + 3) : Int32).toInt = (v3.toInt) + (3) := ti_add rfl rfl (by omega)
  refine ⟨vp_of (a := (v3.toInt + 3)) e5 (by omega) (by omega), ?_⟩
  have z6 := i32 (xs (Int32.toNatClampNeg (v3 + 3)))
  have e7 : ((v3 + 4) : Int32).toInt = (v3.toInt) + (4) := ti_add rfl rfl (by omega)
  refine ⟨vp_of (a := (v3.toInt + 4)) e7 (by omega) (by omega), ?_⟩
  have z8 := i32 (xs (Int32.toNatClampNeg (v3 + 4)))
  refine ⟨⟨hF0, rfl⟩, ?_⟩
  refine kp4 rfl (kp5 rfl hR0 rfl (kp0 rfl (kp1 rfl (kp2 rfl (kp3 rfl (gx_X11_luck hB0 hR0 hL3 (fun x9 y14 I10 J11 hB12 p13 kq18 kq17 kq16 kq15 k20 k19 => ?_)))))))
  intro o21
  have i22 := i32 x9
  have b23 := Bd.o hB0 (show isO 112 3 6 = true from rfl) (show bnd 6 1 = some _ from rfl)
  have e24 : ((I10 3 1) : Int32).toInt = (I 3 1).toInt := Eq.trans (congrArg Int32.toInt kq15) rfl
  have kz25 : ((I10 3 1) : Int32).toInt = (I 3 1).toInt := e24
  have b26 := Bd.o hB0 (show isO 112 97 12 = true from rfl) (show bnd 12 8 = some _ from rfl)
  have e27 : ((I10 97 8) : Int32).toInt = (I 97 8).toInt := Eq.trans (congrArg Int32.toInt kq16) rfl
  have kz28 : ((I10 97 8) : Int32).toInt = (I 97 8).toInt := e27
  have b29 := Bd.o hB0 (show isO 112 1 11 = true from rfl) (show bnd 11 13 = some _ from rfl)
  have e30 : ((I10 1 13) : Int32).toInt = (I 1 13).toInt := Eq.trans (congrArg Int32.toInt kq17) rfl
  have kz31 : ((I10 1 13) : Int32).toInt = (I 1 13).toInt := e30
  have b32 := Bd.o hB0 (show isO 112 97 12 = true from rfl) (show bnd 12 23 = some _ from rfl)
  have e33 : ((I10 97 23) : Int32).toInt = (I 97 23).toInt := Eq.trans (congrArg Int32.toInt kq18) rfl
  have kz34 : ((I10 97 23) : Int32).toInt = (I 97 23).toInt := e33
  refine ⟨vp_of (a := (v3.toInt + 1)) e1 (by omega) (by omega), ?_⟩
  have z35 := i32 (xs (Int32.toNatClampNeg (v3 + 1)))
  refine ⟨vp_of (a := (v3.toInt + 2)) e3 (by omega) (by omega), ?_⟩
  have z36 := i32 (xs (Int32.toNatClampNeg (v3 + 2)))
  refine ⟨vp_of (a := (v3.toInt + 3)) e5 (by omega) (by omega), ?_⟩
  have z37 := i32 (xs (Int32.toNatClampNeg (v3 + 3)))
  refine ⟨vp_of (a := (v3.toInt + 4)) e7 (by omega) (by omega), ?_⟩
  have z38 := i32 (xs (Int32.toNatClampNeg (v3 + 4)))
  refine ⟨⟨hF0, rfl⟩, ?_⟩
  refine kp6 rfl hR0 rfl (kp4 rfl (kp5 rfl hR0 rfl (kp0 rfl (kp1 rfl (kp2 rfl (kp3 rfl (sp_X12_luck hB12 hR0 (fun x39 y44 I40 J41 hB42 p43 kq48 kq47 kq46 kq45 k50 k49 k51 => ?_))))))))
  intro o52
  have i53 := i32 x39
  have e54 : ((I40 3 1) : Int32).toInt = (I 3 1).toInt := Eq.trans (congrArg Int32.toInt (Eq.trans kq45 kq15)) rfl
  have kz55 : ((I40 3 1) : Int32).toInt = (I 3 1).toInt := e54
  have e56 : ((I40 97 8) : Int32).toInt = (I 97 8).toInt := Eq.trans (congrArg Int32.toInt (Eq.trans kq46 kq16)) rfl
  have kz57 : ((I40 97 8) : Int32).toInt = (I 97 8).toInt := e56
  have e58 : ((I40 1 13) : Int32).toInt = (I 1 13).toInt := Eq.trans (congrArg Int32.toInt (Eq.trans kq47 kq17)) rfl
  have kz59 : ((I40 1 13) : Int32).toInt = (I 1 13).toInt := e58
  have e60 : ((I40 97 23) : Int32).toInt = (I 97 23).toInt := Eq.trans (congrArg Int32.toInt (Eq.trans kq48 kq18)) rfl
  have kz61 : ((I40 97 23) : Int32).toInt = (I 97 23).toInt := e60
  exact hN _ _ R hB42 hR0 hF0 ⟨(Eq.trans (e54) (Eq.trans hL0 (Eq.symm (e56)))), (Eq.trans (e58) (Eq.trans hL1 (Eq.symm (e60)))), (RT.kp (RT.kp hL2 k19 k20) k49 k50), ((congrFun k51 0).trans (p13.1))⟩
set_option maxHeartbeats 2000000 in
theorem lc_43 {Q : Nat → Qt} {P : Kt} {L : Nat} {xs : Nat → Int32} (hc : Cl (AM 640) false true L xs 2 112 kL_law Q P) (hL : L ≤ 3584) {v3 : Int32} {I : Im} {J : Jm} {R : Rm} (hB0 : Bd I) (hR0 : RI R) (hF0 : Fl R) (hL0 : (I 3 1).toInt = (I 97 8).toInt) (hL1 : (I 1 13).toInt = (I 97 23).toInt) (hL2 : RT I) (hL3 : J 47 0 = 0) (h0 : 0 ≤ v3.toInt) (h7 : v3.toInt + 7 ≤ (L : Int)) (hN : ∀ (I : Im) (J : Jm) (R : Rm), Bd I → RI R → Fl R → RLk I J → P 1889 112 [(0, .ref 0), (1, .ref 1), (2, .ref 97), (3, .int v3)] [] I J R) : P 1751 112 [(0, .ref 0), (1, .ref 1), (2, .ref 97), (3, .int v3)] [] I J R := by
  have i_v3 := i32 v3
  refine ls_1751 hc v3 _ _ _ ?_
  have e1 : ((v3 + 1) : Int32).toInt = (v3.toInt) + (1) := ti_add rfl rfl (by omega)
  refine ⟨vp_of (a := (v3.toInt + 1)) e1 (by omega) (by omega), ?_⟩
  have z2 := i32 (xs (Int32.toNatClampNeg (v3 + 1)))
  have e3 : ((v3 + 2) : Int32).toInt = (v3.toInt) + (2) := ti_add rfl rfl (by omega)
  refine ⟨vp_of (a := (v3.toInt + 2)) e3 (by omega) (by omega), ?_⟩
  have z4 := i32 (xs (Int32.toNatClampNeg (v3 + 2)))
  refine ⟨⟨hF0, rfl⟩, ?_⟩
  refine kp6 rfl hR0 rfl (kp4 rfl (kp5 rfl hR0 rfl (kp0 rfl (kp1 rfl (kp2 rfl (kp3 rfl (sp_X11_burnt hB0 hR0 (fun x5 y10 I6 J7 hB8 p9 kq14 kq13 kq12 kq11 k16 k15 k17 => ?_))))))))
  intro o18
  have i19 := i32 x5
  have b20 := Bd.o hB0 (show isO 112 3 6 = true from rfl) (show bnd 6 1 = some _ from rfl)
  have e21 : ((I6 3 1) : Int32).toInt = (I 3 1).toInt := Eq.trans (congrArg Int32.toInt kq11) rfl
  have kz22 : ((I6 3 1) : Int32).toInt = (I 3 1).toInt := e21
  have b23 := Bd.o hB0 (show isO 112 97 12 = true from rfl) (show bnd 12 8 = some _ from rfl)
  have e24 : ((I6 97 8) : Int32).toInt = (I 97 8).toInt := Eq.trans (congrArg Int32.toInt kq12) rfl
  have kz25 : ((I6 97 8) : Int32).toInt = (I 97 8).toInt := e24
  have b26 := Bd.o hB0 (show isO 112 1 11 = true from rfl) (show bnd 11 13 = some _ from rfl)
  have e27 : ((I6 1 13) : Int32).toInt = (I 1 13).toInt := Eq.trans (congrArg Int32.toInt kq13) rfl
  have kz28 : ((I6 1 13) : Int32).toInt = (I 1 13).toInt := e27
  have b29 := Bd.o hB0 (show isO 112 97 12 = true from rfl) (show bnd 12 23 = some _ from rfl)
  have e30 : ((I6 97 23) : Int32).toInt = (I 97 23).toInt := Eq.trans (congrArg Int32.toInt kq14) rfl
  have kz31 : ((I6 97 23) : Int32).toInt = (I 97 23).toInt := e30
  refine ⟨vp_of (a := (v3.toInt + 1)) e1 (by omega) (by omega), ?_⟩
  have z32 := i32 (xs (Int32.toNatClampNeg (v3 + 1)))
  refine ⟨vp_of (a := (v3.toInt + 2)) e3 (by omega) (by omega), ?_⟩
  have z33 := i32 (xs (Int32.toNatClampNeg (v3 + 2)))
  refine ⟨⟨hF0, rfl⟩, ?_⟩
  refine kp6 rfl hR0 rfl (kp4 rfl (kp5 rfl hR0 rfl (kp0 rfl (kp1 rfl (kp2 rfl (kp3 rfl (sp_X12_burnt hB8 hR0 (fun x34 y39 I35 J36 hB37 p38 kq43 kq42 kq41 kq40 k45 k44 k46 => ?_))))))))
  intro o47
  have i48 := i32 x34
  have e49 : ((I35 3 1) : Int32).toInt = (I 3 1).toInt := Eq.trans (congrArg Int32.toInt (Eq.trans kq40 kq11)) rfl
  have kz50 : ((I35 3 1) : Int32).toInt = (I 3 1).toInt := e49
  have e51 : ((I35 97 8) : Int32).toInt = (I 97 8).toInt := Eq.trans (congrArg Int32.toInt (Eq.trans kq41 kq12)) rfl
  have kz52 : ((I35 97 8) : Int32).toInt = (I 97 8).toInt := e51
  have e53 : ((I35 1 13) : Int32).toInt = (I 1 13).toInt := Eq.trans (congrArg Int32.toInt (Eq.trans kq42 kq13)) rfl
  have kz54 : ((I35 1 13) : Int32).toInt = (I 1 13).toInt := e53
  have e55 : ((I35 97 23) : Int32).toInt = (I 97 23).toInt := Eq.trans (congrArg Int32.toInt (Eq.trans kq43 kq14)) rfl
  have kz56 : ((I35 97 23) : Int32).toInt = (I 97 23).toInt := e55
  exact hN _ _ R hB37 hR0 hF0 ⟨(Eq.trans (e49) (Eq.trans hL0 (Eq.symm (e51)))), (Eq.trans (e53) (Eq.trans hL1 (Eq.symm (e55)))), (RT.kp (RT.kp hL2 k15 k16) k44 k45), ((congrFun k46 0).trans ((congrFun k17 0).trans hL3))⟩
set_option maxHeartbeats 2000000 in
theorem lc_44 {Q : Nat → Qt} {P : Kt} {L : Nat} {xs : Nat → Int32} (hc : Cl (AM 640) false true L xs 2 112 kL_law Q P) (hL : L ≤ 3584) {v3 : Int32} {I : Im} {J : Jm} {R : Rm} (hB0 : Bd I) (hR0 : RI R) (hF0 : Fl R) (hL0 : (I 3 1).toInt = (I 97 8).toInt) (hL1 : (I 1 13).toInt = (I 97 23).toInt) (hL2 : RT I) (hL3 : J 47 0 = 0) (h0 : 0 ≤ v3.toInt) (h7 : v3.toInt + 7 ≤ (L : Int)) (hN : ∀ (I : Im) (J : Jm) (R : Rm), Bd I → RI R → Fl R → RLk I J → P 1889 112 [(0, .ref 0), (1, .ref 1), (2, .ref 97), (3, .int v3)] [] I J R) : P 1784 112 [(0, .ref 0), (1, .ref 1), (2, .ref 97), (3, .int v3)] [] I J R := by
  have i_v3 := i32 v3
  refine ls_1784 hc v3 _ _ _ ?_
  have e1 : ((v3 + 1) : Int32).toInt = (v3.toInt) + (1) := ti_add rfl rfl (by omega)
  refine ⟨vp_of (a := (v3.toInt + 1)) e1 (by omega) (by omega), ?_⟩
  have z2 := i32 (xs (Int32.toNatClampNeg (v3 + 1)))
  refine ⟨⟨hF0, rfl⟩, ?_⟩
  refine kp6 rfl hR0 rfl (kp4 rfl (kp5 rfl hR0 rfl (kp0 rfl (kp1 rfl (kp2 rfl (kp3 rfl (sp_X11_live hB0 hR0 (fun x3 y8 I4 J5 hB6 p7 kq12 kq11 kq10 kq9 k14 k13 k15 => ?_))))))))
  have i16 := i32 x3
  have b17 := Bd.o hB0 (show isO 112 3 6 = true from rfl) (show bnd 6 1 = some _ from rfl)
  have e18 : ((I4 3 1) : Int32).toInt = (I 3 1).toInt := Eq.trans (congrArg Int32.toInt kq9) rfl
  have kz19 : ((I4 3 1) : Int32).toInt = (I 3 1).toInt := e18
  have b20 := Bd.o hB0 (show isO 112 97 12 = true from rfl) (show bnd 12 8 = some _ from rfl)
  have e21 : ((I4 97 8) : Int32).toInt = (I 97 8).toInt := Eq.trans (congrArg Int32.toInt kq10) rfl
  have kz22 : ((I4 97 8) : Int32).toInt = (I 97 8).toInt := e21
  have b23 := Bd.o hB0 (show isO 112 1 11 = true from rfl) (show bnd 11 13 = some _ from rfl)
  have e24 : ((I4 1 13) : Int32).toInt = (I 1 13).toInt := Eq.trans (congrArg Int32.toInt kq11) rfl
  have kz25 : ((I4 1 13) : Int32).toInt = (I 1 13).toInt := e24
  have b26 := Bd.o hB0 (show isO 112 97 12 = true from rfl) (show bnd 12 23 = some _ from rfl)
  have e27 : ((I4 97 23) : Int32).toInt = (I 97 23).toInt := Eq.trans (congrArg Int32.toInt kq12) rfl
  have kz28 : ((I4 97 23) : Int32).toInt = (I 97 23).toInt := e27
  refine ⟨vp_of (a := (v3.toInt + 1)) e1 (by omega) (by omega), ?_⟩
  have z29 := i32 (xs (Int32.toNatClampNeg (v3 + 1)))
  refine ⟨⟨hF0, rfl⟩, ?_⟩
  refine kp6 rfl hR0 rfl (kp4 rfl (kp5 rfl hR0 rfl (kp0 rfl (kp1 rfl (kp2 rfl (kp3 rfl (sp_X12_live hB6 hR0 (fun x30 y35 I31 J32 hB33 p34 kq39 kq38 kq37 kq36 k41 k40 k42 => ?_))))))))
  have i43 := i32 x30
  have e44 : ((I31 3 1) : Int32).toInt = (I 3 1).toInt := Eq.trans (congrArg Int32.toInt (Eq.trans kq36 kq9)) rfl
  have kz45 : ((I31 3 1) : Int32).toInt = (I 3 1).toInt := e44
  have e46 : ((I31 97 8) : Int32).toInt = (I 97 8).toInt := Eq.trans (congrArg Int32.toInt (Eq.trans kq37 kq10)) rfl
  have kz47 : ((I31 97 8) : Int32).toInt = (I 97 8).toInt := e46
  have e48 : ((I31 1 13) : Int32).toInt = (I 1 13).toInt := Eq.trans (congrArg Int32.toInt (Eq.trans kq38 kq11)) rfl
  have kz49 : ((I31 1 13) : Int32).toInt = (I 1 13).toInt := e48
  have e50 : ((I31 97 23) : Int32).toInt = (I 97 23).toInt := Eq.trans (congrArg Int32.toInt (Eq.trans kq39 kq12)) rfl
  have kz51 : ((I31 97 23) : Int32).toInt = (I 97 23).toInt := e50
  exact hN _ _ R hB33 hR0 hF0 ⟨(Eq.trans (e44) (Eq.trans hL0 (Eq.symm (e46)))), (Eq.trans (e48) (Eq.trans hL1 (Eq.symm (e50)))), (RT.kp (RT.kp hL2 k13 k14) k40 k41), ((congrFun k42 0).trans ((congrFun k15 0).trans hL3))⟩
set_option maxHeartbeats 2000000 in
theorem lc_45 {Q : Nat → Qt} {P : Kt} {L : Nat} {xs : Nat → Int32} (hc : Cl (AM 640) false true L xs 2 112 kL_law Q P) (hL : L ≤ 3584) {v3 : Int32} {I : Im} {J : Jm} {R : Rm} (hB0 : Bd I) (hR0 : RI R) (hF0 : Fl R) (hL0 : (I 3 1).toInt = (I 97 8).toInt) (hL1 : (I 1 13).toInt = (I 97 23).toInt) (hL2 : RT I) (hL3 : J 47 0 = 0) (h0 : 0 ≤ v3.toInt) (h7 : v3.toInt + 7 ≤ (L : Int)) (hN : ∀ (I : Im) (J : Jm) (R : Rm), Bd I → RI R → Fl R → RLk I J → P 1889 112 [(0, .ref 0), (1, .ref 1), (2, .ref 97), (3, .int v3)] [] I J R) : P 1807 112 [(0, .ref 0), (1, .ref 1), (2, .ref 97), (3, .int v3)] [] I J R := by
  have i_v3 := i32 v3
  refine ls_1807 hc v3 _ _ _ ?_
  have e1 : ((v3 + 1) : Int32).toInt = (v3.toInt) + (1) := ti_add rfl rfl (by omega)
  refine ⟨vp_of (a := (v3.toInt + 1)) e1 (by omega) (by omega), ?_⟩
  have z2 := i32 (xs (Int32.toNatClampNeg (v3 + 1)))
  refine ⟨⟨hF0, rfl⟩, ?_⟩
  refine kp6 rfl hR0 rfl (kp4 rfl (kp5 rfl hR0 rfl (kp0 rfl (kp1 rfl (kp2 rfl (kp3 rfl (sp_X11_lived hB0 hR0 (fun x3 y8 I4 J5 hB6 p7 kq12 kq11 kq10 kq9 k14 k13 k15 => ?_))))))))
  have i16 := i32 x3
  have b17 := Bd.o hB0 (show isO 112 3 6 = true from rfl) (show bnd 6 1 = some _ from rfl)
  have e18 : ((I4 3 1) : Int32).toInt = (I 3 1).toInt := Eq.trans (congrArg Int32.toInt kq9) rfl
  have kz19 : ((I4 3 1) : Int32).toInt = (I 3 1).toInt := e18
  have b20 := Bd.o hB0 (show isO 112 97 12 = true from rfl) (show bnd 12 8 = some _ from rfl)
  have e21 : ((I4 97 8) : Int32).toInt = (I 97 8).toInt := Eq.trans (congrArg Int32.toInt kq10) rfl
  have kz22 : ((I4 97 8) : Int32).toInt = (I 97 8).toInt := e21
  have b23 := Bd.o hB0 (show isO 112 1 11 = true from rfl) (show bnd 11 13 = some _ from rfl)
  have e24 : ((I4 1 13) : Int32).toInt = (I 1 13).toInt := Eq.trans (congrArg Int32.toInt kq11) rfl
  have kz25 : ((I4 1 13) : Int32).toInt = (I 1 13).toInt := e24
  have b26 := Bd.o hB0 (show isO 112 97 12 = true from rfl) (show bnd 12 23 = some _ from rfl)
  have e27 : ((I4 97 23) : Int32).toInt = (I 97 23).toInt := Eq.trans (congrArg Int32.toInt kq12) rfl
  have kz28 : ((I4 97 23) : Int32).toInt = (I 97 23).toInt := e27
  refine ⟨vp_of (a := (v3.toInt + 1)) e1 (by omega) (by omega), ?_⟩
  have z29 := i32 (xs (Int32.toNatClampNeg (v3 + 1)))
  refine ⟨⟨hF0, rfl⟩, ?_⟩
  refine kp6 rfl hR0 rfl (kp4 rfl (kp5 rfl hR0 rfl (kp0 rfl (kp1 rfl (kp2 rfl (kp3 rfl (sp_X12_lived hB6 hR0 (fun x30 y35 I31 J32 hB33 p34 kq39 kq38 kq37 kq36 k41 k40 k42 => ?_))))))))
  have i43 := i32 x30
  have e44 : ((I31 3 1) : Int32).toInt = (I 3 1).toInt := Eq.trans (congrArg Int32.toInt (Eq.trans kq36 kq9)) rfl
  have kz45 : ((I31 3 1) : Int32).toInt = (I 3 1).toInt := e44
  have e46 : ((I31 97 8) : Int32).toInt = (I 97 8).toInt := Eq.trans (congrArg Int32.toInt (Eq.trans kq37 kq10)) rfl
  have kz47 : ((I31 97 8) : Int32).toInt = (I 97 8).toInt := e46
  have e48 : ((I31 1 13) : Int32).toInt = (I 1 13).toInt := Eq.trans (congrArg Int32.toInt (Eq.trans kq38 kq11)) rfl
  have kz49 : ((I31 1 13) : Int32).toInt = (I 1 13).toInt := e48
  have e50 : ((I31 97 23) : Int32).toInt = (I 97 23).toInt := Eq.trans (congrArg Int32.toInt (Eq.trans kq39 kq12)) rfl
  have kz51 : ((I31 97 23) : Int32).toInt = (I 97 23).toInt := e50
  exact hN _ _ R hB33 hR0 hF0 ⟨(Eq.trans (e44) (Eq.trans hL0 (Eq.symm (e46)))), (Eq.trans (e48) (Eq.trans hL1 (Eq.symm (e50)))), (RT.kp (RT.kp hL2 k13 k14) k40 k41), ((congrFun k42 0).trans ((congrFun k15 0).trans hL3))⟩
set_option maxHeartbeats 2000000 in
theorem lc_46 {Q : Nat → Qt} {P : Kt} {L : Nat} {xs : Nat → Int32} (hc : Cl (AM 640) false true L xs 2 112 kL_law Q P) (hL : L ≤ 3584) {v3 : Int32} {I : Im} {J : Jm} {R : Rm} (hB0 : Bd I) (hR0 : RI R) (hF0 : Fl R) (hL0 : (I 3 1).toInt = (I 97 8).toInt) (hL1 : (I 1 13).toInt = (I 97 23).toInt) (hL2 : RT I) (hL3 : J 47 0 = 0) (h0 : 0 ≤ v3.toInt) (h7 : v3.toInt + 7 ≤ (L : Int)) (hN : ∀ (I : Im) (J : Jm) (R : Rm), Bd I → RI R → Fl R → RLk I J → P 1889 112 [(0, .ref 0), (1, .ref 1), (2, .ref 97), (3, .int v3)] [] I J R) : P 1830 112 [(0, .ref 0), (1, .ref 1), (2, .ref 97), (3, .int v3)] [] I J R := by
  have i_v3 := i32 v3
  refine ls_1830 hc v3 _ _ _ ?_
  have e1 : ((v3 + 1) : Int32).toInt = (v3.toInt) + (1) := ti_add rfl rfl (by omega)
  refine ⟨vp_of (a := (v3.toInt + 1)) e1 (by omega) (by omega), ?_⟩
  have z2 := i32 (xs (Int32.toNatClampNeg (v3 + 1)))
  have e3 : ((v3 + 2) : Int32).toInt = (v3.toInt) + (2) := ti_add rfl rfl (by omega)
  refine ⟨vp_of (a := (v3.toInt + 2)) e3 (by omega) (by omega), ?_⟩
  have z4 := i32 (xs (Int32.toNatClampNeg (v3 + 2)))
  refine ⟨⟨hF0, rfl⟩, ?_⟩
  refine kp6 rfl hR0 rfl (kp4 rfl (kp5 rfl hR0 rfl (kp0 rfl (kp1 rfl (kp2 rfl (kp3 rfl (sp_X11_mean hB0 hR0 (fun x5 y10 I6 J7 hB8 p9 kq14 kq13 kq12 kq11 k16 k15 k17 => ?_))))))))
  intro o18
  have i19 := i32 x5
  have b20 := Bd.o hB0 (show isO 112 3 6 = true from rfl) (show bnd 6 1 = some _ from rfl)
  have e21 : ((I6 3 1) : Int32).toInt = (I 3 1).toInt := Eq.trans (congrArg Int32.toInt kq11) rfl
  have kz22 : ((I6 3 1) : Int32).toInt = (I 3 1).toInt := e21
  have b23 := Bd.o hB0 (show isO 112 97 12 = true from rfl) (show bnd 12 8 = some _ from rfl)
  have e24 : ((I6 97 8) : Int32).toInt = (I 97 8).toInt := Eq.trans (congrArg Int32.toInt kq12) rfl
  have kz25 : ((I6 97 8) : Int32).toInt = (I 97 8).toInt := e24
  have b26 := Bd.o hB0 (show isO 112 1 11 = true from rfl) (show bnd 11 13 = some _ from rfl)
  have e27 : ((I6 1 13) : Int32).toInt = (I 1 13).toInt := Eq.trans (congrArg Int32.toInt kq13) rfl
  have kz28 : ((I6 1 13) : Int32).toInt = (I 1 13).toInt := e27
  have b29 := Bd.o hB0 (show isO 112 97 12 = true from rfl) (show bnd 12 23 = some _ from rfl)
  have e30 : ((I6 97 23) : Int32).toInt = (I 97 23).toInt := Eq.trans (congrArg Int32.toInt kq14) rfl
  have kz31 : ((I6 97 23) : Int32).toInt = (I 97 23).toInt := e30
  refine ⟨vp_of (a := (v3.toInt + 1)) e1 (by omega) (by omega), ?_⟩
  have z32 := i32 (xs (Int32.toNatClampNeg (v3 + 1)))
  refine ⟨vp_of (a := (v3.toInt + 2)) e3 (by omega) (by omega), ?_⟩
  have z33 := i32 (xs (Int32.toNatClampNeg (v3 + 2)))
  refine ⟨⟨hF0, rfl⟩, ?_⟩
  refine kp6 rfl hR0 rfl (kp4 rfl (kp5 rfl hR0 rfl (kp0 rfl (kp1 rfl (kp2 rfl (kp3 rfl (sp_X12_mean hB8 hR0 (fun x34 y39 I35 J36 hB37 p38 kq43 kq42 kq41 kq40 k45 k44 k46 => ?_))))))))
  intro o47
  have i48 := i32 x34
  have e49 : ((I35 3 1) : Int32).toInt = (I 3 1).toInt := Eq.trans (congrArg Int32.toInt (Eq.trans kq40 kq11)) rfl
  have kz50 : ((I35 3 1) : Int32).toInt = (I 3 1).toInt := e49
  have e51 : ((I35 97 8) : Int32).toInt = (I 97 8).toInt := Eq.trans (congrArg Int32.toInt (Eq.trans kq41 kq12)) rfl
  have kz52 : ((I35 97 8) : Int32).toInt = (I 97 8).toInt := e51
  have e53 : ((I35 1 13) : Int32).toInt = (I 1 13).toInt := Eq.trans (congrArg Int32.toInt (Eq.trans kq42 kq13)) rfl
  have kz54 : ((I35 1 13) : Int32).toInt = (I 1 13).toInt := e53
  have e55 : ((I35 97 23) : Int32).toInt = (I 97 23).toInt := Eq.trans (congrArg Int32.toInt (Eq.trans kq43 kq14)) rfl
  have kz56 : ((I35 97 23) : Int32).toInt = (I 97 23).toInt := e55
  exact hN _ _ R hB37 hR0 hF0 ⟨(Eq.trans (e49) (Eq.trans hL0 (Eq.symm (e51)))), (Eq.trans (e53) (Eq.trans hL1 (Eq.symm (e55)))), (RT.kp (RT.kp hL2 k15 k16) k44 k45), ((congrFun k46 0).trans ((congrFun k17 0).trans hL3))⟩
set_option maxHeartbeats 2000000 in
theorem lc_47 {Q : Nat → Qt} {P : Kt} {L : Nat} {xs : Nat → Int32} (hc : Cl (AM 640) false true L xs 2 112 kL_law Q P) (hL : L ≤ 3584) {v3 : Int32} {I : Im} {J : Jm} {R : Rm} (hB0 : Bd I) (hR0 : RI R) (hF0 : Fl R) (hL0 : (I 3 1).toInt = (I 97 8).toInt) (hL1 : (I 1 13).toInt = (I 97 23).toInt) (hL2 : RT I) (hL3 : J 47 0 = 0) (h0 : 0 ≤ v3.toInt) (h7 : v3.toInt + 7 ≤ (L : Int)) (hN : ∀ (I : Im) (J : Jm) (R : Rm), Bd I → RI R → Fl R → RLk I J → P 1889 112 [(0, .ref 0), (1, .ref 1), (2, .ref 97), (3, .int v3)] [] I J R) : P 1863 112 [(0, .ref 0), (1, .ref 1), (2, .ref 97), (3, .int v3)] [] I J R := by
  have i_v3 := i32 v3
  refine ls_1863 hc v3 _ _ _ ?_
  refine ⟨⟨hF0, rfl⟩, ?_⟩
  refine kp6 rfl hR0 rfl (kp4 rfl (kp5 rfl hR0 rfl (kp0 rfl (kp1 rfl (kp3 rfl (sp_X11_mark hB0 hR0 (fun x1 y6 I2 J3 hB4 p5 kq9 kq8 kq7 k11 k10 k12 => ?_)))))))
  have b13 := Bd.o hB0 (show isO 112 1 11 = true from rfl) (show bnd 11 13 = some _ from rfl)
  have b14 := Bd.o hB4 (show isO 112 1 11 = true from rfl) (show bnd 11 13 = some _ from rfl)
  have i15 := i32 x1
  have b16 := Bd.o hB0 (show isO 112 3 6 = true from rfl) (show bnd 6 1 = some _ from rfl)
  have e17 : ((I2 3 1) : Int32).toInt = (I 3 1).toInt := Eq.trans (congrArg Int32.toInt kq7) rfl
  have kz18 : ((I2 3 1) : Int32).toInt = (I 3 1).toInt := e17
  have b19 := Bd.o hB0 (show isO 112 97 12 = true from rfl) (show bnd 12 8 = some _ from rfl)
  have e20 : ((I2 97 8) : Int32).toInt = (I 97 8).toInt := Eq.trans (congrArg Int32.toInt kq8) rfl
  have kz21 : ((I2 97 8) : Int32).toInt = (I 97 8).toInt := e20
  have b22 := Bd.o hB0 (show isO 112 97 12 = true from rfl) (show bnd 12 23 = some _ from rfl)
  have e23 : ((I2 97 23) : Int32).toInt = (I 97 23).toInt := Eq.trans (congrArg Int32.toInt kq9) rfl
  have kz24 : ((I2 97 23) : Int32).toInt = (I 97 23).toInt := e23
  refine ⟨⟨hF0, rfl⟩, ?_⟩
  refine kp6 rfl hR0 rfl (kp4 rfl (kp5 rfl hR0 rfl (kp0 rfl (kp1 rfl (kp2 rfl (sp_X12_mark hB4 hR0 (fun x25 y30 I26 J27 hB28 p29 kq33 kq32 kq31 k35 k34 k36 => ?_)))))))
  have b37 := Bd.o hB28 (show isO 112 97 12 = true from rfl) (show bnd 12 23 = some _ from rfl)
  have i38 := i32 x25
  have e39 : ((I26 3 1) : Int32).toInt = (I 3 1).toInt := Eq.trans (congrArg Int32.toInt (Eq.trans kq31 kq7)) rfl
  have kz40 : ((I26 3 1) : Int32).toInt = (I 3 1).toInt := e39
  have e41 : ((I26 97 8) : Int32).toInt = (I 97 8).toInt := Eq.trans (congrArg Int32.toInt (Eq.trans kq32 kq8)) rfl
  have kz42 : ((I26 97 8) : Int32).toInt = (I 97 8).toInt := e41
  have e43 : ((I26 1 13) : Int32).toInt = (I2 1 13).toInt := Eq.trans (congrArg Int32.toInt kq33) rfl
  have kz44 : ((I26 1 13) : Int32).toInt = (I2 1 13).toInt := e43
  exact hN _ _ R hB28 hR0 hF0 ⟨(Eq.trans (e39) (Eq.trans hL0 (Eq.symm (e41)))), (by have ya : ((I26 1 13) : Int32).toInt = (I2 1 13).toInt := e43; have yb : ((I26 97 23) : Int32).toInt = (I26 97 23).toInt := rfl; omega), (RT.kp (RT.kp hL2 k10 k11) k34 k35), ((congrFun k36 0).trans ((congrFun k12 0).trans hL3))⟩
set_option maxHeartbeats 2000000 in
theorem lc_48 {Q : Nat → Qt} {P : Kt} {L : Nat} {xs : Nat → Int32} (hc : Cl (AM 640) false true L xs 2 112 kL_law Q P) (hL : L ≤ 3584) {v3 : Int32} {I : Im} {J : Jm} {R : Rm} (hB0 : Bd I) (hR0 : RI R) (hF0 : Fl R) (hL0 : (I 3 1).toInt = (I 97 8).toInt) (hL1 : (I 1 13).toInt = (I 97 23).toInt) (hL2 : RT I) (hL3 : J 47 0 = 0) (h0 : 0 ≤ v3.toInt) (h7 : v3.toInt + 7 ≤ (L : Int)) (hN : ∀ (I : Im) (J : Jm) (R : Rm), Bd I → RI R → Fl R → RLk I J → P 1889 112 [(0, .ref 0), (1, .ref 1), (2, .ref 97), (3, .int v3)] [] I J R) : P 1876 112 [(0, .ref 0), (1, .ref 1), (2, .ref 97), (3, .int v3)] [] I J R := by
  have i_v3 := i32 v3
  refine ls_1876 hc v3 _ _ _ ?_
  refine ⟨⟨hF0, rfl⟩, ?_⟩
  refine kp6 rfl hR0 rfl (kp4 rfl (kp5 rfl hR0 rfl (kp0 rfl (kp1 rfl (kp3 rfl (sp_X11_back hB0 hR0 (fun x1 y6 I2 J3 hB4 p5 kq9 kq8 kq7 k11 k10 k12 => ?_)))))))
  have b13 := Bd.o hB0 (show isO 112 1 11 = true from rfl) (show bnd 11 13 = some _ from rfl)
  have b14 := Bd.o hB4 (show isO 112 1 11 = true from rfl) (show bnd 11 13 = some _ from rfl)
  have i15 := i32 x1
  have b16 := Bd.o hB0 (show isO 112 3 6 = true from rfl) (show bnd 6 1 = some _ from rfl)
  have e17 : ((I2 3 1) : Int32).toInt = (I 3 1).toInt := Eq.trans (congrArg Int32.toInt kq7) rfl
  have kz18 : ((I2 3 1) : Int32).toInt = (I 3 1).toInt := e17
  have b19 := Bd.o hB0 (show isO 112 97 12 = true from rfl) (show bnd 12 8 = some _ from rfl)
  have e20 : ((I2 97 8) : Int32).toInt = (I 97 8).toInt := Eq.trans (congrArg Int32.toInt kq8) rfl
  have kz21 : ((I2 97 8) : Int32).toInt = (I 97 8).toInt := e20
  have b22 := Bd.o hB0 (show isO 112 97 12 = true from rfl) (show bnd 12 23 = some _ from rfl)
  have e23 : ((I2 97 23) : Int32).toInt = (I 97 23).toInt := Eq.trans (congrArg Int32.toInt kq9) rfl
  have kz24 : ((I2 97 23) : Int32).toInt = (I 97 23).toInt := e23
  refine ⟨⟨hF0, rfl⟩, ?_⟩
  refine kp6 rfl hR0 rfl (kp4 rfl (kp5 rfl hR0 rfl (kp0 rfl (kp1 rfl (kp2 rfl (sp_X12_back hB4 hR0 (fun x25 y30 I26 J27 hB28 p29 kq33 kq32 kq31 k35 k34 k36 => ?_)))))))
  have b37 := Bd.o hB28 (show isO 112 97 12 = true from rfl) (show bnd 12 23 = some _ from rfl)
  have i38 := i32 x25
  have e39 : ((I26 3 1) : Int32).toInt = (I 3 1).toInt := Eq.trans (congrArg Int32.toInt (Eq.trans kq31 kq7)) rfl
  have kz40 : ((I26 3 1) : Int32).toInt = (I 3 1).toInt := e39
  have e41 : ((I26 97 8) : Int32).toInt = (I 97 8).toInt := Eq.trans (congrArg Int32.toInt (Eq.trans kq32 kq8)) rfl
  have kz42 : ((I26 97 8) : Int32).toInt = (I 97 8).toInt := e41
  have e43 : ((I26 1 13) : Int32).toInt = (I2 1 13).toInt := Eq.trans (congrArg Int32.toInt kq33) rfl
  have kz44 : ((I26 1 13) : Int32).toInt = (I2 1 13).toInt := e43
  exact hN _ _ R hB28 hR0 hF0 ⟨(Eq.trans (e39) (Eq.trans hL0 (Eq.symm (e41)))), (by have ya : ((I26 1 13) : Int32).toInt = (I2 1 13).toInt := e43; have yb : ((I26 97 23) : Int32).toInt = (I26 97 23).toInt := rfl; omega), (RT.kp (RT.kp hL2 k10 k11) k34 k35), ((congrFun k36 0).trans ((congrFun k12 0).trans hL3))⟩
