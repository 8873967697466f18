set_option maxHeartbeats 2000000 in
theorem lc_0 {Q : Nat → Qt} {P : Kt} {L : Nat} {xs : Nat → Int32} (hc : Cl (AM 640) false true L xs 2 112 kL_law Q P) (hL : L ≤ 3584) {v3 : Int32} {I : Im} {J : Jm} {R : Rm} (hB0 : Bd I) (hR0 : RI R) (hF0 : Fl R) (hL0 : (I 3 1).toInt = (I 97 8).toInt) (hL1 : (I 1 13).toInt = (I 97 23).toInt) (hL2 : RT I) (h0 : 0 ≤ v3.toInt) (h7 : v3.toInt + 7 ≤ (L : Int)) (hN : ∀ (I : Im) (J : Jm) (R : Rm), Bd I → RI R → Fl R → RLk I → P 1889 112 [(0, .ref 0), (1, .ref 1), (2, .ref 97), (3, .int v3)] [] I J R) : P 244 112 [(0, .ref 0), (1, .ref 1), (2, .ref 97), (3, .int v3)] [] I J R := by
  have i_v3 := i32 v3
  refine ls_244 hc v3 _ _ _ ?_
  refine ⟨⟨hF0, rfl⟩, ?_⟩
  refine kp4 rfl (kp5 rfl hR0 rfl (kp0 rfl (kp1 rfl (kp2 rfl (kp3 rfl (sp_X11_status hB0 hR0 (fun x1 y6 I2 J3 hB4 p5 kq10 kq9 kq8 kq7 k12 k11 => ?_)))))))
  have i13 := i32 x1
  have b14 := Bd.o hB0 (show isO 112 3 6 = true from rfl) (show bnd 6 1 = some _ from rfl)
  have e15 : ((I2 3 1) : Int32).toInt = (I 3 1).toInt := Eq.trans (congrArg Int32.toInt kq7) rfl
  have kz16 : ((I2 3 1) : Int32).toInt = (I 3 1).toInt := e15
  have b17 := Bd.o hB0 (show isO 112 97 12 = true from rfl) (show bnd 12 8 = some _ from rfl)
  have e18 : ((I2 97 8) : Int32).toInt = (I 97 8).toInt := Eq.trans (congrArg Int32.toInt kq8) rfl
  have kz19 : ((I2 97 8) : Int32).toInt = (I 97 8).toInt := e18
  have b20 := Bd.o hB0 (show isO 112 1 11 = true from rfl) (show bnd 11 13 = some _ from rfl)
  have e21 : ((I2 1 13) : Int32).toInt = (I 1 13).toInt := Eq.trans (congrArg Int32.toInt kq9) rfl
  have kz22 : ((I2 1 13) : Int32).toInt = (I 1 13).toInt := e21
  have b23 := Bd.o hB0 (show isO 112 97 12 = true from rfl) (show bnd 12 23 = some _ from rfl)
  have e24 : ((I2 97 23) : Int32).toInt = (I 97 23).toInt := Eq.trans (congrArg Int32.toInt kq10) rfl
  have kz25 : ((I2 97 23) : Int32).toInt = (I 97 23).toInt := e24
  refine ⟨⟨hF0, rfl⟩, ?_⟩
  refine kp4 rfl (kp5 rfl hR0 rfl (kp0 rfl (kp1 rfl (kp2 rfl (kp3 rfl (sp_X12_status hB4 hR0 (fun x26 y31 I27 J28 hB29 p30 kq35 kq34 kq33 kq32 k37 k36 => ?_)))))))
  have i38 := i32 x26
  have e39 : ((I27 3 1) : Int32).toInt = (I 3 1).toInt := Eq.trans (congrArg Int32.toInt (Eq.trans kq32 kq7)) rfl
  have kz40 : ((I27 3 1) : Int32).toInt = (I 3 1).toInt := e39
  have e41 : ((I27 97 8) : Int32).toInt = (I 97 8).toInt := Eq.trans (congrArg Int32.toInt (Eq.trans kq33 kq8)) rfl
  have kz42 : ((I27 97 8) : Int32).toInt = (I 97 8).toInt := e41
  have e43 : ((I27 1 13) : Int32).toInt = (I 1 13).toInt := Eq.trans (congrArg Int32.toInt (Eq.trans kq34 kq9)) rfl
  have kz44 : ((I27 1 13) : Int32).toInt = (I 1 13).toInt := e43
  have e45 : ((I27 97 23) : Int32).toInt = (I 97 23).toInt := Eq.trans (congrArg Int32.toInt (Eq.trans kq35 kq10)) rfl
  have kz46 : ((I27 97 23) : Int32).toInt = (I 97 23).toInt := e45
  exact hN _ _ R hB29 hR0 hF0 ⟨(Eq.trans (e39) (Eq.trans hL0 (Eq.symm (e41)))), (Eq.trans (e43) (Eq.trans hL1 (Eq.symm (e45)))), (RT.kp (RT.kp hL2 k11 k12) k36 k37)⟩
set_option maxHeartbeats 2000000 in
theorem lc_1 {Q : Nat → Qt} {P : Kt} {L : Nat} {xs : Nat → Int32} (hc : Cl (AM 640) false true L xs 2 112 kL_law Q P) (hL : L ≤ 3584) {v3 : Int32} {I : Im} {J : Jm} {R : Rm} (hB0 : Bd I) (hR0 : RI R) (hF0 : Fl R) (hL0 : (I 3 1).toInt = (I 97 8).toInt) (hL1 : (I 1 13).toInt = (I 97 23).toInt) (hL2 : RT I) (h0 : 0 ≤ v3.toInt) (h7 : v3.toInt + 7 ≤ (L : Int)) (hN : ∀ (I : Im) (J : Jm) (R : Rm), Bd I → RI R → Fl R → RLk I → P 1889 112 [(0, .ref 0), (1, .ref 1), (2, .ref 97), (3, .int v3)] [] I J R) : P 257 112 [(0, .ref 0), (1, .ref 1), (2, .ref 97), (3, .int v3)] [] I J R := by
  have i_v3 := i32 v3
  refine ls_257 hc v3 _ _ _ ?_
  refine ⟨⟨hF0, rfl⟩, ?_⟩
  refine kp4 rfl (kp5 rfl hR0 rfl (kp0 rfl (kp1 rfl (kp2 rfl (kp3 rfl (sp_X11_top hB0 hR0 (fun x1 y6 I2 J3 hB4 p5 kq10 kq9 kq8 kq7 k12 k11 => ?_)))))))
  have b13 := Bd.o hB0 (show isO 112 3 6 = true from rfl) (show bnd 6 1 = some _ from rfl)
  have e14 : ((I2 3 1) : Int32).toInt = (I 3 1).toInt := Eq.trans (congrArg Int32.toInt kq7) rfl
  have kz15 : ((I2 3 1) : Int32).toInt = (I 3 1).toInt := e14
  have b16 := Bd.o hB0 (show isO 112 97 12 = true from rfl) (show bnd 12 8 = some _ from rfl)
  have e17 : ((I2 97 8) : Int32).toInt = (I 97 8).toInt := Eq.trans (congrArg Int32.toInt kq8) rfl
  have kz18 : ((I2 97 8) : Int32).toInt = (I 97 8).toInt := e17
  have b19 := Bd.o hB0 (show isO 112 1 11 = true from rfl) (show bnd 11 13 = some _ from rfl)
  have e20 : ((I2 1 13) : Int32).toInt = (I 1 13).toInt := Eq.trans (congrArg Int32.toInt kq9) rfl
  have kz21 : ((I2 1 13) : Int32).toInt = (I 1 13).toInt := e20
  have b22 := Bd.o hB0 (show isO 112 97 12 = true from rfl) (show bnd 12 23 = some _ from rfl)
  have e23 : ((I2 97 23) : Int32).toInt = (I 97 23).toInt := Eq.trans (congrArg Int32.toInt kq10) rfl
  have kz24 : ((I2 97 23) : Int32).toInt = (I 97 23).toInt := e23
  refine ⟨⟨hF0, rfl⟩, ?_⟩
  refine kp4 rfl (kp5 rfl hR0 rfl (kp0 rfl (kp1 rfl (kp2 rfl (kp3 rfl (sp_X12_top hB4 hR0 (fun x25 y30 I26 J27 hB28 p29 kq34 kq33 kq32 kq31 k36 k35 => ?_)))))))
  have e37 : ((I26 3 1) : Int32).toInt = (I 3 1).toInt := Eq.trans (congrArg Int32.toInt (Eq.trans kq31 kq7)) rfl
  have kz38 : ((I26 3 1) : Int32).toInt = (I 3 1).toInt := e37
  have e39 : ((I26 97 8) : Int32).toInt = (I 97 8).toInt := Eq.trans (congrArg Int32.toInt (Eq.trans kq32 kq8)) rfl
  have kz40 : ((I26 97 8) : Int32).toInt = (I 97 8).toInt := e39
  have e41 : ((I26 1 13) : Int32).toInt = (I 1 13).toInt := Eq.trans (congrArg Int32.toInt (Eq.trans kq33 kq9)) rfl
  have kz42 : ((I26 1 13) : Int32).toInt = (I 1 13).toInt := e41
  have e43 : ((I26 97 23) : Int32).toInt = (I 97 23).toInt := Eq.trans (congrArg Int32.toInt (Eq.trans kq34 kq10)) rfl
  have kz44 : ((I26 97 23) : Int32).toInt = (I 97 23).toInt := e43
  exact hN _ _ R hB28 hR0 hF0 ⟨(Eq.trans (e37) (Eq.trans hL0 (Eq.symm (e39)))), (Eq.trans (e41) (Eq.trans hL1 (Eq.symm (e43)))), (RT.kp (RT.kp hL2 k11 k12) k35 k36)⟩
set_option maxHeartbeats 2000000 in
theorem lc_2 {Q : Nat → Qt} {P : Kt} {L : Nat} {xs : Nat → Int32} (hc : Cl (AM 640) false true L xs 2 112 kL_law Q P) (hL : L ≤ 3584) {v3 : Int32} {I : Im} {J : Jm} {R : Rm} (hB0 : Bd I) (hR0 : RI R) (hF0 : Fl R) (hL0 : (I 3 1).toInt = (I 97 8).toInt) (hL1 : (I 1 13).toInt = (I 97 23).toInt) (hL2 : RT I) (h0 : 0 ≤ v3.toInt) (h7 : v3.toInt + 7 ≤ (L : Int)) (hN : ∀ (I : Im) (J : Jm) (R : Rm), Bd I → RI R → Fl R → RLk I → P 1889 112 [(0, .ref 0), (1, .ref 1), (2, .ref 97), (3, .int v3)] [] I J R) : P 270 112 [(0, .ref 0), (1, .ref 1), (2, .ref 97), (3, .int v3)] [] I J R := by
  have i_v3 := i32 v3
  refine ls_270 hc v3 _ _ _ ?_
  refine ⟨⟨hF0, rfl⟩, ?_⟩
  refine kp4 rfl (kp5 rfl hR0 rfl (kp0 rfl (kp1 rfl (kp2 rfl (kp3 rfl (sp_X11_bottom hB0 hR0 (fun x1 y6 I2 J3 hB4 p5 kq10 kq9 kq8 kq7 k12 k11 => ?_)))))))
  have b13 := Bd.o hB0 (show isO 112 3 6 = true from rfl) (show bnd 6 1 = some _ from rfl)
  have e14 : ((I2 3 1) : Int32).toInt = (I 3 1).toInt := Eq.trans (congrArg Int32.toInt kq7) rfl
  have kz15 : ((I2 3 1) : Int32).toInt = (I 3 1).toInt := e14
  have b16 := Bd.o hB0 (show isO 112 97 12 = true from rfl) (show bnd 12 8 = some _ from rfl)
  have e17 : ((I2 97 8) : Int32).toInt = (I 97 8).toInt := Eq.trans (congrArg Int32.toInt kq8) rfl
  have kz18 : ((I2 97 8) : Int32).toInt = (I 97 8).toInt := e17
  have b19 := Bd.o hB0 (show isO 112 1 11 = true from rfl) (show bnd 11 13 = some _ from rfl)
  have e20 : ((I2 1 13) : Int32).toInt = (I 1 13).toInt := Eq.trans (congrArg Int32.toInt kq9) rfl
  have kz21 : ((I2 1 13) : Int32).toInt = (I 1 13).toInt := e20
  have b22 := Bd.o hB0 (show isO 112 97 12 = true from rfl) (show bnd 12 23 = some _ from rfl)
  have e23 : ((I2 97 23) : Int32).toInt = (I 97 23).toInt := Eq.trans (congrArg Int32.toInt kq10) rfl
  have kz24 : ((I2 97 23) : Int32).toInt = (I 97 23).toInt := e23
  refine ⟨⟨hF0, rfl⟩, ?_⟩
  refine kp4 rfl (kp5 rfl hR0 rfl (kp0 rfl (kp1 rfl (kp2 rfl (kp3 rfl (sp_X12_bottom hB4 hR0 (fun x25 y30 I26 J27 hB28 p29 kq34 kq33 kq32 kq31 k36 k35 => ?_)))))))
  have e37 : ((I26 3 1) : Int32).toInt = (I 3 1).toInt := Eq.trans (congrArg Int32.toInt (Eq.trans kq31 kq7)) rfl
  have kz38 : ((I26 3 1) : Int32).toInt = (I 3 1).toInt := e37
  have e39 : ((I26 97 8) : Int32).toInt = (I 97 8).toInt := Eq.trans (congrArg Int32.toInt (Eq.trans kq32 kq8)) rfl
  have kz40 : ((I26 97 8) : Int32).toInt = (I 97 8).toInt := e39
  have e41 : ((I26 1 13) : Int32).toInt = (I 1 13).toInt := Eq.trans (congrArg Int32.toInt (Eq.trans kq33 kq9)) rfl
  have kz42 : ((I26 1 13) : Int32).toInt = (I 1 13).toInt := e41
  have e43 : ((I26 97 23) : Int32).toInt = (I 97 23).toInt := Eq.trans (congrArg Int32.toInt (Eq.trans kq34 kq10)) rfl
  have kz44 : ((I26 97 23) : Int32).toInt = (I 97 23).toInt := e43
  exact hN _ _ R hB28 hR0 hF0 ⟨(Eq.trans (e37) (Eq.trans hL0 (Eq.symm (e39)))), (Eq.trans (e41) (Eq.trans hL1 (Eq.symm (e43)))), (RT.kp (RT.kp hL2 k11 k12) k35 k36)⟩
set_option maxHeartbeats 2000000 in
theorem lc_3 {Q : Nat → Qt} {P : Kt} {L : Nat} {xs : Nat → Int32} (hc : Cl (AM 640) false true L xs 2 112 kL_law Q P) (hL : L ≤ 3584) {v3 : Int32} {I : Im} {J : Jm} {R : Rm} (hB0 : Bd I) (hR0 : RI R) (hF0 : Fl R) (hL0 : (I 3 1).toInt = (I 97 8).toInt) (hL1 : (I 1 13).toInt = (I 97 23).toInt) (hL2 : RT I) (h0 : 0 ≤ v3.toInt) (h7 : v3.toInt + 7 ≤ (L : Int)) (hN : ∀ (I : Im) (J : Jm) (R : Rm), Bd I → RI R → Fl R → RLk I → P 1889 112 [(0, .ref 0), (1, .ref 1), (2, .ref 97), (3, .int v3)] [] I J R) : P 283 112 [(0, .ref 0), (1, .ref 1), (2, .ref 97), (3, .int v3)] [] I J R := by
  have i_v3 := i32 v3
  refine ls_283 hc v3 _ _ _ ?_
  have e1 : ((v3 + 1) : Int32).toInt = (v3.toInt) + (1) := ti_add rfl rfl (by omega)
  refine ⟨vp_of (a := (v3.toInt + 1)) e1 (by omega) (by omega), ?_⟩
  have z2 := i32 (xs (Int32.toNatClampNeg (v3 + 1)))
  have e3 : ((v3 + 2) : Int32).toInt = (v3.toInt) + (2) := ti_add rfl rfl (by omega)
  refine ⟨vp_of (a := (v3.toInt + 2)) e3 (by omega) (by omega), ?_⟩
  have z4 := i32 (xs (Int32.toNatClampNeg (v3 + 2)))
  have e5 : ((v3 + 3) : Int32).toInt = (v3.toInt) + (3) := ti_add rfl rfl (by omega)
  refine ⟨vp_of (a := (v3.toInt + 3)) e5 (by omega) (by omega), ?_⟩
  have z6 := i32 (xs (Int32.toNatClampNeg (v3 + 3)))
  refine ⟨⟨hF0, rfl⟩, ?_⟩
  refine kp5 rfl hR0 rfl (kp0 rfl (kp1 rfl (kp2 rfl (kp3 rfl (sp_X11_tray hB0 hR0 (fun x7 y12 I8 J9 hB10 p11 kq16 kq15 kq14 kq13 k17 => ?_))))))
  intro o18
  have i19 := i32 x7
  have b20 := Bd.o hB0 (show isO 112 3 6 = true from rfl) (show bnd 6 1 = some _ from rfl)
  have e21 : ((I8 3 1) : Int32).toInt = (I 3 1).toInt := Eq.trans (congrArg Int32.toInt kq13) rfl
  have kz22 : ((I8 3 1) : Int32).toInt = (I 3 1).toInt := e21
  have b23 := Bd.o hB0 (show isO 112 97 12 = true from rfl) (show bnd 12 8 = some _ from rfl)
  have e24 : ((I8 97 8) : Int32).toInt = (I 97 8).toInt := Eq.trans (congrArg Int32.toInt kq14) rfl
  have kz25 : ((I8 97 8) : Int32).toInt = (I 97 8).toInt := e24
  have b26 := Bd.o hB0 (show isO 112 1 11 = true from rfl) (show bnd 11 13 = some _ from rfl)
  have e27 : ((I8 1 13) : Int32).toInt = (I 1 13).toInt := Eq.trans (congrArg Int32.toInt kq15) rfl
  have kz28 : ((I8 1 13) : Int32).toInt = (I 1 13).toInt := e27
  have b29 := Bd.o hB0 (show isO 112 97 12 = true from rfl) (show bnd 12 23 = some _ from rfl)
  have e30 : ((I8 97 23) : Int32).toInt = (I 97 23).toInt := Eq.trans (congrArg Int32.toInt kq16) rfl
  have kz31 : ((I8 97 23) : Int32).toInt = (I 97 23).toInt := e30
  refine ⟨vp_of (a := (v3.toInt + 1)) e1 (by omega) (by omega), ?_⟩
  have z32 := i32 (xs (Int32.toNatClampNeg (v3 + 1)))
  refine ⟨vp_of (a := (v3.toInt + 2)) e3 (by omega) (by omega), ?_⟩
  have z33 := i32 (xs (Int32.toNatClampNeg (v3 + 2)))
  refine ⟨vp_of (a := (v3.toInt + 3)) e5 (by omega) (by omega), ?_⟩
  have z34 := i32 (xs (Int32.toNatClampNeg (v3 + 3)))
  refine ⟨⟨hF0, rfl⟩, ?_⟩
  refine kp4 rfl (kp0 rfl (kp1 rfl (kp2 rfl (kp3 rfl (sp_X12_tray hB10 hR0 (fun x35 y40 I36 J37 hB38 p39 kq44 kq43 kq42 kq41 k45 => ?_))))))
  intro o46
  have i47 := i32 x35
  have e48 : ((I36 3 1) : Int32).toInt = (I 3 1).toInt := Eq.trans (congrArg Int32.toInt (Eq.trans kq41 kq13)) rfl
  have kz49 : ((I36 3 1) : Int32).toInt = (I 3 1).toInt := e48
  have e50 : ((I36 97 8) : Int32).toInt = (I 97 8).toInt := Eq.trans (congrArg Int32.toInt (Eq.trans kq42 kq14)) rfl
  have kz51 : ((I36 97 8) : Int32).toInt = (I 97 8).toInt := e50
  have e52 : ((I36 1 13) : Int32).toInt = (I 1 13).toInt := Eq.trans (congrArg Int32.toInt (Eq.trans kq43 kq15)) rfl
  have kz53 : ((I36 1 13) : Int32).toInt = (I 1 13).toInt := e52
  have e54 : ((I36 97 23) : Int32).toInt = (I 97 23).toInt := Eq.trans (congrArg Int32.toInt (Eq.trans kq44 kq16)) rfl
  have kz55 : ((I36 97 23) : Int32).toInt = (I 97 23).toInt := e54
  exact hN _ _ R hB38 hR0 hF0 ⟨(Eq.trans (e48) (Eq.trans hL0 (Eq.symm (e50)))), (Eq.trans (e52) (Eq.trans hL1 (Eq.symm (e54)))), (RT.tray hL2 hR0 p11.2 p39.2 (by have a := p11.1; have b := p39.1; omega) (fun z => by have a := p11.1; omega) k17 k45)⟩
set_option maxHeartbeats 2000000 in
theorem lc_4 {Q : Nat → Qt} {P : Kt} {L : Nat} {xs : Nat → Int32} (hc : Cl (AM 640) false true L xs 2 112 kL_law Q P) (hL : L ≤ 3584) {v3 : Int32} {I : Im} {J : Jm} {R : Rm} (hB0 : Bd I) (hR0 : RI R) (hF0 : Fl R) (hL0 : (I 3 1).toInt = (I 97 8).toInt) (hL1 : (I 1 13).toInt = (I 97 23).toInt) (hL2 : RT I) (h0 : 0 ≤ v3.toInt) (h7 : v3.toInt + 7 ≤ (L : Int)) (hN : ∀ (I : Im) (J : Jm) (R : Rm), Bd I → RI R → Fl R → RLk I → P 1889 112 [(0, .ref 0), (1, .ref 1), (2, .ref 97), (3, .int v3)] [] I J R) : P 326 112 [(0, .ref 0), (1, .ref 1), (2, .ref 97), (3, .int v3)] [] I J R := by
  have i_v3 := i32 v3
  refine ls_326 hc v3 _ _ _ ?_
  have e1 : ((v3 + 1) : Int32).toInt = (v3.toInt) + (1) := ti_add rfl rfl (by omega)
  refine ⟨vp_of (a := (v3.toInt + 1)) e1 (by omega) (by omega), ?_⟩
  have z2 := i32 (xs (Int32.toNatClampNeg (v3 + 1)))
  have e3 : ((v3 + 2) : Int32).toInt = (v3.toInt) + (2) := ti_add rfl rfl (by omega)
  refine ⟨vp_of (a := (v3.toInt + 2)) e3 (by omega) (by omega), ?_⟩
  have z4 := i32 (xs (Int32.toNatClampNeg (v3 + 2)))
  have e5 : ((v3 + 3) : Int32).toInt = (v3.toInt) + (3) := ti_add rfl rfl (by omega)
  refine ⟨vp_of (a := (v3.toInt + 3)) e5 (by omega) (by omega), ?_⟩
  have z6 := i32 (xs (Int32.toNatClampNeg (v3 + 3)))
  have e7 : ((v3 + 4) : Int32).toInt = (v3.toInt) + (4) := ti_add rfl rfl (by omega)
  refine ⟨vp_of (a := (v3.toInt + 4)) e7 (by omega) (by omega), ?_⟩
  have z8 := i32 (xs (Int32.toNatClampNeg (v3 + 4)))
  refine ⟨⟨hF0, rfl⟩, ?_⟩
  refine kp4 rfl (kp5 rfl hR0 rfl (kp0 rfl (kp1 rfl (kp2 rfl (kp3 rfl (sp_X11_write hB0 hR0 (fun x9 y14 I10 J11 hB12 p13 kq18 kq17 kq16 kq15 k20 k19 => ?_)))))))
  intro o21
  have i22 := i32 x9
  have b23 := Bd.o hB0 (show isO 112 3 6 = true from rfl) (show bnd 6 1 = some _ from rfl)
  have e24 : ((I10 3 1) : Int32).toInt = (I 3 1).toInt := Eq.trans (congrArg Int32.toInt kq15) rfl
  have kz25 : ((I10 3 1) : Int32).toInt = (I 3 1).toInt := e24
  have b26 := Bd.o hB0 (show isO 112 97 12 = true from rfl) (show bnd 12 8 = some _ from rfl)
  have e27 : ((I10 97 8) : Int32).toInt = (I 97 8).toInt := Eq.trans (congrArg Int32.toInt kq16) rfl
  have kz28 : ((I10 97 8) : Int32).toInt = (I 97 8).toInt := e27
  have b29 := Bd.o hB0 (show isO 112 1 11 = true from rfl) (show bnd 11 13 = some _ from rfl)
  have e30 : ((I10 1 13) : Int32).toInt = (I 1 13).toInt := Eq.trans (congrArg Int32.toInt kq17) rfl
  have kz31 : ((I10 1 13) : Int32).toInt = (I 1 13).toInt := e30
  have b32 := Bd.o hB0 (show isO 112 97 12 = true from rfl) (show bnd 12 23 = some _ from rfl)
  have e33 : ((I10 97 23) : Int32).toInt = (I 97 23).toInt := Eq.trans (congrArg Int32.toInt kq18) rfl
  have kz34 : ((I10 97 23) : Int32).toInt = (I 97 23).toInt := e33
  have hw35 : 0 ≤ ((xs (Int32.toNatClampNeg (v3 + 1))) : Int32).toInt → ((xs (Int32.toNatClampNeg (v3 + 1))) : Int32).toInt ≤ 3 → (I (R 2 (Int32.toNatClampNeg (xs (Int32.toNatClampNeg (v3 + 1))))) 1).toInt = (I10 99 (Int32.toNatClampNeg (xs (Int32.toNatClampNeg (v3 + 1))))).toInt := fun a b => RT.a1 hL2 hR0 k20 a b
  refine ⟨vp_of (a := (v3.toInt + 1)) e1 (by omega) (by omega), ?_⟩
  have z36 := i32 (xs (Int32.toNatClampNeg (v3 + 1)))
  refine ⟨vp_of (a := (v3.toInt + 2)) e3 (by omega) (by omega), ?_⟩
  have z37 := i32 (xs (Int32.toNatClampNeg (v3 + 2)))
  refine ⟨vp_of (a := (v3.toInt + 3)) e5 (by omega) (by omega), ?_⟩
  have z38 := i32 (xs (Int32.toNatClampNeg (v3 + 3)))
  refine ⟨vp_of (a := (v3.toInt + 4)) e7 (by omega) (by omega), ?_⟩
  have z39 := i32 (xs (Int32.toNatClampNeg (v3 + 4)))
  refine ⟨⟨hF0, rfl⟩, ?_⟩
  refine kp4 rfl (kp0 rfl (kp1 rfl (kp2 rfl (kp3 rfl (sp_X12_write hB12 hR0 (fun x40 y45 I41 J42 hB43 p44 kq49 kq48 kq47 kq46 k50 => ?_))))))
  intro o51
  have i52 := i32 x40
  have e53 : ((I41 3 1) : Int32).toInt = (I 3 1).toInt := Eq.trans (congrArg Int32.toInt (Eq.trans kq46 kq15)) rfl
  have kz54 : ((I41 3 1) : Int32).toInt = (I 3 1).toInt := e53
  have e55 : ((I41 97 8) : Int32).toInt = (I 97 8).toInt := Eq.trans (congrArg Int32.toInt (Eq.trans kq47 kq16)) rfl
  have kz56 : ((I41 97 8) : Int32).toInt = (I 97 8).toInt := e55
  have e57 : ((I41 1 13) : Int32).toInt = (I 1 13).toInt := Eq.trans (congrArg Int32.toInt (Eq.trans kq48 kq17)) rfl
  have kz58 : ((I41 1 13) : Int32).toInt = (I 1 13).toInt := e57
  have e59 : ((I41 97 23) : Int32).toInt = (I 97 23).toInt := Eq.trans (congrArg Int32.toInt (Eq.trans kq49 kq18)) rfl
  have kz60 : ((I41 97 23) : Int32).toInt = (I 97 23).toInt := e59
  exact hN _ _ R hB43 hR0 hF0 ⟨(Eq.trans (e53) (Eq.trans hL0 (Eq.symm (e55)))), (Eq.trans (e57) (Eq.trans hL1 (Eq.symm (e59)))), (RT.kp (RT.kp hL2 k19 k20) k50 (p44.2))⟩
set_option maxHeartbeats 2000000 in
theorem lc_5 {Q : Nat → Qt} {P : Kt} {L : Nat} {xs : Nat → Int32} (hc : Cl (AM 640) false true L xs 2 112 kL_law Q P) (hL : L ≤ 3584) {v3 : Int32} {I : Im} {J : Jm} {R : Rm} (hB0 : Bd I) (hR0 : RI R) (hF0 : Fl R) (hL0 : (I 3 1).toInt = (I 97 8).toInt) (hL1 : (I 1 13).toInt = (I 97 23).toInt) (hL2 : RT I) (h0 : 0 ≤ v3.toInt) (h7 : v3.toInt + 7 ≤ (L : Int)) (hN : ∀ (I : Im) (J : Jm) (R : Rm), Bd I → RI R → Fl R → RLk I → P 1889 112 [(0, .ref 0), (1, .ref 1), (2, .ref 97), (3, .int v3)] [] I J R) : P 399 112 [(0, .ref 0), (1, .ref 1), (2, .ref 97), (3, .int v3)] [] I J R := by
  have i_v3 := i32 v3
  refine ls_399 hc v3 _ _ _ ?_
  have e1 : ((v3 + 1) : Int32).toInt = (v3.toInt) + (1) := ti_add rfl rfl (by omega)
  refine ⟨vp_of (a := (v3.toInt + 1)) e1 (by omega) (by omega), ?_⟩
  have z2 := i32 (xs (Int32.toNatClampNeg (v3 + 1)))
  have e3 : ((v3 + 2) : Int32).toInt = (v3.toInt) + (2) := ti_add rfl rfl (by omega)
  refine ⟨vp_of (a := (v3.toInt + 2)) e3 (by omega) (by omega), ?_⟩
  have z4 := i32 (xs (Int32.toNatClampNeg (v3 + 2)))
  refine ⟨⟨hF0, rfl⟩, ?_⟩
  refine kp4 rfl (kp5 rfl hR0 rfl (kp0 rfl (kp1 rfl (kp2 rfl (kp3 rfl (sp_X11_read hB0 hR0 (fun x5 y10 I6 J7 hB8 p9 kq14 kq13 kq12 kq11 k16 k15 => ?_)))))))
  have b17 := Bd.o hB0 (show isO 112 3 6 = true from rfl) (show bnd 6 1 = some _ from rfl)
  have e18 : ((I6 3 1) : Int32).toInt = (I 3 1).toInt := Eq.trans (congrArg Int32.toInt kq11) rfl
  have kz19 : ((I6 3 1) : Int32).toInt = (I 3 1).toInt := e18
  have b20 := Bd.o hB0 (show isO 112 97 12 = true from rfl) (show bnd 12 8 = some _ from rfl)
  have e21 : ((I6 97 8) : Int32).toInt = (I 97 8).toInt := Eq.trans (congrArg Int32.toInt kq12) rfl
  have kz22 : ((I6 97 8) : Int32).toInt = (I 97 8).toInt := e21
  have b23 := Bd.o hB0 (show isO 112 1 11 = true from rfl) (show bnd 11 13 = some _ from rfl)
  have e24 : ((I6 1 13) : Int32).toInt = (I 1 13).toInt := Eq.trans (congrArg Int32.toInt kq13) rfl
  have kz25 : ((I6 1 13) : Int32).toInt = (I 1 13).toInt := e24
  have b26 := Bd.o hB0 (show isO 112 97 12 = true from rfl) (show bnd 12 23 = some _ from rfl)
  have e27 : ((I6 97 23) : Int32).toInt = (I 97 23).toInt := Eq.trans (congrArg Int32.toInt kq14) rfl
  have kz28 : ((I6 97 23) : Int32).toInt = (I 97 23).toInt := e27
  refine ⟨vp_of (a := (v3.toInt + 1)) e1 (by omega) (by omega), ?_⟩
  have z29 := i32 (xs (Int32.toNatClampNeg (v3 + 1)))
  refine ⟨vp_of (a := (v3.toInt + 2)) e3 (by omega) (by omega), ?_⟩
  have z30 := i32 (xs (Int32.toNatClampNeg (v3 + 2)))
  refine ⟨⟨hF0, rfl⟩, ?_⟩
  refine kp4 rfl (kp5 rfl hR0 rfl (kp0 rfl (kp1 rfl (kp2 rfl (kp3 rfl (sp_X12_read hB8 hR0 (fun x31 y36 I32 J33 hB34 p35 kq40 kq39 kq38 kq37 k42 k41 => ?_)))))))
  have e43 : ((I32 3 1) : Int32).toInt = (I 3 1).toInt := Eq.trans (congrArg Int32.toInt (Eq.trans kq37 kq11)) rfl
  have kz44 : ((I32 3 1) : Int32).toInt = (I 3 1).toInt := e43
  have e45 : ((I32 97 8) : Int32).toInt = (I 97 8).toInt := Eq.trans (congrArg Int32.toInt (Eq.trans kq38 kq12)) rfl
  have kz46 : ((I32 97 8) : Int32).toInt = (I 97 8).toInt := e45
  have e47 : ((I32 1 13) : Int32).toInt = (I 1 13).toInt := Eq.trans (congrArg Int32.toInt (Eq.trans kq39 kq13)) rfl
  have kz48 : ((I32 1 13) : Int32).toInt = (I 1 13).toInt := e47
  have e49 : ((I32 97 23) : Int32).toInt = (I 97 23).toInt := Eq.trans (congrArg Int32.toInt (Eq.trans kq40 kq14)) rfl
  have kz50 : ((I32 97 23) : Int32).toInt = (I 97 23).toInt := e49
  exact hN _ _ R hB34 hR0 hF0 ⟨(Eq.trans (e43) (Eq.trans hL0 (Eq.symm (e45)))), (Eq.trans (e47) (Eq.trans hL1 (Eq.symm (e49)))), (RT.kp (RT.kp hL2 k15 k16) k41 k42)⟩
set_option maxHeartbeats 2000000 in
theorem lc_6 {Q : Nat → Qt} {P : Kt} {L : Nat} {xs : Nat → Int32} (hc : Cl (AM 640) false true L xs 2 112 kL_law Q P) (hL : L ≤ 3584) {v3 : Int32} {I : Im} {J : Jm} {R : Rm} (hB0 : Bd I) (hR0 : RI R) (hF0 : Fl R) (hL0 : (I 3 1).toInt = (I 97 8).toInt) (hL1 : (I 1 13).toInt = (I 97 23).toInt) (hL2 : RT I) (h0 : 0 ≤ v3.toInt) (h7 : v3.toInt + 7 ≤ (L : Int)) (hN : ∀ (I : Im) (J : Jm) (R : Rm), Bd I → RI R → Fl R → RLk I → P 1889 112 [(0, .ref 0), (1, .ref 1), (2, .ref 97), (3, .int v3)] [] I J R) : P 432 112 [(0, .ref 0), (1, .ref 1), (2, .ref 97), (3, .int v3)] [] I J R := by
  have i_v3 := i32 v3
  refine ls_432 hc v3 _ _ _ ?_
  have e1 : ((v3 + 1) : Int32).toInt = (v3.toInt) + (1) := ti_add rfl rfl (by omega)
  refine ⟨vp_of (a := (v3.toInt + 1)) e1 (by omega) (by omega), ?_⟩
  have z2 := i32 (xs (Int32.toNatClampNeg (v3 + 1)))
  have e3 : ((v3 + 2) : Int32).toInt = (v3.toInt) + (2) := ti_add rfl rfl (by omega)
  refine ⟨vp_of (a := (v3.toInt + 2)) e3 (by omega) (by omega), ?_⟩
  have z4 := i32 (xs (Int32.toNatClampNeg (v3 + 2)))
  have e5 : ((v3 + 3) : Int32).toInt = (v3.toInt) + (3) := ti_add rfl rfl (by omega)
  refine ⟨vp_of (a := (v3.toInt + 3)) e5 (by omega) (by omega), ?_⟩
  have z6 := i32 (xs (Int32.toNatClampNeg (v3 + 3)))
  have e7 : ((v3 + 4) : Int32).toInt = (v3.toInt) + (4) := ti_add rfl rfl (by omega)
  refine ⟨vp_of (a := (v3.toInt + 4)) e7 (by omega) (by omega), ?_⟩
  have z8 := i32 (xs (Int32.toNatClampNeg (v3 + 4)))
  have e9 : ((v3 + 5) : Int32).toInt = (v3.toInt) + (5) := ti_add rfl rfl (by omega)
  refine ⟨vp_of (a := (v3.toInt + 5)) e9 (by omega) (by omega), ?_⟩
  have z10 := i32 (xs (Int32.toNatClampNeg (v3 + 5)))
  refine ⟨⟨hF0, rfl⟩, ?_⟩
  refine kp4 rfl (kp5 rfl hR0 rfl (kp0 rfl (kp1 rfl (kp2 rfl (kp3 rfl (sp_X11_pour hB0 hR0 (fun x11 y16 I12 J13 hB14 p15 kq20 kq19 kq18 kq17 k22 k21 => ?_)))))))
  intro o23
  have i24 := i32 x11
  have b25 := Bd.o hB0 (show isO 112 3 6 = true from rfl) (show bnd 6 1 = some _ from rfl)
  have e26 : ((I12 3 1) : Int32).toInt = (I 3 1).toInt := Eq.trans (congrArg Int32.toInt kq17) rfl
  have kz27 : ((I12 3 1) : Int32).toInt = (I 3 1).toInt := e26
  have b28 := Bd.o hB0 (show isO 112 97 12 = true from rfl) (show bnd 12 8 = some _ from rfl)
  have e29 : ((I12 97 8) : Int32).toInt = (I 97 8).toInt := Eq.trans (congrArg Int32.toInt kq18) rfl
  have kz30 : ((I12 97 8) : Int32).toInt = (I 97 8).toInt := e29
  have b31 := Bd.o hB0 (show isO 112 1 11 = true from rfl) (show bnd 11 13 = some _ from rfl)
  have e32 : ((I12 1 13) : Int32).toInt = (I 1 13).toInt := Eq.trans (congrArg Int32.toInt kq19) rfl
  have kz33 : ((I12 1 13) : Int32).toInt = (I 1 13).toInt := e32
  have b34 := Bd.o hB0 (show isO 112 97 12 = true from rfl) (show bnd 12 23 = some _ from rfl)
  have e35 : ((I12 97 23) : Int32).toInt = (I 97 23).toInt := Eq.trans (congrArg Int32.toInt kq20) rfl
  have kz36 : ((I12 97 23) : Int32).toInt = (I 97 23).toInt := e35
  have hw37 : 0 ≤ ((xs (Int32.toNatClampNeg (v3 + 1))) : Int32).toInt → ((xs (Int32.toNatClampNeg (v3 + 1))) : Int32).toInt ≤ 3 → (I (R 2 (Int32.toNatClampNeg (xs (Int32.toNatClampNeg (v3 + 1))))) 1).toInt = (I12 99 (Int32.toNatClampNeg (xs (Int32.toNatClampNeg (v3 + 1))))).toInt := fun a b => RT.a1 hL2 hR0 k22 a b
  have hw38 : 0 ≤ ((xs (Int32.toNatClampNeg (v3 + 1))) : Int32).toInt → ((xs (Int32.toNatClampNeg (v3 + 1))) : Int32).toInt ≤ 3 → (I (R 2 (Int32.toNatClampNeg (xs (Int32.toNatClampNeg (v3 + 1))))) 0).toInt = (I12 98 (Int32.toNatClampNeg (xs (Int32.toNatClampNeg (v3 + 1))))).toInt := fun a b => RT.a0 hL2 hR0 k22 a b
  have hw39 : 0 ≤ ((xs (Int32.toNatClampNeg (v3 + 3))) : Int32).toInt → ((xs (Int32.toNatClampNeg (v3 + 3))) : Int32).toInt ≤ 3 → (I (R 2 (Int32.toNatClampNeg (xs (Int32.toNatClampNeg (v3 + 3))))) 1).toInt = (I12 99 (Int32.toNatClampNeg (xs (Int32.toNatClampNeg (v3 + 3))))).toInt := fun a b => RT.a1 hL2 hR0 k22 a b
  have hw40 : 0 ≤ ((xs (Int32.toNatClampNeg (v3 + 3))) : Int32).toInt → ((xs (Int32.toNatClampNeg (v3 + 3))) : Int32).toInt ≤ 3 → (I (R 2 (Int32.toNatClampNeg (xs (Int32.toNatClampNeg (v3 + 3))))) 0).toInt = (I12 98 (Int32.toNatClampNeg (xs (Int32.toNatClampNeg (v3 + 3))))).toInt := fun a b => RT.a0 hL2 hR0 k22 a b
  refine ⟨vp_of (a := (v3.toInt + 1)) e1 (by omega) (by omega), ?_⟩
  have z41 := i32 (xs (Int32.toNatClampNeg (v3 + 1)))
  refine ⟨vp_of (a := (v3.toInt + 2)) e3 (by omega) (by omega), ?_⟩
  have z42 := i32 (xs (Int32.toNatClampNeg (v3 + 2)))
  refine ⟨vp_of (a := (v3.toInt + 3)) e5 (by omega) (by omega), ?_⟩
  have z43 := i32 (xs (Int32.toNatClampNeg (v3 + 3)))
  refine ⟨vp_of (a := (v3.toInt + 4)) e7 (by omega) (by omega), ?_⟩
  have z44 := i32 (xs (Int32.toNatClampNeg (v3 + 4)))
  refine ⟨vp_of (a := (v3.toInt + 5)) e9 (by omega) (by omega), ?_⟩
  have z45 := i32 (xs (Int32.toNatClampNeg (v3 + 5)))
  refine ⟨⟨hF0, rfl⟩, ?_⟩
  refine kp4 rfl (kp0 rfl (kp1 rfl (kp2 rfl (kp3 rfl (sp_X12_pour hB14 hR0 (fun x46 y51 I47 J48 hB49 p50 kq55 kq54 kq53 kq52 k56 => ?_))))))
  intro o57
  have i58 := i32 x46
  have e59 : ((I47 3 1) : Int32).toInt = (I 3 1).toInt := Eq.trans (congrArg Int32.toInt (Eq.trans kq52 kq17)) rfl
  have kz60 : ((I47 3 1) : Int32).toInt = (I 3 1).toInt := e59
  have e61 : ((I47 97 8) : Int32).toInt = (I 97 8).toInt := Eq.trans (congrArg Int32.toInt (Eq.trans kq53 kq18)) rfl
  have kz62 : ((I47 97 8) : Int32).toInt = (I 97 8).toInt := e61
  have e63 : ((I47 1 13) : Int32).toInt = (I 1 13).toInt := Eq.trans (congrArg Int32.toInt (Eq.trans kq54 kq19)) rfl
  have kz64 : ((I47 1 13) : Int32).toInt = (I 1 13).toInt := e63
  have e65 : ((I47 97 23) : Int32).toInt = (I 97 23).toInt := Eq.trans (congrArg Int32.toInt (Eq.trans kq55 kq20)) rfl
  have kz66 : ((I47 97 23) : Int32).toInt = (I 97 23).toInt := e65
  exact hN _ _ R hB49 hR0 hF0 ⟨(Eq.trans (e59) (Eq.trans hL0 (Eq.symm (e61)))), (Eq.trans (e63) (Eq.trans hL1 (Eq.symm (e65)))), (RT.kp (RT.kp hL2 k21 k22) k56 (p50.2))⟩
set_option maxHeartbeats 2000000 in
theorem lc_7 {Q : Nat → Qt} {P : Kt} {L : Nat} {xs : Nat → Int32} (hc : Cl (AM 640) false true L xs 2 112 kL_law Q P) (hL : L ≤ 3584) {v3 : Int32} {I : Im} {J : Jm} {R : Rm} (hB0 : Bd I) (hR0 : RI R) (hF0 : Fl R) (hL0 : (I 3 1).toInt = (I 97 8).toInt) (hL1 : (I 1 13).toInt = (I 97 23).toInt) (hL2 : RT I) (h0 : 0 ≤ v3.toInt) (h7 : v3.toInt + 7 ≤ (L : Int)) (hN : ∀ (I : Im) (J : Jm) (R : Rm), Bd I → RI R → Fl R → RLk I → P 1889 112 [(0, .ref 0), (1, .ref 1), (2, .ref 97), (3, .int v3)] [] I J R) : P 495 112 [(0, .ref 0), (1, .ref 1), (2, .ref 97), (3, .int v3)] [] I J R := by
  have i_v3 := i32 v3
  refine ls_495 hc v3 _ _ _ ?_
  have e1 : ((v3 + 1) : Int32).toInt = (v3.toInt) + (1) := ti_add rfl rfl (by omega)
  refine ⟨vp_of (a := (v3.toInt + 1)) e1 (by omega) (by omega), ?_⟩
  have z2 := i32 (xs (Int32.toNatClampNeg (v3 + 1)))
  have e3 : ((v3 + 2) : Int32).toInt = (v3.toInt) + (2) := ti_add rfl rfl (by omega)
  refine ⟨vp_of (a := (v3.toInt + 2)) e3 (by omega) (by omega), ?_⟩
  have z4 := i32 (xs (Int32.toNatClampNeg (v3 + 2)))
  have e5 : ((v3 + 3) : Int32).toInt = (v3.toInt) + (3) := ti_add rfl rfl (by omega)
  refine ⟨vp_of (a := (v3.toInt + 3)) e5 (by omega) (by omega), ?_⟩
  have z6 := i32 (xs (Int32.toNatClampNeg (v3 + 3)))
  have e7 : ((v3 + 4) : Int32).toInt = (v3.toInt) + (4) := ti_add rfl rfl (by omega)
  refine ⟨vp_of (a := (v3.toInt + 4)) e7 (by omega) (by omega), ?_⟩
  have z8 := i32 (xs (Int32.toNatClampNeg (v3 + 4)))
  have e9 : ((v3 + 5) : Int32).toInt = (v3.toInt) + (5) := ti_add rfl rfl (by omega)
  refine ⟨vp_of (a := (v3.toInt + 5)) e9 (by omega) (by omega), ?_⟩
  have z10 := i32 (xs (Int32.toNatClampNeg (v3 + 5)))
  refine ⟨⟨hF0, rfl⟩, ?_⟩
  refine kp4 rfl (kp5 rfl hR0 rfl (kp1 rfl (kp2 rfl (kp3 rfl (sp_X11_feed hB0 hR0 (fun x11 y16 I12 J13 hB14 p15 kq19 kq18 kq17 k21 k20 => ?_))))))
  have b22 := Bd.o hB0 (show isO 112 3 6 = true from rfl) (show bnd 6 1 = some _ from rfl)
  have b23 := Bd.o hB14 (show isO 112 3 6 = true from rfl) (show bnd 6 1 = some _ from rfl)
  have i24 := i32 x11
  have b25 := Bd.o hB0 (show isO 112 97 12 = true from rfl) (show bnd 12 8 = some _ from rfl)
  have e26 : ((I12 97 8) : Int32).toInt = (I 97 8).toInt := Eq.trans (congrArg Int32.toInt kq17) rfl
  have kz27 : ((I12 97 8) : Int32).toInt = (I 97 8).toInt := e26
  have b28 := Bd.o hB0 (show isO 112 1 11 = true from rfl) (show bnd 11 13 = some _ from rfl)
  have e29 : ((I12 1 13) : Int32).toInt = (I 1 13).toInt := Eq.trans (congrArg Int32.toInt kq18) rfl
  have kz30 : ((I12 1 13) : Int32).toInt = (I 1 13).toInt := e29
  have b31 := Bd.o hB0 (show isO 112 97 12 = true from rfl) (show bnd 12 23 = some _ from rfl)
  have e32 : ((I12 97 23) : Int32).toInt = (I 97 23).toInt := Eq.trans (congrArg Int32.toInt kq19) rfl
  have kz33 : ((I12 97 23) : Int32).toInt = (I 97 23).toInt := e32
  refine ⟨vp_of (a := (v3.toInt + 1)) e1 (by omega) (by omega), ?_⟩
  have z34 := i32 (xs (Int32.toNatClampNeg (v3 + 1)))
  refine ⟨vp_of (a := (v3.toInt + 2)) e3 (by omega) (by omega), ?_⟩
  have z35 := i32 (xs (Int32.toNatClampNeg (v3 + 2)))
  refine ⟨vp_of (a := (v3.toInt + 3)) e5 (by omega) (by omega), ?_⟩
  have z36 := i32 (xs (Int32.toNatClampNeg (v3 + 3)))
  refine ⟨vp_of (a := (v3.toInt + 4)) e7 (by omega) (by omega), ?_⟩
  have z37 := i32 (xs (Int32.toNatClampNeg (v3 + 4)))
  refine ⟨vp_of (a := (v3.toInt + 5)) e9 (by omega) (by omega), ?_⟩
  have z38 := i32 (xs (Int32.toNatClampNeg (v3 + 5)))
  refine ⟨⟨hF0, rfl⟩, ?_⟩
  refine kp4 rfl (kp5 rfl hR0 rfl (kp0 rfl (kp2 rfl (kp3 rfl (sp_X12_feed hB14 hR0 (fun x39 y44 I40 J41 hB42 p43 kq47 kq46 kq45 k49 k48 => ?_))))))
  have b50 := Bd.o hB42 (show isO 112 97 12 = true from rfl) (show bnd 12 8 = some _ from rfl)
  have i51 := i32 x39
  have e52 : ((I40 3 1) : Int32).toInt = (I12 3 1).toInt := Eq.trans (congrArg Int32.toInt kq45) rfl
  have kz53 : ((I40 3 1) : Int32).toInt = (I12 3 1).toInt := e52
  have e54 : ((I40 1 13) : Int32).toInt = (I 1 13).toInt := Eq.trans (congrArg Int32.toInt (Eq.trans kq46 kq18)) rfl
  have kz55 : ((I40 1 13) : Int32).toInt = (I 1 13).toInt := e54
  have e56 : ((I40 97 23) : Int32).toInt = (I 97 23).toInt := Eq.trans (congrArg Int32.toInt (Eq.trans kq47 kq19)) rfl
  have kz57 : ((I40 97 23) : Int32).toInt = (I 97 23).toInt := e56
  refine ⟨fun c58 => ?_, fun c58 => ?_⟩
  · skip
    have d59 : ((x11.toInt) : Int) = (x39.toInt) := ci_eq rfl rfl c58
    exact hN _ _ R hB42 hR0 hF0 ⟨(by have ya : ((I40 3 1) : Int32).toInt = (I12 3 1).toInt := e52; have yb : ((I40 97 8) : Int32).toInt = (I40 97 8).toInt := rfl; omega), (Eq.trans (e54) (Eq.trans hL1 (Eq.symm (e56)))), (RT.kp (RT.kp hL2 k20 k21) k48 k49)⟩
  · skip
    have d60 : ¬ ((x11.toInt) : Int) = (x39.toInt) := ci_ne rfl rfl c58
    exfalso
    omega
set_option maxHeartbeats 2000000 in
theorem lc_8 {Q : Nat → Qt} {P : Kt} {L : Nat} {xs : Nat → Int32} (hc : Cl (AM 640) false true L xs 2 112 kL_law Q P) (hL : L ≤ 3584) {v3 : Int32} {I : Im} {J : Jm} {R : Rm} (hB0 : Bd I) (hR0 : RI R) (hF0 : Fl R) (hL0 : (I 3 1).toInt = (I 97 8).toInt) (hL1 : (I 1 13).toInt = (I 97 23).toInt) (hL2 : RT I) (h0 : 0 ≤ v3.toInt) (h7 : v3.toInt + 7 ≤ (L : Int)) (hN : ∀ (I : Im) (J : Jm) (R : Rm), Bd I → RI R → Fl R → RLk I → P 1889 112 [(0, .ref 0), (1, .ref 1), (2, .ref 97), (3, .int v3)] [] I J R) : P 558 112 [(0, .ref 0), (1, .ref 1), (2, .ref 97), (3, .int v3)] [] I J R := by
  have i_v3 := i32 v3
  refine ls_558 hc v3 _ _ _ ?_
  have e1 : ((v3 + 1) : Int32).toInt = (v3.toInt) + (1) := ti_add rfl rfl (by omega)
  refine ⟨vp_of (a := (v3.toInt + 1)) e1 (by omega) (by omega), ?_⟩
  have z2 := i32 (xs (Int32.toNatClampNeg (v3 + 1)))
  refine ⟨⟨hF0, rfl⟩, ?_⟩
  refine kp4 rfl (kp5 rfl hR0 rfl (kp1 rfl (kp2 rfl (kp3 rfl (sp_X11_bakery hB0 hR0 (fun x3 y4 I5 J6 R7 hB8 hR9 hL10 p11 kq14 kq13 kq12 k16 k15 => ?_))))))
  have b17 := Bd.o hB8 (show isO 112 3 6 = true from rfl) (show bnd 6 1 = some _ from rfl)
  have b18 := Bd.o hB0 (show isO 112 97 12 = true from rfl) (show bnd 12 8 = some _ from rfl)
  have e19 : ((I5 97 8) : Int32).toInt = (I 97 8).toInt := Eq.trans (congrArg Int32.toInt kq12) rfl
  have kz20 : ((I5 97 8) : Int32).toInt = (I 97 8).toInt := e19
  have b21 := Bd.o hB0 (show isO 112 1 11 = true from rfl) (show bnd 11 13 = some _ from rfl)
  have e22 : ((I5 1 13) : Int32).toInt = (I 1 13).toInt := Eq.trans (congrArg Int32.toInt kq13) rfl
  have kz23 : ((I5 1 13) : Int32).toInt = (I 1 13).toInt := e22
  have b24 := Bd.o hB0 (show isO 112 97 12 = true from rfl) (show bnd 12 23 = some _ from rfl)
  have e25 : ((I5 97 23) : Int32).toInt = (I 97 23).toInt := Eq.trans (congrArg Int32.toInt kq14) rfl
  have kz26 : ((I5 97 23) : Int32).toInt = (I 97 23).toInt := e25
  refine ⟨vp_of (a := (v3.toInt + 1)) e1 (by omega) (by omega), ?_⟩
  have z27 := i32 (xs (Int32.toNatClampNeg (v3 + 1)))
  refine ⟨⟨(hL10 hF0), rfl⟩, ?_⟩
  refine kp4 rfl (kp5 rfl hR9 rfl (kp0 rfl (kp2 rfl (kp3 rfl (sp_X12_bakery hB8 hR9 (fun x28 y33 I29 J30 hB31 p32 kq36 kq35 kq34 k38 k37 => ?_))))))
  have b39 := Bd.o hB31 (show isO 112 97 12 = true from rfl) (show bnd 12 8 = some _ from rfl)
  have i40 := i32 x28
  have e41 : ((I29 3 1) : Int32).toInt = (I5 3 1).toInt := Eq.trans (congrArg Int32.toInt kq34) rfl
  have kz42 : ((I29 3 1) : Int32).toInt = (I5 3 1).toInt := e41
  have e43 : ((I29 1 13) : Int32).toInt = (I 1 13).toInt := Eq.trans (congrArg Int32.toInt (Eq.trans kq35 kq13)) rfl
  have kz44 : ((I29 1 13) : Int32).toInt = (I 1 13).toInt := e43
  have e45 : ((I29 97 23) : Int32).toInt = (I 97 23).toInt := Eq.trans (congrArg Int32.toInt (Eq.trans kq36 kq14)) rfl
  have kz46 : ((I29 97 23) : Int32).toInt = (I 97 23).toInt := e45
  exact hN _ _ R7 hB31 hR9 (hL10 hF0) ⟨(by have ya : ((I29 3 1) : Int32).toInt = (I5 3 1).toInt := e41; have yb : ((I29 97 8) : Int32).toInt = (I29 97 8).toInt := rfl; omega), (Eq.trans (e43) (Eq.trans hL1 (Eq.symm (e45)))), (RT.kp (RT.kp hL2 k15 k16) k37 k38)⟩
set_option maxHeartbeats 2000000 in
theorem lc_9 {Q : Nat → Qt} {P : Kt} {L : Nat} {xs : Nat → Int32} (hc : Cl (AM 640) false true L xs 2 112 kL_law Q P) (hL : L ≤ 3584) {v3 : Int32} {I : Im} {J : Jm} {R : Rm} (hB0 : Bd I) (hR0 : RI R) (hF0 : Fl R) (hL0 : (I 3 1).toInt = (I 97 8).toInt) (hL1 : (I 1 13).toInt = (I 97 23).toInt) (hL2 : RT I) (h0 : 0 ≤ v3.toInt) (h7 : v3.toInt + 7 ≤ (L : Int)) (hN : ∀ (I : Im) (J : Jm) (R : Rm), Bd I → RI R → Fl R → RLk I → P 1889 112 [(0, .ref 0), (1, .ref 1), (2, .ref 97), (3, .int v3)] [] I J R) : P 581 112 [(0, .ref 0), (1, .ref 1), (2, .ref 97), (3, .int v3)] [] I J R := by
  have i_v3 := i32 v3
  refine ls_581 hc v3 _ _ _ ?_
  have e1 : ((v3 + 1) : Int32).toInt = (v3.toInt) + (1) := ti_add rfl rfl (by omega)
  refine ⟨vp_of (a := (v3.toInt + 1)) e1 (by omega) (by omega), ?_⟩
  have z2 := i32 (xs (Int32.toNatClampNeg (v3 + 1)))
  refine ⟨⟨hF0, rfl⟩, ?_⟩
  refine kp4 rfl (kp5 rfl hR0 rfl (kp1 rfl (kp2 rfl (kp3 rfl (sp_X11_days hB0 hR0 (fun x3 y4 I5 J6 R7 hB8 hR9 hL10 p11 kq14 kq13 kq12 k16 k15 => ?_))))))
  have b17 := Bd.o hB8 (show isO 112 3 6 = true from rfl) (show bnd 6 1 = some _ from rfl)
  have b18 := Bd.o hB0 (show isO 112 97 12 = true from rfl) (show bnd 12 8 = some _ from rfl)
  have e19 : ((I5 97 8) : Int32).toInt = (I 97 8).toInt := Eq.trans (congrArg Int32.toInt kq12) rfl
  have kz20 : ((I5 97 8) : Int32).toInt = (I 97 8).toInt := e19
  have b21 := Bd.o hB0 (show isO 112 1 11 = true from rfl) (show bnd 11 13 = some _ from rfl)
  have e22 : ((I5 1 13) : Int32).toInt = (I 1 13).toInt := Eq.trans (congrArg Int32.toInt kq13) rfl
  have kz23 : ((I5 1 13) : Int32).toInt = (I 1 13).toInt := e22
  have b24 := Bd.o hB0 (show isO 112 97 12 = true from rfl) (show bnd 12 23 = some _ from rfl)
  have e25 : ((I5 97 23) : Int32).toInt = (I 97 23).toInt := Eq.trans (congrArg Int32.toInt kq14) rfl
  have kz26 : ((I5 97 23) : Int32).toInt = (I 97 23).toInt := e25
  refine ⟨vp_of (a := (v3.toInt + 1)) e1 (by omega) (by omega), ?_⟩
  have z27 := i32 (xs (Int32.toNatClampNeg (v3 + 1)))
  refine ⟨⟨(hL10 hF0), rfl⟩, ?_⟩
  refine kp4 rfl (kp5 rfl hR9 rfl (kp0 rfl (kp2 rfl (kp3 rfl (sp_X12_days hB8 hR9 (fun x28 y33 I29 J30 hB31 p32 kq36 kq35 kq34 k38 k37 => ?_))))))
  have b39 := Bd.o hB31 (show isO 112 97 12 = true from rfl) (show bnd 12 8 = some _ from rfl)
  have i40 := i32 x28
  have e41 : ((I29 3 1) : Int32).toInt = (I5 3 1).toInt := Eq.trans (congrArg Int32.toInt kq34) rfl
  have kz42 : ((I29 3 1) : Int32).toInt = (I5 3 1).toInt := e41
  have e43 : ((I29 1 13) : Int32).toInt = (I 1 13).toInt := Eq.trans (congrArg Int32.toInt (Eq.trans kq35 kq13)) rfl
  have kz44 : ((I29 1 13) : Int32).toInt = (I 1 13).toInt := e43
  have e45 : ((I29 97 23) : Int32).toInt = (I 97 23).toInt := Eq.trans (congrArg Int32.toInt (Eq.trans kq36 kq14)) rfl
  have kz46 : ((I29 97 23) : Int32).toInt = (I 97 23).toInt := e45
  exact hN _ _ R7 hB31 hR9 (hL10 hF0) ⟨(by have ya : ((I29 3 1) : Int32).toInt = (I5 3 1).toInt := e41; have yb : ((I29 97 8) : Int32).toInt = (I29 97 8).toInt := rfl; omega), (Eq.trans (e43) (Eq.trans hL1 (Eq.symm (e45)))), (RT.kp (RT.kp hL2 k15 k16) k37 k38)⟩
set_option maxHeartbeats 2000000 in
theorem lc_10 {Q : Nat → Qt} {P : Kt} {L : Nat} {xs : Nat → Int32} (hc : Cl (AM 640) false true L xs 2 112 kL_law Q P) (hL : L ≤ 3584) {v3 : Int32} {I : Im} {J : Jm} {R : Rm} (hB0 : Bd I) (hR0 : RI R) (hF0 : Fl R) (hL0 : (I 3 1).toInt = (I 97 8).toInt) (hL1 : (I 1 13).toInt = (I 97 23).toInt) (hL2 : RT I) (h0 : 0 ≤ v3.toInt) (h7 : v3.toInt + 7 ≤ (L : Int)) (hN : ∀ (I : Im) (J : Jm) (R : Rm), Bd I → RI R → Fl R → RLk I → P 1889 112 [(0, .ref 0), (1, .ref 1), (2, .ref 97), (3, .int v3)] [] I J R) : P 604 112 [(0, .ref 0), (1, .ref 1), (2, .ref 97), (3, .int v3)] [] I J R := by
  have i_v3 := i32 v3
  refine ls_604 hc v3 _ _ _ ?_
  have e1 : ((v3 + 1) : Int32).toInt = (v3.toInt) + (1) := ti_add rfl rfl (by omega)
  refine ⟨vp_of (a := (v3.toInt + 1)) e1 (by omega) (by omega), ?_⟩
  have z2 := i32 (xs (Int32.toNatClampNeg (v3 + 1)))
  refine ⟨⟨hF0, rfl⟩, ?_⟩
  refine kp4 rfl (kp5 rfl hR0 rfl (kp0 rfl (kp1 rfl (kp2 rfl (kp3 rfl (sp_X11_fault hB0 hR0 (fun x3 y8 I4 J5 hB6 p7 kq12 kq11 kq10 kq9 k14 k13 => ?_)))))))
  have i15 := i32 x3
  have b16 := Bd.o hB0 (show isO 112 3 6 = true from rfl) (show bnd 6 1 = some _ from rfl)
  have e17 : ((I4 3 1) : Int32).toInt = (I 3 1).toInt := Eq.trans (congrArg Int32.toInt kq9) rfl
  have kz18 : ((I4 3 1) : Int32).toInt = (I 3 1).toInt := e17
  have b19 := Bd.o hB0 (show isO 112 97 12 = true from rfl) (show bnd 12 8 = some _ from rfl)
  have e20 : ((I4 97 8) : Int32).toInt = (I 97 8).toInt := Eq.trans (congrArg Int32.toInt kq10) rfl
  have kz21 : ((I4 97 8) : Int32).toInt = (I 97 8).toInt := e20
  have b22 := Bd.o hB0 (show isO 112 1 11 = true from rfl) (show bnd 11 13 = some _ from rfl)
  have e23 : ((I4 1 13) : Int32).toInt = (I 1 13).toInt := Eq.trans (congrArg Int32.toInt kq11) rfl
  have kz24 : ((I4 1 13) : Int32).toInt = (I 1 13).toInt := e23
  have b25 := Bd.o hB0 (show isO 112 97 12 = true from rfl) (show bnd 12 23 = some _ from rfl)
  have e26 : ((I4 97 23) : Int32).toInt = (I 97 23).toInt := Eq.trans (congrArg Int32.toInt kq12) rfl
  have kz27 : ((I4 97 23) : Int32).toInt = (I 97 23).toInt := e26
  refine ⟨vp_of (a := (v3.toInt + 1)) e1 (by omega) (by omega), ?_⟩
  have z28 := i32 (xs (Int32.toNatClampNeg (v3 + 1)))
  refine ⟨⟨hF0, rfl⟩, ?_⟩
  refine kp4 rfl (kp5 rfl hR0 rfl (kp0 rfl (kp1 rfl (kp2 rfl (kp3 rfl (sp_X12_fault hB6 hR0 (fun x29 y34 I30 J31 hB32 p33 kq38 kq37 kq36 kq35 k40 k39 => ?_)))))))
  have i41 := i32 x29
  have e42 : ((I30 3 1) : Int32).toInt = (I 3 1).toInt := Eq.trans (congrArg Int32.toInt (Eq.trans kq35 kq9)) rfl
  have kz43 : ((I30 3 1) : Int32).toInt = (I 3 1).toInt := e42
  have e44 : ((I30 97 8) : Int32).toInt = (I 97 8).toInt := Eq.trans (congrArg Int32.toInt (Eq.trans kq36 kq10)) rfl
  have kz45 : ((I30 97 8) : Int32).toInt = (I 97 8).toInt := e44
  have e46 : ((I30 1 13) : Int32).toInt = (I 1 13).toInt := Eq.trans (congrArg Int32.toInt (Eq.trans kq37 kq11)) rfl
  have kz47 : ((I30 1 13) : Int32).toInt = (I 1 13).toInt := e46
  have e48 : ((I30 97 23) : Int32).toInt = (I 97 23).toInt := Eq.trans (congrArg Int32.toInt (Eq.trans kq38 kq12)) rfl
  have kz49 : ((I30 97 23) : Int32).toInt = (I 97 23).toInt := e48
  exact hN _ _ R hB32 hR0 hF0 ⟨(Eq.trans (e42) (Eq.trans hL0 (Eq.symm (e44)))), (Eq.trans (e46) (Eq.trans hL1 (Eq.symm (e48)))), (RT.kp (RT.kp hL2 k13 k14) k39 k40)⟩
set_option maxHeartbeats 2000000 in
theorem lc_11 {Q : Nat → Qt} {P : Kt} {L : Nat} {xs : Nat → Int32} (hc : Cl (AM 640) false true L xs 2 112 kL_law Q P) (hL : L ≤ 3584) {v3 : Int32} {I : Im} {J : Jm} {R : Rm} (hB0 : Bd I) (hR0 : RI R) (hF0 : Fl R) (hL0 : (I 3 1).toInt = (I 97 8).toInt) (hL1 : (I 1 13).toInt = (I 97 23).toInt) (hL2 : RT I) (h0 : 0 ≤ v3.toInt) (h7 : v3.toInt + 7 ≤ (L : Int)) (hN : ∀ (I : Im) (J : Jm) (R : Rm), Bd I → RI R → Fl R → RLk I → P 1889 112 [(0, .ref 0), (1, .ref 1), (2, .ref 97), (3, .int v3)] [] I J R) : P 627 112 [(0, .ref 0), (1, .ref 1), (2, .ref 97), (3, .int v3)] [] I J R := by
  have i_v3 := i32 v3
  refine ls_627 hc v3 _ _ _ ?_
  have e1 : ((v3 + 1) : Int32).toInt = (v3.toInt) + (1) := ti_add rfl rfl (by omega)
  refine ⟨vp_of (a := (v3.toInt + 1)) e1 (by omega) (by omega), ?_⟩
  have z2 := i32 (xs (Int32.toNatClampNeg (v3 + 1)))
  refine ⟨⟨hF0, rfl⟩, ?_⟩
  refine kp4 rfl (kp5 rfl hR0 rfl (kp0 rfl (kp1 rfl (kp2 rfl (kp3 rfl (sp_X11_many hB0 hR0 (fun x3 y8 I4 J5 hB6 p7 kq12 kq11 kq10 kq9 k14 k13 => ?_)))))))
  have i15 := i32 x3
  have b16 := Bd.o hB0 (show isO 112 3 6 = true from rfl) (show bnd 6 1 = some _ from rfl)
  have e17 : ((I4 3 1) : Int32).toInt = (I 3 1).toInt := Eq.trans (congrArg Int32.toInt kq9) rfl
  have kz18 : ((I4 3 1) : Int32).toInt = (I 3 1).toInt := e17
  have b19 := Bd.o hB0 (show isO 112 97 12 = true from rfl) (show bnd 12 8 = some _ from rfl)
  have e20 : ((I4 97 8) : Int32).toInt = (I 97 8).toInt := Eq.trans (congrArg Int32.toInt kq10) rfl
  have kz21 : ((I4 97 8) : Int32).toInt = (I 97 8).toInt := e20
  have b22 := Bd.o hB0 (show isO 112 1 11 = true from rfl) (show bnd 11 13 = some _ from rfl)
  have e23 : ((I4 1 13) : Int32).toInt = (I 1 13).toInt := Eq.trans (congrArg Int32.toInt kq11) rfl
  have kz24 : ((I4 1 13) : Int32).toInt = (I 1 13).toInt := e23
  have b25 := Bd.o hB0 (show isO 112 97 12 = true from rfl) (show bnd 12 23 = some _ from rfl)
  have e26 : ((I4 97 23) : Int32).toInt = (I 97 23).toInt := Eq.trans (congrArg Int32.toInt kq12) rfl
  have kz27 : ((I4 97 23) : Int32).toInt = (I 97 23).toInt := e26
  refine ⟨vp_of (a := (v3.toInt + 1)) e1 (by omega) (by omega), ?_⟩
  have z28 := i32 (xs (Int32.toNatClampNeg (v3 + 1)))
  refine ⟨⟨hF0, rfl⟩, ?_⟩
  refine kp4 rfl (kp5 rfl hR0 rfl (kp0 rfl (kp1 rfl (kp2 rfl (kp3 rfl (sp_X12_many hB6 hR0 (fun x29 y34 I30 J31 hB32 p33 kq38 kq37 kq36 kq35 k40 k39 => ?_)))))))
  have i41 := i32 x29
  have e42 : ((I30 3 1) : Int32).toInt = (I 3 1).toInt := Eq.trans (congrArg Int32.toInt (Eq.trans kq35 kq9)) rfl
  have kz43 : ((I30 3 1) : Int32).toInt = (I 3 1).toInt := e42
  have e44 : ((I30 97 8) : Int32).toInt = (I 97 8).toInt := Eq.trans (congrArg Int32.toInt (Eq.trans kq36 kq10)) rfl
  have kz45 : ((I30 97 8) : Int32).toInt = (I 97 8).toInt := e44
  have e46 : ((I30 1 13) : Int32).toInt = (I 1 13).toInt := Eq.trans (congrArg Int32.toInt (Eq.trans kq37 kq11)) rfl
  have kz47 : ((I30 1 13) : Int32).toInt = (I 1 13).toInt := e46
  have e48 : ((I30 97 23) : Int32).toInt = (I 97 23).toInt := Eq.trans (congrArg Int32.toInt (Eq.trans kq38 kq12)) rfl
  have kz49 : ((I30 97 23) : Int32).toInt = (I 97 23).toInt := e48
  exact hN _ _ R hB32 hR0 hF0 ⟨(Eq.trans (e42) (Eq.trans hL0 (Eq.symm (e44)))), (Eq.trans (e46) (Eq.trans hL1 (Eq.symm (e48)))), (RT.kp (RT.kp hL2 k13 k14) k39 k40)⟩
set_option maxHeartbeats 2000000 in
theorem lc_12 {Q : Nat → Qt} {P : Kt} {L : Nat} {xs : Nat → Int32} (hc : Cl (AM 640) false true L xs 2 112 kL_law Q P) (hL : L ≤ 3584) {v3 : Int32} {I : Im} {J : Jm} {R : Rm} (hB0 : Bd I) (hR0 : RI R) (hF0 : Fl R) (hL0 : (I 3 1).toInt = (I 97 8).toInt) (hL1 : (I 1 13).toInt = (I 97 23).toInt) (hL2 : RT I) (h0 : 0 ≤ v3.toInt) (h7 : v3.toInt + 7 ≤ (L : Int)) (hN : ∀ (I : Im) (J : Jm) (R : Rm), Bd I → RI R → Fl R → RLk I → P 1889 112 [(0, .ref 0), (1, .ref 1), (2, .ref 97), (3, .int v3)] [] I J R) : P 650 112 [(0, .ref 0), (1, .ref 1), (2, .ref 97), (3, .int v3)] [] I J R := by
  have i_v3 := i32 v3
  refine ls_650 hc v3 _ _ _ ?_
  have e1 : ((v3 + 1) : Int32).toInt = (v3.toInt) + (1) := ti_add rfl rfl (by omega)
  refine ⟨vp_of (a := (v3.toInt + 1)) e1 (by omega) (by omega), ?_⟩
  have z2 := i32 (xs (Int32.toNatClampNeg (v3 + 1)))
  refine ⟨⟨hF0, rfl⟩, ?_⟩
  refine kp4 rfl (kp5 rfl hR0 rfl (kp0 rfl (kp1 rfl (kp2 rfl (kp3 rfl (sp_X11_store hB0 hR0 (fun x3 y8 I4 J5 hB6 p7 kq12 kq11 kq10 kq9 k14 k13 => ?_)))))))
  have i15 := i32 x3
  have b16 := Bd.o hB0 (show isO 112 3 6 = true from rfl) (show bnd 6 1 = some _ from rfl)
  have e17 : ((I4 3 1) : Int32).toInt = (I 3 1).toInt := Eq.trans (congrArg Int32.toInt kq9) rfl
  have kz18 : ((I4 3 1) : Int32).toInt = (I 3 1).toInt := e17
  have b19 := Bd.o hB0 (show isO 112 97 12 = true from rfl) (show bnd 12 8 = some _ from rfl)
  have e20 : ((I4 97 8) : Int32).toInt = (I 97 8).toInt := Eq.trans (congrArg Int32.toInt kq10) rfl
  have kz21 : ((I4 97 8) : Int32).toInt = (I 97 8).toInt := e20
  have b22 := Bd.o hB0 (show isO 112 1 11 = true from rfl) (show bnd 11 13 = some _ from rfl)
  have e23 : ((I4 1 13) : Int32).toInt = (I 1 13).toInt := Eq.trans (congrArg Int32.toInt kq11) rfl
  have kz24 : ((I4 1 13) : Int32).toInt = (I 1 13).toInt := e23
  have b25 := Bd.o hB0 (show isO 112 97 12 = true from rfl) (show bnd 12 23 = some _ from rfl)
  have e26 : ((I4 97 23) : Int32).toInt = (I 97 23).toInt := Eq.trans (congrArg Int32.toInt kq12) rfl
  have kz27 : ((I4 97 23) : Int32).toInt = (I 97 23).toInt := e26
  refine ⟨vp_of (a := (v3.toInt + 1)) e1 (by omega) (by omega), ?_⟩
  have z28 := i32 (xs (Int32.toNatClampNeg (v3 + 1)))
  refine ⟨⟨hF0, rfl⟩, ?_⟩
  refine kp4 rfl (kp5 rfl hR0 rfl (kp0 rfl (kp1 rfl (kp2 rfl (kp3 rfl (sp_X12_store hB6 hR0 (fun x29 y34 I30 J31 hB32 p33 kq38 kq37 kq36 kq35 k40 k39 => ?_)))))))
  have i41 := i32 x29
  have e42 : ((I30 3 1) : Int32).toInt = (I 3 1).toInt := Eq.trans (congrArg Int32.toInt (Eq.trans kq35 kq9)) rfl
  have kz43 : ((I30 3 1) : Int32).toInt = (I 3 1).toInt := e42
  have e44 : ((I30 97 8) : Int32).toInt = (I 97 8).toInt := Eq.trans (congrArg Int32.toInt (Eq.trans kq36 kq10)) rfl
  have kz45 : ((I30 97 8) : Int32).toInt = (I 97 8).toInt := e44
  have e46 : ((I30 1 13) : Int32).toInt = (I 1 13).toInt := Eq.trans (congrArg Int32.toInt (Eq.trans kq37 kq11)) rfl
  have kz47 : ((I30 1 13) : Int32).toInt = (I 1 13).toInt := e46
  have e48 : ((I30 97 23) : Int32).toInt = (I 97 23).toInt := Eq.trans (congrArg Int32.toInt (Eq.trans kq38 kq12)) rfl
  have kz49 : ((I30 97 23) : Int32).toInt = (I 97 23).toInt := e48
  exact hN _ _ R hB32 hR0 hF0 ⟨(Eq.trans (e42) (Eq.trans hL0 (Eq.symm (e44)))), (Eq.trans (e46) (Eq.trans hL1 (Eq.symm (e48)))), (RT.kp (RT.kp hL2 k13 k14) k39 k40)⟩
set_option maxHeartbeats 2000000 in
theorem lc_13 {Q : Nat → Qt} {P : Kt} {L : Nat} {xs : Nat → Int32} (hc : Cl (AM 640) false true L xs 2 112 kL_law Q P) (hL : L ≤ 3584) {v3 : Int32} {I : Im} {J : Jm} {R : Rm} (hB0 : Bd I) (hR0 : RI R) (hF0 : Fl R) (hL0 : (I 3 1).toInt = (I 97 8).toInt) (hL1 : (I 1 13).toInt = (I 97 23).toInt) (hL2 : RT I) (h0 : 0 ≤ v3.toInt) (h7 : v3.toInt + 7 ≤ (L : Int)) (hN : ∀ (I : Im) (J : Jm) (R : Rm), Bd I → RI R → Fl R → RLk I → P 1889 112 [(0, .ref 0), (1, .ref 1), (2, .ref 97), (3, .int v3)] [] I J R) : P 673 112 [(0, .ref 0), (1, .ref 1), (2, .ref 97), (3, .int v3)] [] I J R := by
  have i_v3 := i32 v3
  refine ls_673 hc v3 _ _ _ ?_
  have e1 : ((v3 + 1) : Int32).toInt = (v3.toInt) + (1) := ti_add rfl rfl (by omega)
  refine ⟨vp_of (a := (v3.toInt + 1)) e1 (by omega) (by omega), ?_⟩
  have z2 := i32 (xs (Int32.toNatClampNeg (v3 + 1)))
  have e3 : ((v3 + 2) : Int32).toInt = (v3.toInt) + (2) := ti_add rfl rfl (by omega)
  refine ⟨vp_of (a := (v3.toInt + 2)) e3 (by omega) (by omega), ?_⟩
  have z4 := i32 (xs (Int32.toNatClampNeg (v3 + 2)))
  refine ⟨⟨hF0, rfl⟩, ?_⟩
  refine kp4 rfl (kp5 rfl hR0 rfl (kp0 rfl (kp1 rfl (kp2 rfl (kp3 rfl (sp_X11_man hB0 hR0 (fun x5 y10 I6 J7 hB8 p9 kq14 kq13 kq12 kq11 k16 k15 => ?_)))))))
  have i17 := i32 x5
  have b18 := Bd.o hB0 (show isO 112 3 6 = true from rfl) (show bnd 6 1 = some _ from rfl)
  have e19 : ((I6 3 1) : Int32).toInt = (I 3 1).toInt := Eq.trans (congrArg Int32.toInt kq11) rfl
  have kz20 : ((I6 3 1) : Int32).toInt = (I 3 1).toInt := e19
  have b21 := Bd.o hB0 (show isO 112 97 12 = true from rfl) (show bnd 12 8 = some _ from rfl)
  have e22 : ((I6 97 8) : Int32).toInt = (I 97 8).toInt := Eq.trans (congrArg Int32.toInt kq12) rfl
  have kz23 : ((I6 97 8) : Int32).toInt = (I 97 8).toInt := e22
  have b24 := Bd.o hB0 (show isO 112 1 11 = true from rfl) (show bnd 11 13 = some _ from rfl)
  have e25 : ((I6 1 13) : Int32).toInt = (I 1 13).toInt := Eq.trans (congrArg Int32.toInt kq13) rfl
  have kz26 : ((I6 1 13) : Int32).toInt = (I 1 13).toInt := e25
  have b27 := Bd.o hB0 (show isO 112 97 12 = true from rfl) (show bnd 12 23 = some _ from rfl)
  have e28 : ((I6 97 23) : Int32).toInt = (I 97 23).toInt := Eq.trans (congrArg Int32.toInt kq14) rfl
  have kz29 : ((I6 97 23) : Int32).toInt = (I 97 23).toInt := e28
  refine ⟨vp_of (a := (v3.toInt + 1)) e1 (by omega) (by omega), ?_⟩
  have z30 := i32 (xs (Int32.toNatClampNeg (v3 + 1)))
  refine ⟨vp_of (a := (v3.toInt + 2)) e3 (by omega) (by omega), ?_⟩
  have z31 := i32 (xs (Int32.toNatClampNeg (v3 + 2)))
  refine ⟨⟨hF0, rfl⟩, ?_⟩
  refine kp4 rfl (kp5 rfl hR0 rfl (kp0 rfl (kp1 rfl (kp2 rfl (kp3 rfl (sp_X12_man hB8 hR0 (fun x32 y37 I33 J34 hB35 p36 kq41 kq40 kq39 kq38 k43 k42 => ?_)))))))
  have i44 := i32 x32
  have e45 : ((I33 3 1) : Int32).toInt = (I 3 1).toInt := Eq.trans (congrArg Int32.toInt (Eq.trans kq38 kq11)) rfl
  have kz46 : ((I33 3 1) : Int32).toInt = (I 3 1).toInt := e45
  have e47 : ((I33 97 8) : Int32).toInt = (I 97 8).toInt := Eq.trans (congrArg Int32.toInt (Eq.trans kq39 kq12)) rfl
  have kz48 : ((I33 97 8) : Int32).toInt = (I 97 8).toInt := e47
  have e49 : ((I33 1 13) : Int32).toInt = (I 1 13).toInt := Eq.trans (congrArg Int32.toInt (Eq.trans kq40 kq13)) rfl
  have kz50 : ((I33 1 13) : Int32).toInt = (I 1 13).toInt := e49
  have e51 : ((I33 97 23) : Int32).toInt = (I 97 23).toInt := Eq.trans (congrArg Int32.toInt (Eq.trans kq41 kq14)) rfl
  have kz52 : ((I33 97 23) : Int32).toInt = (I 97 23).toInt := e51
  exact hN _ _ R hB35 hR0 hF0 ⟨(Eq.trans (e45) (Eq.trans hL0 (Eq.symm (e47)))), (Eq.trans (e49) (Eq.trans hL1 (Eq.symm (e51)))), (RT.kp (RT.kp hL2 k15 k16) k42 k43)⟩
set_option maxHeartbeats 2000000 in
theorem lc_14 {Q : Nat → Qt} {P : Kt} {L : Nat} {xs : Nat → Int32} (hc : Cl (AM 640) false true L xs 2 112 kL_law Q P) (hL : L ≤ 3584) {v3 : Int32} {I : Im} {J : Jm} {R : Rm} (hB0 : Bd I) (hR0 : RI R) (hF0 : Fl R) (hL0 : (I 3 1).toInt = (I 97 8).toInt) (hL1 : (I 1 13).toInt = (I 97 23).toInt) (hL2 : RT I) (h0 : 0 ≤ v3.toInt) (h7 : v3.toInt + 7 ≤ (L : Int)) (hN : ∀ (I : Im) (J : Jm) (R : Rm), Bd I → RI R → Fl R → RLk I → P 1889 112 [(0, .ref 0), (1, .ref 1), (2, .ref 97), (3, .int v3)] [] I J R) : P 706 112 [(0, .ref 0), (1, .ref 1), (2, .ref 97), (3, .int v3)] [] I J R := by
  have i_v3 := i32 v3
  refine ls_706 hc v3 _ _ _ ?_
  have e1 : ((v3 + 1) : Int32).toInt = (v3.toInt) + (1) := ti_add rfl rfl (by omega)
  refine ⟨vp_of (a := (v3.toInt + 1)) e1 (by omega) (by omega), ?_⟩
  have z2 := i32 (xs (Int32.toNatClampNeg (v3 + 1)))
  refine ⟨⟨hF0, rfl⟩, ?_⟩
  refine kp4 rfl (kp5 rfl hR0 rfl (kp0 rfl (kp1 rfl (kp2 rfl (kp3 rfl (sp_X11_has hB0 hR0 (fun x3 y8 I4 J5 hB6 p7 kq12 kq11 kq10 kq9 k14 k13 => ?_)))))))
  intro o15
  have i16 := i32 x3
  have b17 := Bd.o hB0 (show isO 112 3 6 = true from rfl) (show bnd 6 1 = some _ from rfl)
  have e18 : ((I4 3 1) : Int32).toInt = (I 3 1).toInt := Eq.trans (congrArg Int32.toInt kq9) rfl
  have kz19 : ((I4 3 1) : Int32).toInt = (I 3 1).toInt := e18
  have b20 := Bd.o hB0 (show isO 112 97 12 = true from rfl) (show bnd 12 8 = some _ from rfl)
  have e21 : ((I4 97 8) : Int32).toInt = (I 97 8).toInt := Eq.trans (congrArg Int32.toInt kq10) rfl
  have kz22 : ((I4 97 8) : Int32).toInt = (I 97 8).toInt := e21
  have b23 := Bd.o hB0 (show isO 112 1 11 = true from rfl) (show bnd 11 13 = some _ from rfl)
  have e24 : ((I4 1 13) : Int32).toInt = (I 1 13).toInt := Eq.trans (congrArg Int32.toInt kq11) rfl
  have kz25 : ((I4 1 13) : Int32).toInt = (I 1 13).toInt := e24
  have b26 := Bd.o hB0 (show isO 112 97 12 = true from rfl) (show bnd 12 23 = some _ from rfl)
  have e27 : ((I4 97 23) : Int32).toInt = (I 97 23).toInt := Eq.trans (congrArg Int32.toInt kq12) rfl
  have kz28 : ((I4 97 23) : Int32).toInt = (I 97 23).toInt := e27
  refine ⟨vp_of (a := (v3.toInt + 1)) e1 (by omega) (by omega), ?_⟩
  have z29 := i32 (xs (Int32.toNatClampNeg (v3 + 1)))
  refine ⟨⟨hF0, rfl⟩, ?_⟩
  refine kp4 rfl (kp5 rfl hR0 rfl (kp0 rfl (kp1 rfl (kp2 rfl (kp3 rfl (sp_X12_has hB6 hR0 (fun x30 y35 I31 J32 hB33 p34 kq39 kq38 kq37 kq36 k41 k40 => ?_)))))))
  intro o42
  have i43 := i32 x30
  have e44 : ((I31 3 1) : Int32).toInt = (I 3 1).toInt := Eq.trans (congrArg Int32.toInt (Eq.trans kq36 kq9)) rfl
  have kz45 : ((I31 3 1) : Int32).toInt = (I 3 1).toInt := e44
  have e46 : ((I31 97 8) : Int32).toInt = (I 97 8).toInt := Eq.trans (congrArg Int32.toInt (Eq.trans kq37 kq10)) rfl
  have kz47 : ((I31 97 8) : Int32).toInt = (I 97 8).toInt := e46
  have e48 : ((I31 1 13) : Int32).toInt = (I 1 13).toInt := Eq.trans (congrArg Int32.toInt (Eq.trans kq38 kq11)) rfl
  have kz49 : ((I31 1 13) : Int32).toInt = (I 1 13).toInt := e48
  have e50 : ((I31 97 23) : Int32).toInt = (I 97 23).toInt := Eq.trans (congrArg Int32.toInt (Eq.trans kq39 kq12)) rfl
  have kz51 : ((I31 97 23) : Int32).toInt = (I 97 23).toInt := e50
  exact hN _ _ R hB33 hR0 hF0 ⟨(Eq.trans (e44) (Eq.trans hL0 (Eq.symm (e46)))), (Eq.trans (e48) (Eq.trans hL1 (Eq.symm (e50)))), (RT.kp (RT.kp hL2 k13 k14) k40 k41)⟩
set_option maxHeartbeats 2000000 in
theorem lc_15 {Q : Nat → Qt} {P : Kt} {L : Nat} {xs : Nat → Int32} (hc : Cl (AM 640) false true L xs 2 112 kL_law Q P) (hL : L ≤ 3584) {v3 : Int32} {I : Im} {J : Jm} {R : Rm} (hB0 : Bd I) (hR0 : RI R) (hF0 : Fl R) (hL0 : (I 3 1).toInt = (I 97 8).toInt) (hL1 : (I 1 13).toInt = (I 97 23).toInt) (hL2 : RT I) (h0 : 0 ≤ v3.toInt) (h7 : v3.toInt + 7 ≤ (L : Int)) (hN : ∀ (I : Im) (J : Jm) (R : Rm), Bd I → RI R → Fl R → RLk I → P 1889 112 [(0, .ref 0), (1, .ref 1), (2, .ref 97), (3, .int v3)] [] I J R) : P 729 112 [(0, .ref 0), (1, .ref 1), (2, .ref 97), (3, .int v3)] [] I J R := by
  have i_v3 := i32 v3
  refine ls_729 hc v3 _ _ _ ?_
  have e1 : ((v3 + 1) : Int32).toInt = (v3.toInt) + (1) := ti_add rfl rfl (by omega)
  refine ⟨vp_of (a := (v3.toInt + 1)) e1 (by omega) (by omega), ?_⟩
  have z2 := i32 (xs (Int32.toNatClampNeg (v3 + 1)))
  refine ⟨⟨hF0, rfl⟩, ?_⟩
  refine kp4 rfl (kp5 rfl hR0 rfl (kp0 rfl (kp1 rfl (kp2 rfl (kp3 rfl (sp_X11_lacks hB0 hR0 (fun x3 y8 I4 J5 hB6 p7 kq12 kq11 kq10 kq9 k14 k13 => ?_)))))))
  intro o15
  have i16 := i32 x3
  have b17 := Bd.o hB0 (show isO 112 3 6 = true from rfl) (show bnd 6 1 = some _ from rfl)
  have e18 : ((I4 3 1) : Int32).toInt = (I 3 1).toInt := Eq.trans (congrArg Int32.toInt kq9) rfl
  have kz19 : ((I4 3 1) : Int32).toInt = (I 3 1).toInt := e18
  have b20 := Bd.o hB0 (show isO 112 97 12 = true from rfl) (show bnd 12 8 = some _ from rfl)
  have e21 : ((I4 97 8) : Int32).toInt = (I 97 8).toInt := Eq.trans (congrArg Int32.toInt kq10) rfl
  have kz22 : ((I4 97 8) : Int32).toInt = (I 97 8).toInt := e21
  have b23 := Bd.o hB0 (show isO 112 1 11 = true from rfl) (show bnd 11 13 = some _ from rfl)
  have e24 : ((I4 1 13) : Int32).toInt = (I 1 13).toInt := Eq.trans (congrArg Int32.toInt kq11) rfl
  have kz25 : ((I4 1 13) : Int32).toInt = (I 1 13).toInt := e24
  have b26 := Bd.o hB0 (show isO 112 97 12 = true from rfl) (show bnd 12 23 = some _ from rfl)
  have e27 : ((I4 97 23) : Int32).toInt = (I 97 23).toInt := Eq.trans (congrArg Int32.toInt kq12) rfl
  have kz28 : ((I4 97 23) : Int32).toInt = (I 97 23).toInt := e27
  refine ⟨vp_of (a := (v3.toInt + 1)) e1 (by omega) (by omega), ?_⟩
  have z29 := i32 (xs (Int32.toNatClampNeg (v3 + 1)))
  refine ⟨⟨hF0, rfl⟩, ?_⟩
  refine kp4 rfl (kp5 rfl hR0 rfl (kp0 rfl (kp1 rfl (kp2 rfl (kp3 rfl (sp_X12_lacks hB6 hR0 (fun x30 y35 I31 J32 hB33 p34 kq39 kq38 kq37 kq36 k41 k40 => ?_)))))))
  intro o42
  have i43 := i32 x30
  have e44 : ((I31 3 1) : Int32).toInt = (I 3 1).toInt := Eq.trans (congrArg Int32.toInt (Eq.trans kq36 kq9)) rfl
  have kz45 : ((I31 3 1) : Int32).toInt = (I 3 1).toInt := e44
  have e46 : ((I31 97 8) : Int32).toInt = (I 97 8).toInt := Eq.trans (congrArg Int32.toInt (Eq.trans kq37 kq10)) rfl
  have kz47 : ((I31 97 8) : Int32).toInt = (I 97 8).toInt := e46
  have e48 : ((I31 1 13) : Int32).toInt = (I 1 13).toInt := Eq.trans (congrArg Int32.toInt (Eq.trans kq38 kq11)) rfl
  have kz49 : ((I31 1 13) : Int32).toInt = (I 1 13).toInt := e48
  have e50 : ((I31 97 23) : Int32).toInt = (I 97 23).toInt := Eq.trans (congrArg Int32.toInt (Eq.trans kq39 kq12)) rfl
  have kz51 : ((I31 97 23) : Int32).toInt = (I 97 23).toInt := e50
  exact hN _ _ R hB33 hR0 hF0 ⟨(Eq.trans (e44) (Eq.trans hL0 (Eq.symm (e46)))), (Eq.trans (e48) (Eq.trans hL1 (Eq.symm (e50)))), (RT.kp (RT.kp hL2 k13 k14) k40 k41)⟩
set_option maxHeartbeats 2000000 in
theorem lc_16 {Q : Nat → Qt} {P : Kt} {L : Nat} {xs : Nat → Int32} (hc : Cl (AM 640) false true L xs 2 112 kL_law Q P) (hL : L ≤ 3584) {v3 : Int32} {I : Im} {J : Jm} {R : Rm} (hB0 : Bd I) (hR0 : RI R) (hF0 : Fl R) (hL0 : (I 3 1).toInt = (I 97 8).toInt) (hL1 : (I 1 13).toInt = (I 97 23).toInt) (hL2 : RT I) (h0 : 0 ≤ v3.toInt) (h7 : v3.toInt + 7 ≤ (L : Int)) (hN : ∀ (I : Im) (J : Jm) (R : Rm), Bd I → RI R → Fl R → RLk I → P 1889 112 [(0, .ref 0), (1, .ref 1), (2, .ref 97), (3, .int v3)] [] I J R) : P 752 112 [(0, .ref 0), (1, .ref 1), (2, .ref 97), (3, .int v3)] [] I J R := by
  have i_v3 := i32 v3
  refine ls_752 hc v3 _ _ _ ?_
  refine ⟨⟨hF0, rfl⟩, ?_⟩
  refine kp4 rfl (kp5 rfl hR0 rfl (kp0 rfl (kp1 rfl (kp2 rfl (kp3 rfl (sp_X11_worth hB0 hR0 (fun x1 y6 I2 J3 hB4 p5 kq10 kq9 kq8 kq7 k12 k11 => ?_)))))))
  intro o13
  have i14 := i32 x1
  have b15 := Bd.o hB0 (show isO 112 3 6 = true from rfl) (show bnd 6 1 = some _ from rfl)
  have e16 : ((I2 3 1) : Int32).toInt = (I 3 1).toInt := Eq.trans (congrArg Int32.toInt kq7) rfl
  have kz17 : ((I2 3 1) : Int32).toInt = (I 3 1).toInt := e16
  have b18 := Bd.o hB0 (show isO 112 97 12 = true from rfl) (show bnd 12 8 = some _ from rfl)
  have e19 : ((I2 97 8) : Int32).toInt = (I 97 8).toInt := Eq.trans (congrArg Int32.toInt kq8) rfl
  have kz20 : ((I2 97 8) : Int32).toInt = (I 97 8).toInt := e19
  have b21 := Bd.o hB0 (show isO 112 1 11 = true from rfl) (show bnd 11 13 = some _ from rfl)
  have e22 : ((I2 1 13) : Int32).toInt = (I 1 13).toInt := Eq.trans (congrArg Int32.toInt kq9) rfl
  have kz23 : ((I2 1 13) : Int32).toInt = (I 1 13).toInt := e22
  have b24 := Bd.o hB0 (show isO 112 97 12 = true from rfl) (show bnd 12 23 = some _ from rfl)
  have e25 : ((I2 97 23) : Int32).toInt = (I 97 23).toInt := Eq.trans (congrArg Int32.toInt kq10) rfl
  have kz26 : ((I2 97 23) : Int32).toInt = (I 97 23).toInt := e25
  refine ⟨⟨hF0, rfl⟩, ?_⟩
  refine kp4 rfl (kp5 rfl hR0 rfl (kp0 rfl (kp1 rfl (kp2 rfl (kp3 rfl (sp_X12_worth hB4 hR0 (fun x27 y32 I28 J29 hB30 p31 kq36 kq35 kq34 kq33 k38 k37 => ?_)))))))
  intro o39
  have i40 := i32 x27
  have e41 : ((I28 3 1) : Int32).toInt = (I 3 1).toInt := Eq.trans (congrArg Int32.toInt (Eq.trans kq33 kq7)) rfl
  have kz42 : ((I28 3 1) : Int32).toInt = (I 3 1).toInt := e41
  have e43 : ((I28 97 8) : Int32).toInt = (I 97 8).toInt := Eq.trans (congrArg Int32.toInt (Eq.trans kq34 kq8)) rfl
  have kz44 : ((I28 97 8) : Int32).toInt = (I 97 8).toInt := e43
  have e45 : ((I28 1 13) : Int32).toInt = (I 1 13).toInt := Eq.trans (congrArg Int32.toInt (Eq.trans kq35 kq9)) rfl
  have kz46 : ((I28 1 13) : Int32).toInt = (I 1 13).toInt := e45
  have e47 : ((I28 97 23) : Int32).toInt = (I 97 23).toInt := Eq.trans (congrArg Int32.toInt (Eq.trans kq36 kq10)) rfl
  have kz48 : ((I28 97 23) : Int32).toInt = (I 97 23).toInt := e47
  exact hN _ _ R hB30 hR0 hF0 ⟨(Eq.trans (e41) (Eq.trans hL0 (Eq.symm (e43)))), (Eq.trans (e45) (Eq.trans hL1 (Eq.symm (e47)))), (RT.kp (RT.kp hL2 k11 k12) k37 k38)⟩
set_option maxHeartbeats 2000000 in
theorem lc_17 {Q : Nat → Qt} {P : Kt} {L : Nat} {xs : Nat → Int32} (hc : Cl (AM 640) false true L xs 2 112 kL_law Q P) (hL : L ≤ 3584) {v3 : Int32} {I : Im} {J : Jm} {R : Rm} (hB0 : Bd I) (hR0 : RI R) (hF0 : Fl R) (hL0 : (I 3 1).toInt = (I 97 8).toInt) (hL1 : (I 1 13).toInt = (I 97 23).toInt) (hL2 : RT I) (h0 : 0 ≤ v3.toInt) (h7 : v3.toInt + 7 ≤ (L : Int)) (hN : ∀ (I : Im) (J : Jm) (R : Rm), Bd I → RI R → Fl R → RLk I → P 1889 112 [(0, .ref 0), (1, .ref 1), (2, .ref 97), (3, .int v3)] [] I J R) : P 765 112 [(0, .ref 0), (1, .ref 1), (2, .ref 97), (3, .int v3)] [] I J R := by
  have i_v3 := i32 v3
  refine ls_765 hc v3 _ _ _ ?_
  have e1 : ((v3 + 1) : Int32).toInt = (v3.toInt) + (1) := ti_add rfl rfl (by omega)
  refine ⟨vp_of (a := (v3.toInt + 1)) e1 (by omega) (by omega), ?_⟩
  have z2 := i32 (xs (Int32.toNatClampNeg (v3 + 1)))
  have e3 : ((v3 + 2) : Int32).toInt = (v3.toInt) + (2) := ti_add rfl rfl (by omega)
  refine ⟨vp_of (a := (v3.toInt + 2)) e3 (by omega) (by omega), ?_⟩
  have z4 := i32 (xs (Int32.toNatClampNeg (v3 + 2)))
  refine ⟨⟨hF0, rfl⟩, ?_⟩
  refine kp4 rfl (kp5 rfl hR0 rfl (kp0 rfl (kp1 rfl (kp2 rfl (kp3 rfl (sp_X11_copyStore hB0 hR0 (fun x5 y10 I6 J7 hB8 p9 kq14 kq13 kq12 kq11 k16 k15 => ?_)))))))
  have i17 := i32 x5
  have b18 := Bd.o hB0 (show isO 112 3 6 = true from rfl) (show bnd 6 1 = some _ from rfl)
  have e19 : ((I6 3 1) : Int32).toInt = (I 3 1).toInt := Eq.trans (congrArg Int32.toInt kq11) rfl
  have kz20 : ((I6 3 1) : Int32).toInt = (I 3 1).toInt := e19
  have b21 := Bd.o hB0 (show isO 112 97 12 = true from rfl) (show bnd 12 8 = some _ from rfl)
  have e22 : ((I6 97 8) : Int32).toInt = (I 97 8).toInt := Eq.trans (congrArg Int32.toInt kq12) rfl
  have kz23 : ((I6 97 8) : Int32).toInt = (I 97 8).toInt := e22
  have b24 := Bd.o hB0 (show isO 112 1 11 = true from rfl) (show bnd 11 13 = some _ from rfl)
  have e25 : ((I6 1 13) : Int32).toInt = (I 1 13).toInt := Eq.trans (congrArg Int32.toInt kq13) rfl
  have kz26 : ((I6 1 13) : Int32).toInt = (I 1 13).toInt := e25
  have b27 := Bd.o hB0 (show isO 112 97 12 = true from rfl) (show bnd 12 23 = some _ from rfl)
  have e28 : ((I6 97 23) : Int32).toInt = (I 97 23).toInt := Eq.trans (congrArg Int32.toInt kq14) rfl
  have kz29 : ((I6 97 23) : Int32).toInt = (I 97 23).toInt := e28
  have hw30 : 0 ≤ ((xs (Int32.toNatClampNeg (v3 + 1))) : Int32).toInt → ((xs (Int32.toNatClampNeg (v3 + 1))) : Int32).toInt ≤ 3 → (I (R 2 (Int32.toNatClampNeg (xs (Int32.toNatClampNeg (v3 + 1))))) 1).toInt = (I6 99 (Int32.toNatClampNeg (xs (Int32.toNatClampNeg (v3 + 1))))).toInt := fun a b => RT.a1 hL2 hR0 k16 a b
  refine ⟨vp_of (a := (v3.toInt + 1)) e1 (by omega) (by omega), ?_⟩
  have z31 := i32 (xs (Int32.toNatClampNeg (v3 + 1)))
  refine ⟨vp_of (a := (v3.toInt + 2)) e3 (by omega) (by omega), ?_⟩
  have z32 := i32 (xs (Int32.toNatClampNeg (v3 + 2)))
  refine ⟨⟨hF0, rfl⟩, ?_⟩
  refine kp4 rfl (kp0 rfl (kp1 rfl (kp2 rfl (kp3 rfl (sp_X12_copyStore hB8 hR0 (fun x33 y38 I34 J35 hB36 p37 kq42 kq41 kq40 kq39 k43 => ?_))))))
  have i44 := i32 x33
  have e45 : ((I34 3 1) : Int32).toInt = (I 3 1).toInt := Eq.trans (congrArg Int32.toInt (Eq.trans kq39 kq11)) rfl
  have kz46 : ((I34 3 1) : Int32).toInt = (I 3 1).toInt := e45
  have e47 : ((I34 97 8) : Int32).toInt = (I 97 8).toInt := Eq.trans (congrArg Int32.toInt (Eq.trans kq40 kq12)) rfl
  have kz48 : ((I34 97 8) : Int32).toInt = (I 97 8).toInt := e47
  have e49 : ((I34 1 13) : Int32).toInt = (I 1 13).toInt := Eq.trans (congrArg Int32.toInt (Eq.trans kq41 kq13)) rfl
  have kz50 : ((I34 1 13) : Int32).toInt = (I 1 13).toInt := e49
  have e51 : ((I34 97 23) : Int32).toInt = (I 97 23).toInt := Eq.trans (congrArg Int32.toInt (Eq.trans kq42 kq14)) rfl
  have kz52 : ((I34 97 23) : Int32).toInt = (I 97 23).toInt := e51
  exact hN _ _ R hB36 hR0 hF0 ⟨(Eq.trans (e45) (Eq.trans hL0 (Eq.symm (e47)))), (Eq.trans (e49) (Eq.trans hL1 (Eq.symm (e51)))), (RT.kp (RT.kp hL2 k15 k16) k43 (p37.2))⟩
set_option maxHeartbeats 2000000 in
theorem lc_18 {Q : Nat → Qt} {P : Kt} {L : Nat} {xs : Nat → Int32} (hc : Cl (AM 640) false true L xs 2 112 kL_law Q P) (hL : L ≤ 3584) {v3 : Int32} {I : Im} {J : Jm} {R : Rm} (hB0 : Bd I) (hR0 : RI R) (hF0 : Fl R) (hL0 : (I 3 1).toInt = (I 97 8).toInt) (hL1 : (I 1 13).toInt = (I 97 23).toInt) (hL2 : RT I) (h0 : 0 ≤ v3.toInt) (h7 : v3.toInt + 7 ≤ (L : Int)) (hN : ∀ (I : Im) (J : Jm) (R : Rm), Bd I → RI R → Fl R → RLk I → P 1889 112 [(0, .ref 0), (1, .ref 1), (2, .ref 97), (3, .int v3)] [] I J R) : P 798 112 [(0, .ref 0), (1, .ref 1), (2, .ref 97), (3, .int v3)] [] I J R := by
  have i_v3 := i32 v3
  refine ls_798 hc v3 _ _ _ ?_
  have e1 : ((v3 + 1) : Int32).toInt = (v3.toInt) + (1) := ti_add rfl rfl (by omega)
  refine ⟨vp_of (a := (v3.toInt + 1)) e1 (by omega) (by omega), ?_⟩
  have z2 := i32 (xs (Int32.toNatClampNeg (v3 + 1)))
  refine ⟨⟨hF0, rfl⟩, ?_⟩
  refine kp4 rfl (kp5 rfl hR0 rfl (kp0 rfl (kp1 rfl (kp2 rfl (kp3 rfl (sp_X11_bake hB0 hR0 (fun x3 y8 I4 J5 hB6 p7 kq12 kq11 kq10 kq9 k14 k13 => ?_)))))))
  have i15 := i32 x3
  have b16 := Bd.o hB0 (show isO 112 3 6 = true from rfl) (show bnd 6 1 = some _ from rfl)
  have e17 : ((I4 3 1) : Int32).toInt = (I 3 1).toInt := Eq.trans (congrArg Int32.toInt kq9) rfl
  have kz18 : ((I4 3 1) : Int32).toInt = (I 3 1).toInt := e17
  have b19 := Bd.o hB0 (show isO 112 97 12 = true from rfl) (show bnd 12 8 = some _ from rfl)
  have e20 : ((I4 97 8) : Int32).toInt = (I 97 8).toInt := Eq.trans (congrArg Int32.toInt kq10) rfl
  have kz21 : ((I4 97 8) : Int32).toInt = (I 97 8).toInt := e20
  have b22 := Bd.o hB0 (show isO 112 1 11 = true from rfl) (show bnd 11 13 = some _ from rfl)
  have e23 : ((I4 1 13) : Int32).toInt = (I 1 13).toInt := Eq.trans (congrArg Int32.toInt kq11) rfl
  have kz24 : ((I4 1 13) : Int32).toInt = (I 1 13).toInt := e23
  have b25 := Bd.o hB0 (show isO 112 97 12 = true from rfl) (show bnd 12 23 = some _ from rfl)
  have e26 : ((I4 97 23) : Int32).toInt = (I 97 23).toInt := Eq.trans (congrArg Int32.toInt kq12) rfl
  have kz27 : ((I4 97 23) : Int32).toInt = (I 97 23).toInt := e26
  refine ⟨vp_of (a := (v3.toInt + 1)) e1 (by omega) (by omega), ?_⟩
  have z28 := i32 (xs (Int32.toNatClampNeg (v3 + 1)))
  refine ⟨⟨hF0, rfl⟩, ?_⟩
  refine kp4 rfl (kp5 rfl hR0 rfl (kp0 rfl (kp1 rfl (kp2 rfl (kp3 rfl (sp_X12_bake hB6 hR0 (fun x29 y34 I30 J31 hB32 p33 kq38 kq37 kq36 kq35 k40 k39 => ?_)))))))
  have i41 := i32 x29
  have e42 : ((I30 3 1) : Int32).toInt = (I 3 1).toInt := Eq.trans (congrArg Int32.toInt (Eq.trans kq35 kq9)) rfl
  have kz43 : ((I30 3 1) : Int32).toInt = (I 3 1).toInt := e42
  have e44 : ((I30 97 8) : Int32).toInt = (I 97 8).toInt := Eq.trans (congrArg Int32.toInt (Eq.trans kq36 kq10)) rfl
  have kz45 : ((I30 97 8) : Int32).toInt = (I 97 8).toInt := e44
  have e46 : ((I30 1 13) : Int32).toInt = (I 1 13).toInt := Eq.trans (congrArg Int32.toInt (Eq.trans kq37 kq11)) rfl
  have kz47 : ((I30 1 13) : Int32).toInt = (I 1 13).toInt := e46
  have e48 : ((I30 97 23) : Int32).toInt = (I 97 23).toInt := Eq.trans (congrArg Int32.toInt (Eq.trans kq38 kq12)) rfl
  have kz49 : ((I30 97 23) : Int32).toInt = (I 97 23).toInt := e48
  exact hN _ _ R hB32 hR0 hF0 ⟨(Eq.trans (e42) (Eq.trans hL0 (Eq.symm (e44)))), (Eq.trans (e46) (Eq.trans hL1 (Eq.symm (e48)))), (RT.kp (RT.kp hL2 k13 k14) k39 k40)⟩
set_option maxHeartbeats 2000000 in
theorem lc_19 {Q : Nat → Qt} {P : Kt} {L : Nat} {xs : Nat → Int32} (hc : Cl (AM 640) false true L xs 2 112 kL_law Q P) (hL : L ≤ 3584) {v3 : Int32} {I : Im} {J : Jm} {R : Rm} (hB0 : Bd I) (hR0 : RI R) (hF0 : Fl R) (hL0 : (I 3 1).toInt = (I 97 8).toInt) (hL1 : (I 1 13).toInt = (I 97 23).toInt) (hL2 : RT I) (h0 : 0 ≤ v3.toInt) (h7 : v3.toInt + 7 ≤ (L : Int)) (hN : ∀ (I : Im) (J : Jm) (R : Rm), Bd I → RI R → Fl R → RLk I → P 1889 112 [(0, .ref 0), (1, .ref 1), (2, .ref 97), (3, .int v3)] [] I J R) : P 821 112 [(0, .ref 0), (1, .ref 1), (2, .ref 97), (3, .int v3)] [] I J R := by
  have i_v3 := i32 v3
  refine ls_821 hc v3 _ _ _ ?_
  have e1 : ((v3 + 1) : Int32).toInt = (v3.toInt) + (1) := ti_add rfl rfl (by omega)
  refine ⟨vp_of (a := (v3.toInt + 1)) e1 (by omega) (by omega), ?_⟩
  have z2 := i32 (xs (Int32.toNatClampNeg (v3 + 1)))
  have e3 : ((v3 + 2) : Int32).toInt = (v3.toInt) + (2) := ti_add rfl rfl (by omega)
  refine ⟨vp_of (a := (v3.toInt + 2)) e3 (by omega) (by omega), ?_⟩
  have z4 := i32 (xs (Int32.toNatClampNeg (v3 + 2)))
  have e5 : ((v3 + 3) : Int32).toInt = (v3.toInt) + (3) := ti_add rfl rfl (by omega)
  refine ⟨vp_of (a := (v3.toInt + 3)) e5 (by omega) (by omega), ?_⟩
  have z6 := i32 (xs (Int32.toNatClampNeg (v3 + 3)))
  refine ⟨⟨hF0, rfl⟩, ?_⟩
  refine kp4 rfl (kp5 rfl hR0 rfl (kp0 rfl (kp1 rfl (kp2 rfl (kp3 rfl (sp_X11_cut hB0 hR0 (fun x7 y12 I8 J9 hB10 p11 kq16 kq15 kq14 kq13 k18 k17 => ?_)))))))
  have i19 := i32 x7
  have b20 := Bd.o hB0 (show isO 112 3 6 = true from rfl) (show bnd 6 1 = some _ from rfl)
  have e21 : ((I8 3 1) : Int32).toInt = (I 3 1).toInt := Eq.trans (congrArg Int32.toInt kq13) rfl
  have kz22 : ((I8 3 1) : Int32).toInt = (I 3 1).toInt := e21
  have b23 := Bd.o hB0 (show isO 112 97 12 = true from rfl) (show bnd 12 8 = some _ from rfl)
  have e24 : ((I8 97 8) : Int32).toInt = (I 97 8).toInt := Eq.trans (congrArg Int32.toInt kq14) rfl
  have kz25 : ((I8 97 8) : Int32).toInt = (I 97 8).toInt := e24
  have b26 := Bd.o hB0 (show isO 112 1 11 = true from rfl) (show bnd 11 13 = some _ from rfl)
  have e27 : ((I8 1 13) : Int32).toInt = (I 1 13).toInt := Eq.trans (congrArg Int32.toInt kq15) rfl
  have kz28 : ((I8 1 13) : Int32).toInt = (I 1 13).toInt := e27
  have b29 := Bd.o hB0 (show isO 112 97 12 = true from rfl) (show bnd 12 23 = some _ from rfl)
  have e30 : ((I8 97 23) : Int32).toInt = (I 97 23).toInt := Eq.trans (congrArg Int32.toInt kq16) rfl
  have kz31 : ((I8 97 23) : Int32).toInt = (I 97 23).toInt := e30
  refine ⟨vp_of (a := (v3.toInt + 1)) e1 (by omega) (by omega), ?_⟩
  have z32 := i32 (xs (Int32.toNatClampNeg (v3 + 1)))
  refine ⟨vp_of (a := (v3.toInt + 2)) e3 (by omega) (by omega), ?_⟩
  have z33 := i32 (xs (Int32.toNatClampNeg (v3 + 2)))
  refine ⟨vp_of (a := (v3.toInt + 3)) e5 (by omega) (by omega), ?_⟩
  have z34 := i32 (xs (Int32.toNatClampNeg (v3 + 3)))
  refine ⟨⟨hF0, rfl⟩, ?_⟩
  refine kp4 rfl (kp5 rfl hR0 rfl (kp0 rfl (kp1 rfl (kp2 rfl (kp3 rfl (sp_X12_cut hB10 hR0 (fun x35 y40 I36 J37 hB38 p39 kq44 kq43 kq42 kq41 k46 k45 => ?_)))))))
  have i47 := i32 x35
  have e48 : ((I36 3 1) : Int32).toInt = (I 3 1).toInt := Eq.trans (congrArg Int32.toInt (Eq.trans kq41 kq13)) rfl
  have kz49 : ((I36 3 1) : Int32).toInt = (I 3 1).toInt := e48
  have e50 : ((I36 97 8) : Int32).toInt = (I 97 8).toInt := Eq.trans (congrArg Int32.toInt (Eq.trans kq42 kq14)) rfl
  have kz51 : ((I36 97 8) : Int32).toInt = (I 97 8).toInt := e50
  have e52 : ((I36 1 13) : Int32).toInt = (I 1 13).toInt := Eq.trans (congrArg Int32.toInt (Eq.trans kq43 kq15)) rfl
  have kz53 : ((I36 1 13) : Int32).toInt = (I 1 13).toInt := e52
  have e54 : ((I36 97 23) : Int32).toInt = (I 97 23).toInt := Eq.trans (congrArg Int32.toInt (Eq.trans kq44 kq16)) rfl
  have kz55 : ((I36 97 23) : Int32).toInt = (I 97 23).toInt := e54
  exact hN _ _ R hB38 hR0 hF0 ⟨(Eq.trans (e48) (Eq.trans hL0 (Eq.symm (e50)))), (Eq.trans (e52) (Eq.trans hL1 (Eq.symm (e54)))), (RT.kp (RT.kp hL2 k17 k18) k45 k46)⟩
set_option maxHeartbeats 2000000 in
theorem lc_20 {Q : Nat → Qt} {P : Kt} {L : Nat} {xs : Nat → Int32} (hc : Cl (AM 640) false true L xs 2 112 kL_law Q P) (hL : L ≤ 3584) {v3 : Int32} {I : Im} {J : Jm} {R : Rm} (hB0 : Bd I) (hR0 : RI R) (hF0 : Fl R) (hL0 : (I 3 1).toInt = (I 97 8).toInt) (hL1 : (I 1 13).toInt = (I 97 23).toInt) (hL2 : RT I) (h0 : 0 ≤ v3.toInt) (h7 : v3.toInt + 7 ≤ (L : Int)) (hN : ∀ (I : Im) (J : Jm) (R : Rm), Bd I → RI R → Fl R → RLk I → P 1889 112 [(0, .ref 0), (1, .ref 1), (2, .ref 97), (3, .int v3)] [] I J R) : P 864 112 [(0, .ref 0), (1, .ref 1), (2, .ref 97), (3, .int v3)] [] I J R := by
  have i_v3 := i32 v3
  refine ls_864 hc v3 _ _ _ ?_
  have e1 : ((v3 + 1) : Int32).toInt = (v3.toInt) + (1) := ti_add rfl rfl (by omega)
  refine ⟨vp_of (a := (v3.toInt + 1)) e1 (by omega) (by omega), ?_⟩
  have z2 := i32 (xs (Int32.toNatClampNeg (v3 + 1)))
  have e3 : ((v3 + 2) : Int32).toInt = (v3.toInt) + (2) := ti_add rfl rfl (by omega)
  refine ⟨vp_of (a := (v3.toInt + 2)) e3 (by omega) (by omega), ?_⟩
  have z4 := i32 (xs (Int32.toNatClampNeg (v3 + 2)))
  refine ⟨⟨hF0, rfl⟩, ?_⟩
  refine kp4 rfl (kp5 rfl hR0 rfl (kp0 rfl (kp1 rfl (kp2 rfl (kp3 rfl (sp_X11_split hB0 hR0 (fun x5 y10 I6 J7 hB8 p9 kq14 kq13 kq12 kq11 k16 k15 => ?_)))))))
  have i17 := i32 x5
  have b18 := Bd.o hB0 (show isO 112 3 6 = true from rfl) (show bnd 6 1 = some _ from rfl)
  have e19 : ((I6 3 1) : Int32).toInt = (I 3 1).toInt := Eq.trans (congrArg Int32.toInt kq11) rfl
  have kz20 : ((I6 3 1) : Int32).toInt = (I 3 1).toInt := e19
  have b21 := Bd.o hB0 (show isO 112 97 12 = true from rfl) (show bnd 12 8 = some _ from rfl)
  have e22 : ((I6 97 8) : Int32).toInt = (I 97 8).toInt := Eq.trans (congrArg Int32.toInt kq12) rfl
  have kz23 : ((I6 97 8) : Int32).toInt = (I 97 8).toInt := e22
  have b24 := Bd.o hB0 (show isO 112 1 11 = true from rfl) (show bnd 11 13 = some _ from rfl)
  have e25 : ((I6 1 13) : Int32).toInt = (I 1 13).toInt := Eq.trans (congrArg Int32.toInt kq13) rfl
  have kz26 : ((I6 1 13) : Int32).toInt = (I 1 13).toInt := e25
  have b27 := Bd.o hB0 (show isO 112 97 12 = true from rfl) (show bnd 12 23 = some _ from rfl)
  have e28 : ((I6 97 23) : Int32).toInt = (I 97 23).toInt := Eq.trans (congrArg Int32.toInt kq14) rfl
  have kz29 : ((I6 97 23) : Int32).toInt = (I 97 23).toInt := e28
  refine ⟨vp_of (a := (v3.toInt + 1)) e1 (by omega) (by omega), ?_⟩
  have z30 := i32 (xs (Int32.toNatClampNeg (v3 + 1)))
  refine ⟨vp_of (a := (v3.toInt + 2)) e3 (by omega) (by omega), ?_⟩
  have z31 := i32 (xs (Int32.toNatClampNeg (v3 + 2)))
  refine ⟨⟨hF0, rfl⟩, ?_⟩
  refine kp4 rfl (kp5 rfl hR0 rfl (kp0 rfl (kp1 rfl (kp2 rfl (kp3 rfl (sp_X12_split hB8 hR0 (fun x32 y37 I33 J34 hB35 p36 kq41 kq40 kq39 kq38 k43 k42 => ?_)))))))
  have i44 := i32 x32
  have e45 : ((I33 3 1) : Int32).toInt = (I 3 1).toInt := Eq.trans (congrArg Int32.toInt (Eq.trans kq38 kq11)) rfl
  have kz46 : ((I33 3 1) : Int32).toInt = (I 3 1).toInt := e45
  have e47 : ((I33 97 8) : Int32).toInt = (I 97 8).toInt := Eq.trans (congrArg Int32.toInt (Eq.trans kq39 kq12)) rfl
  have kz48 : ((I33 97 8) : Int32).toInt = (I 97 8).toInt := e47
  have e49 : ((I33 1 13) : Int32).toInt = (I 1 13).toInt := Eq.trans (congrArg Int32.toInt (Eq.trans kq40 kq13)) rfl
  have kz50 : ((I33 1 13) : Int32).toInt = (I 1 13).toInt := e49
  have e51 : ((I33 97 23) : Int32).toInt = (I 97 23).toInt := Eq.trans (congrArg Int32.toInt (Eq.trans kq41 kq14)) rfl
  have kz52 : ((I33 97 23) : Int32).toInt = (I 97 23).toInt := e51
  exact hN _ _ R hB35 hR0 hF0 ⟨(Eq.trans (e45) (Eq.trans hL0 (Eq.symm (e47)))), (Eq.trans (e49) (Eq.trans hL1 (Eq.symm (e51)))), (RT.kp (RT.kp hL2 k15 k16) k42 k43)⟩
set_option maxHeartbeats 2000000 in
theorem lc_21 {Q : Nat → Qt} {P : Kt} {L : Nat} {xs : Nat → Int32} (hc : Cl (AM 640) false true L xs 2 112 kL_law Q P) (hL : L ≤ 3584) {v3 : Int32} {I : Im} {J : Jm} {R : Rm} (hB0 : Bd I) (hR0 : RI R) (hF0 : Fl R) (hL0 : (I 3 1).toInt = (I 97 8).toInt) (hL1 : (I 1 13).toInt = (I 97 23).toInt) (hL2 : RT I) (h0 : 0 ≤ v3.toInt) (h7 : v3.toInt + 7 ≤ (L : Int)) (hN : ∀ (I : Im) (J : Jm) (R : Rm), Bd I → RI R → Fl R → RLk I → P 1889 112 [(0, .ref 0), (1, .ref 1), (2, .ref 97), (3, .int v3)] [] I J R) : P 897 112 [(0, .ref 0), (1, .ref 1), (2, .ref 97), (3, .int v3)] [] I J R := by
  have i_v3 := i32 v3
  refine ls_897 hc v3 _ _ _ ?_
  have e1 : ((v3 + 1) : Int32).toInt = (v3.toInt) + (1) := ti_add rfl rfl (by omega)
  refine ⟨vp_of (a := (v3.toInt + 1)) e1 (by omega) (by omega), ?_⟩
  have z2 := i32 (xs (Int32.toNatClampNeg (v3 + 1)))
  have e3 : ((v3 + 2) : Int32).toInt = (v3.toInt) + (2) := ti_add rfl rfl (by omega)
  refine ⟨vp_of (a := (v3.toInt + 2)) e3 (by omega) (by omega), ?_⟩
  have z4 := i32 (xs (Int32.toNatClampNeg (v3 + 2)))
  refine ⟨⟨hF0, rfl⟩, ?_⟩
  refine kp4 rfl (kp5 rfl hR0 rfl (kp0 rfl (kp1 rfl (kp2 rfl (kp3 rfl (sp_X11_give hB0 hR0 (fun x5 y10 I6 J7 hB8 p9 kq14 kq13 kq12 kq11 k16 k15 => ?_)))))))
  have i17 := i32 x5
  have b18 := Bd.o hB0 (show isO 112 3 6 = true from rfl) (show bnd 6 1 = some _ from rfl)
  have e19 : ((I6 3 1) : Int32).toInt = (I 3 1).toInt := Eq.trans (congrArg Int32.toInt kq11) rfl
  have kz20 : ((I6 3 1) : Int32).toInt = (I 3 1).toInt := e19
  have b21 := Bd.o hB0 (show isO 112 97 12 = true from rfl) (show bnd 12 8 = some _ from rfl)
  have e22 : ((I6 97 8) : Int32).toInt = (I 97 8).toInt := Eq.trans (congrArg Int32.toInt kq12) rfl
  have kz23 : ((I6 97 8) : Int32).toInt = (I 97 8).toInt := e22
  have b24 := Bd.o hB0 (show isO 112 1 11 = true from rfl) (show bnd 11 13 = some _ from rfl)
  have e25 : ((I6 1 13) : Int32).toInt = (I 1 13).toInt := Eq.trans (congrArg Int32.toInt kq13) rfl
  have kz26 : ((I6 1 13) : Int32).toInt = (I 1 13).toInt := e25
  have b27 := Bd.o hB0 (show isO 112 97 12 = true from rfl) (show bnd 12 23 = some _ from rfl)
  have e28 : ((I6 97 23) : Int32).toInt = (I 97 23).toInt := Eq.trans (congrArg Int32.toInt kq14) rfl
  have kz29 : ((I6 97 23) : Int32).toInt = (I 97 23).toInt := e28
  refine ⟨vp_of (a := (v3.toInt + 1)) e1 (by omega) (by omega), ?_⟩
  have z30 := i32 (xs (Int32.toNatClampNeg (v3 + 1)))
  refine ⟨vp_of (a := (v3.toInt + 2)) e3 (by omega) (by omega), ?_⟩
  have z31 := i32 (xs (Int32.toNatClampNeg (v3 + 2)))
  refine ⟨⟨hF0, rfl⟩, ?_⟩
  refine kp4 rfl (kp5 rfl hR0 rfl (kp0 rfl (kp1 rfl (kp2 rfl (kp3 rfl (sp_X12_give hB8 hR0 (fun x32 y37 I33 J34 hB35 p36 kq41 kq40 kq39 kq38 k43 k42 => ?_)))))))
  have i44 := i32 x32
  have e45 : ((I33 3 1) : Int32).toInt = (I 3 1).toInt := Eq.trans (congrArg Int32.toInt (Eq.trans kq38 kq11)) rfl
  have kz46 : ((I33 3 1) : Int32).toInt = (I 3 1).toInt := e45
  have e47 : ((I33 97 8) : Int32).toInt = (I 97 8).toInt := Eq.trans (congrArg Int32.toInt (Eq.trans kq39 kq12)) rfl
  have kz48 : ((I33 97 8) : Int32).toInt = (I 97 8).toInt := e47
  have e49 : ((I33 1 13) : Int32).toInt = (I 1 13).toInt := Eq.trans (congrArg Int32.toInt (Eq.trans kq40 kq13)) rfl
  have kz50 : ((I33 1 13) : Int32).toInt = (I 1 13).toInt := e49
  have e51 : ((I33 97 23) : Int32).toInt = (I 97 23).toInt := Eq.trans (congrArg Int32.toInt (Eq.trans kq41 kq14)) rfl
  have kz52 : ((I33 97 23) : Int32).toInt = (I 97 23).toInt := e51
  exact hN _ _ R hB35 hR0 hF0 ⟨(Eq.trans (e45) (Eq.trans hL0 (Eq.symm (e47)))), (Eq.trans (e49) (Eq.trans hL1 (Eq.symm (e51)))), (RT.kp (RT.kp hL2 k15 k16) k42 k43)⟩
set_option maxHeartbeats 2000000 in
theorem lc_22 {Q : Nat → Qt} {P : Kt} {L : Nat} {xs : Nat → Int32} (hc : Cl (AM 640) false true L xs 2 112 kL_law Q P) (hL : L ≤ 3584) {v3 : Int32} {I : Im} {J : Jm} {R : Rm} (hB0 : Bd I) (hR0 : RI R) (hF0 : Fl R) (hL0 : (I 3 1).toInt = (I 97 8).toInt) (hL1 : (I 1 13).toInt = (I 97 23).toInt) (hL2 : RT I) (h0 : 0 ≤ v3.toInt) (h7 : v3.toInt + 7 ≤ (L : Int)) (hN : ∀ (I : Im) (J : Jm) (R : Rm), Bd I → RI R → Fl R → RLk I → P 1889 112 [(0, .ref 0), (1, .ref 1), (2, .ref 97), (3, .int v3)] [] I J R) : P 930 112 [(0, .ref 0), (1, .ref 1), (2, .ref 97), (3, .int v3)] [] I J R := by
  have i_v3 := i32 v3
  refine ls_930 hc v3 _ _ _ ?_
  have e1 : ((v3 + 1) : Int32).toInt = (v3.toInt) + (1) := ti_add rfl rfl (by omega)
  refine ⟨vp_of (a := (v3.toInt + 1)) e1 (by omega) (by omega), ?_⟩
  have z2 := i32 (xs (Int32.toNatClampNeg (v3 + 1)))
  have e3 : ((v3 + 2) : Int32).toInt = (v3.toInt) + (2) := ti_add rfl rfl (by omega)
  refine ⟨vp_of (a := (v3.toInt + 2)) e3 (by omega) (by omega), ?_⟩
  have z4 := i32 (xs (Int32.toNatClampNeg (v3 + 2)))
  refine ⟨⟨hF0, rfl⟩, ?_⟩
  refine kp4 rfl (kp5 rfl hR0 rfl (kp0 rfl (kp1 rfl (kp2 rfl (kp3 rfl (sp_X11_take hB0 hR0 (fun x5 y10 I6 J7 hB8 p9 kq14 kq13 kq12 kq11 k16 k15 => ?_)))))))
  have i17 := i32 x5
  have b18 := Bd.o hB0 (show isO 112 3 6 = true from rfl) (show bnd 6 1 = some _ from rfl)
  have e19 : ((I6 3 1) : Int32).toInt = (I 3 1).toInt := Eq.trans (congrArg Int32.toInt kq11) rfl
  have kz20 : ((I6 3 1) : Int32).toInt = (I 3 1).toInt := e19
  have b21 := Bd.o hB0 (show isO 112 97 12 = true from rfl) (show bnd 12 8 = some _ from rfl)
  have e22 : ((I6 97 8) : Int32).toInt = (I 97 8).toInt := Eq.trans (congrArg Int32.toInt kq12) rfl
  have kz23 : ((I6 97 8) : Int32).toInt = (I 97 8).toInt := e22
  have b24 := Bd.o hB0 (show isO 112 1 11 = true from rfl) (show bnd 11 13 = some _ from rfl)
  have e25 : ((I6 1 13) : Int32).toInt = (I 1 13).toInt := Eq.trans (congrArg Int32.toInt kq13) rfl
  have kz26 : ((I6 1 13) : Int32).toInt = (I 1 13).toInt := e25
  have b27 := Bd.o hB0 (show isO 112 97 12 = true from rfl) (show bnd 12 23 = some _ from rfl)
  have e28 : ((I6 97 23) : Int32).toInt = (I 97 23).toInt := Eq.trans (congrArg Int32.toInt kq14) rfl
  have kz29 : ((I6 97 23) : Int32).toInt = (I 97 23).toInt := e28
  refine ⟨vp_of (a := (v3.toInt + 1)) e1 (by omega) (by omega), ?_⟩
  have z30 := i32 (xs (Int32.toNatClampNeg (v3 + 1)))
  refine ⟨vp_of (a := (v3.toInt + 2)) e3 (by omega) (by omega), ?_⟩
  have z31 := i32 (xs (Int32.toNatClampNeg (v3 + 2)))
  refine ⟨⟨hF0, rfl⟩, ?_⟩
  refine kp4 rfl (kp5 rfl hR0 rfl (kp0 rfl (kp1 rfl (kp2 rfl (kp3 rfl (sp_X12_take hB8 hR0 (fun x32 y37 I33 J34 hB35 p36 kq41 kq40 kq39 kq38 k43 k42 => ?_)))))))
  have i44 := i32 x32
  have e45 : ((I33 3 1) : Int32).toInt = (I 3 1).toInt := Eq.trans (congrArg Int32.toInt (Eq.trans kq38 kq11)) rfl
  have kz46 : ((I33 3 1) : Int32).toInt = (I 3 1).toInt := e45
  have e47 : ((I33 97 8) : Int32).toInt = (I 97 8).toInt := Eq.trans (congrArg Int32.toInt (Eq.trans kq39 kq12)) rfl
  have kz48 : ((I33 97 8) : Int32).toInt = (I 97 8).toInt := e47
  have e49 : ((I33 1 13) : Int32).toInt = (I 1 13).toInt := Eq.trans (congrArg Int32.toInt (Eq.trans kq40 kq13)) rfl
  have kz50 : ((I33 1 13) : Int32).toInt = (I 1 13).toInt := e49
  have e51 : ((I33 97 23) : Int32).toInt = (I 97 23).toInt := Eq.trans (congrArg Int32.toInt (Eq.trans kq41 kq14)) rfl
  have kz52 : ((I33 97 23) : Int32).toInt = (I 97 23).toInt := e51
  exact hN _ _ R hB35 hR0 hF0 ⟨(Eq.trans (e45) (Eq.trans hL0 (Eq.symm (e47)))), (Eq.trans (e49) (Eq.trans hL1 (Eq.symm (e51)))), (RT.kp (RT.kp hL2 k15 k16) k42 k43)⟩
set_option maxHeartbeats 2000000 in
theorem lc_23 {Q : Nat → Qt} {P : Kt} {L : Nat} {xs : Nat → Int32} (hc : Cl (AM 640) false true L xs 2 112 kL_law Q P) (hL : L ≤ 3584) {v3 : Int32} {I : Im} {J : Jm} {R : Rm} (hB0 : Bd I) (hR0 : RI R) (hF0 : Fl R) (hL0 : (I 3 1).toInt = (I 97 8).toInt) (hL1 : (I 1 13).toInt = (I 97 23).toInt) (hL2 : RT I) (h0 : 0 ≤ v3.toInt) (h7 : v3.toInt + 7 ≤ (L : Int)) (hN : ∀ (I : Im) (J : Jm) (R : Rm), Bd I → RI R → Fl R → RLk I → P 1889 112 [(0, .ref 0), (1, .ref 1), (2, .ref 97), (3, .int v3)] [] I J R) : P 963 112 [(0, .ref 0), (1, .ref 1), (2, .ref 97), (3, .int v3)] [] I J R := by
  have i_v3 := i32 v3
  refine ls_963 hc v3 _ _ _ ?_
  have e1 : ((v3 + 1) : Int32).toInt = (v3.toInt) + (1) := ti_add rfl rfl (by omega)
  refine ⟨vp_of (a := (v3.toInt + 1)) e1 (by omega) (by omega), ?_⟩
  have z2 := i32 (xs (Int32.toNatClampNeg (v3 + 1)))
  have e3 : ((v3 + 2) : Int32).toInt = (v3.toInt) + (2) := ti_add rfl rfl (by omega)
  refine ⟨vp_of (a := (v3.toInt + 2)) e3 (by omega) (by omega), ?_⟩
  have z4 := i32 (xs (Int32.toNatClampNeg (v3 + 2)))
  have e5 : ((v3 + 3) : Int32).toInt = (v3.toInt) + (3) := ti_add rfl rfl (by omega)
  refine ⟨vp_of (a := (v3.toInt + 3)) e5 (by omega) (by omega), ?_⟩
  have z6 := i32 (xs (Int32.toNatClampNeg (v3 + 3)))
  refine ⟨⟨hF0, rfl⟩, ?_⟩
  refine kp4 rfl (kp5 rfl hR0 rfl (kp0 rfl (kp1 rfl (kp2 rfl (kp3 rfl (sp_X11_owe hB0 hR0 (fun x7 y12 I8 J9 hB10 p11 kq16 kq15 kq14 kq13 k18 k17 => ?_)))))))
  intro o19
  have i20 := i32 x7
  have b21 := Bd.o hB0 (show isO 112 3 6 = true from rfl) (show bnd 6 1 = some _ from rfl)
  have e22 : ((I8 3 1) : Int32).toInt = (I 3 1).toInt := Eq.trans (congrArg Int32.toInt kq13) rfl
  have kz23 : ((I8 3 1) : Int32).toInt = (I 3 1).toInt := e22
  have b24 := Bd.o hB0 (show isO 112 97 12 = true from rfl) (show bnd 12 8 = some _ from rfl)
  have e25 : ((I8 97 8) : Int32).toInt = (I 97 8).toInt := Eq.trans (congrArg Int32.toInt kq14) rfl
  have kz26 : ((I8 97 8) : Int32).toInt = (I 97 8).toInt := e25
  have b27 := Bd.o hB0 (show isO 112 1 11 = true from rfl) (show bnd 11 13 = some _ from rfl)
  have e28 : ((I8 1 13) : Int32).toInt = (I 1 13).toInt := Eq.trans (congrArg Int32.toInt kq15) rfl
  have kz29 : ((I8 1 13) : Int32).toInt = (I 1 13).toInt := e28
  have b30 := Bd.o hB0 (show isO 112 97 12 = true from rfl) (show bnd 12 23 = some _ from rfl)
  have e31 : ((I8 97 23) : Int32).toInt = (I 97 23).toInt := Eq.trans (congrArg Int32.toInt kq16) rfl
  have kz32 : ((I8 97 23) : Int32).toInt = (I 97 23).toInt := e31
  refine ⟨vp_of (a := (v3.toInt + 1)) e1 (by omega) (by omega), ?_⟩
  have z33 := i32 (xs (Int32.toNatClampNeg (v3 + 1)))
  refine ⟨vp_of (a := (v3.toInt + 2)) e3 (by omega) (by omega), ?_⟩
  have z34 := i32 (xs (Int32.toNatClampNeg (v3 + 2)))
  refine ⟨vp_of (a := (v3.toInt + 3)) e5 (by omega) (by omega), ?_⟩
  have z35 := i32 (xs (Int32.toNatClampNeg (v3 + 3)))
  refine ⟨⟨hF0, rfl⟩, ?_⟩
  refine kp4 rfl (kp5 rfl hR0 rfl (kp0 rfl (kp1 rfl (kp2 rfl (kp3 rfl (sp_X12_owe hB10 hR0 (fun x36 y41 I37 J38 hB39 p40 kq45 kq44 kq43 kq42 k47 k46 => ?_)))))))
  intro o48
  have i49 := i32 x36
  have e50 : ((I37 3 1) : Int32).toInt = (I 3 1).toInt := Eq.trans (congrArg Int32.toInt (Eq.trans kq42 kq13)) rfl
  have kz51 : ((I37 3 1) : Int32).toInt = (I 3 1).toInt := e50
  have e52 : ((I37 97 8) : Int32).toInt = (I 97 8).toInt := Eq.trans (congrArg Int32.toInt (Eq.trans kq43 kq14)) rfl
  have kz53 : ((I37 97 8) : Int32).toInt = (I 97 8).toInt := e52
  have e54 : ((I37 1 13) : Int32).toInt = (I 1 13).toInt := Eq.trans (congrArg Int32.toInt (Eq.trans kq44 kq15)) rfl
  have kz55 : ((I37 1 13) : Int32).toInt = (I 1 13).toInt := e54
  have e56 : ((I37 97 23) : Int32).toInt = (I 97 23).toInt := Eq.trans (congrArg Int32.toInt (Eq.trans kq45 kq16)) rfl
  have kz57 : ((I37 97 23) : Int32).toInt = (I 97 23).toInt := e56
  exact hN _ _ R hB39 hR0 hF0 ⟨(Eq.trans (e50) (Eq.trans hL0 (Eq.symm (e52)))), (Eq.trans (e54) (Eq.trans hL1 (Eq.symm (e56)))), (RT.kp (RT.kp hL2 k17 k18) k46 k47)⟩
set_option maxHeartbeats 2000000 in
theorem lc_24 {Q : Nat → Qt} {P : Kt} {L : Nat} {xs : Nat → Int32} (hc : Cl (AM 640) false true L xs 2 112 kL_law Q P) (hL : L ≤ 3584) {v3 : Int32} {I : Im} {J : Jm} {R : Rm} (hB0 : Bd I) (hR0 : RI R) (hF0 : Fl R) (hL0 : (I 3 1).toInt = (I 97 8).toInt) (hL1 : (I 1 13).toInt = (I 97 23).toInt) (hL2 : RT I) (h0 : 0 ≤ v3.toInt) (h7 : v3.toInt + 7 ≤ (L : Int)) (hN : ∀ (I : Im) (J : Jm) (R : Rm), Bd I → RI R → Fl R → RLk I → P 1889 112 [(0, .ref 0), (1, .ref 1), (2, .ref 97), (3, .int v3)] [] I J R) : P 1006 112 [(0, .ref 0), (1, .ref 1), (2, .ref 97), (3, .int v3)] [] I J R := by
  have i_v3 := i32 v3
  refine ls_1006 hc v3 _ _ _ ?_
  have e1 : ((v3 + 1) : Int32).toInt = (v3.toInt) + (1) := ti_add rfl rfl (by omega)
  refine ⟨vp_of (a := (v3.toInt + 1)) e1 (by omega) (by omega), ?_⟩
  have z2 := i32 (xs (Int32.toNatClampNeg (v3 + 1)))
  have e3 : ((v3 + 2) : Int32).toInt = (v3.toInt) + (2) := ti_add rfl rfl (by omega)
  refine ⟨vp_of (a := (v3.toInt + 2)) e3 (by omega) (by omega), ?_⟩
  have z4 := i32 (xs (Int32.toNatClampNeg (v3 + 2)))
  refine ⟨⟨hF0, rfl⟩, ?_⟩
  refine kp4 rfl (kp5 rfl hR0 rfl (kp0 rfl (kp1 rfl (kp2 rfl (kp3 rfl (sp_X11_come hB0 hR0 (fun x5 y10 I6 J7 hB8 p9 kq14 kq13 kq12 kq11 k16 k15 => ?_)))))))
  have i17 := i32 x5
  have b18 := Bd.o hB0 (show isO 112 3 6 = true from rfl) (show bnd 6 1 = some _ from rfl)
  have e19 : ((I6 3 1) : Int32).toInt = (I 3 1).toInt := Eq.trans (congrArg Int32.toInt kq11) rfl
  have kz20 : ((I6 3 1) : Int32).toInt = (I 3 1).toInt := e19
  have b21 := Bd.o hB0 (show isO 112 97 12 = true from rfl) (show bnd 12 8 = some _ from rfl)
  have e22 : ((I6 97 8) : Int32).toInt = (I 97 8).toInt := Eq.trans (congrArg Int32.toInt kq12) rfl
  have kz23 : ((I6 97 8) : Int32).toInt = (I 97 8).toInt := e22
  have b24 := Bd.o hB0 (show isO 112 1 11 = true from rfl) (show bnd 11 13 = some _ from rfl)
  have e25 : ((I6 1 13) : Int32).toInt = (I 1 13).toInt := Eq.trans (congrArg Int32.toInt kq13) rfl
  have kz26 : ((I6 1 13) : Int32).toInt = (I 1 13).toInt := e25
  have b27 := Bd.o hB0 (show isO 112 97 12 = true from rfl) (show bnd 12 23 = some _ from rfl)
  have e28 : ((I6 97 23) : Int32).toInt = (I 97 23).toInt := Eq.trans (congrArg Int32.toInt kq14) rfl
  have kz29 : ((I6 97 23) : Int32).toInt = (I 97 23).toInt := e28
  refine ⟨vp_of (a := (v3.toInt + 1)) e1 (by omega) (by omega), ?_⟩
  have z30 := i32 (xs (Int32.toNatClampNeg (v3 + 1)))
  refine ⟨vp_of (a := (v3.toInt + 2)) e3 (by omega) (by omega), ?_⟩
  have z31 := i32 (xs (Int32.toNatClampNeg (v3 + 2)))
  refine ⟨⟨hF0, rfl⟩, ?_⟩
  refine kp4 rfl (kp5 rfl hR0 rfl (kp0 rfl (kp1 rfl (kp2 rfl (kp3 rfl (sp_X12_come hB8 hR0 (fun x32 y37 I33 J34 hB35 p36 kq41 kq40 kq39 kq38 k43 k42 => ?_)))))))
  have i44 := i32 x32
  have e45 : ((I33 3 1) : Int32).toInt = (I 3 1).toInt := Eq.trans (congrArg Int32.toInt (Eq.trans kq38 kq11)) rfl
  have kz46 : ((I33 3 1) : Int32).toInt = (I 3 1).toInt := e45
  have e47 : ((I33 97 8) : Int32).toInt = (I 97 8).toInt := Eq.trans (congrArg Int32.toInt (Eq.trans kq39 kq12)) rfl
  have kz48 : ((I33 97 8) : Int32).toInt = (I 97 8).toInt := e47
  have e49 : ((I33 1 13) : Int32).toInt = (I 1 13).toInt := Eq.trans (congrArg Int32.toInt (Eq.trans kq40 kq13)) rfl
  have kz50 : ((I33 1 13) : Int32).toInt = (I 1 13).toInt := e49
  have e51 : ((I33 97 23) : Int32).toInt = (I 97 23).toInt := Eq.trans (congrArg Int32.toInt (Eq.trans kq41 kq14)) rfl
  have kz52 : ((I33 97 23) : Int32).toInt = (I 97 23).toInt := e51
  exact hN _ _ R hB35 hR0 hF0 ⟨(Eq.trans (e45) (Eq.trans hL0 (Eq.symm (e47)))), (Eq.trans (e49) (Eq.trans hL1 (Eq.symm (e51)))), (RT.kp (RT.kp hL2 k15 k16) k42 k43)⟩
set_option maxHeartbeats 2000000 in
theorem lc_25 {Q : Nat → Qt} {P : Kt} {L : Nat} {xs : Nat → Int32} (hc : Cl (AM 640) false true L xs 2 112 kL_law Q P) (hL : L ≤ 3584) {v3 : Int32} {I : Im} {J : Jm} {R : Rm} (hB0 : Bd I) (hR0 : RI R) (hF0 : Fl R) (hL0 : (I 3 1).toInt = (I 97 8).toInt) (hL1 : (I 1 13).toInt = (I 97 23).toInt) (hL2 : RT I) (h0 : 0 ≤ v3.toInt) (h7 : v3.toInt + 7 ≤ (L : Int)) (hN : ∀ (I : Im) (J : Jm) (R : Rm), Bd I → RI R → Fl R → RLk I → P 1889 112 [(0, .ref 0), (1, .ref 1), (2, .ref 97), (3, .int v3)] [] I J R) : P 1039 112 [(0, .ref 0), (1, .ref 1), (2, .ref 97), (3, .int v3)] [] I J R := by
  have i_v3 := i32 v3
  refine ls_1039 hc v3 _ _ _ ?_
  have e1 : ((v3 + 1) : Int32).toInt = (v3.toInt) + (1) := ti_add rfl rfl (by omega)
  refine ⟨vp_of (a := (v3.toInt + 1)) e1 (by omega) (by omega), ?_⟩
  have z2 := i32 (xs (Int32.toNatClampNeg (v3 + 1)))
  have e3 : ((v3 + 2) : Int32).toInt = (v3.toInt) + (2) := ti_add rfl rfl (by omega)
  refine ⟨vp_of (a := (v3.toInt + 2)) e3 (by omega) (by omega), ?_⟩
  have z4 := i32 (xs (Int32.toNatClampNeg (v3 + 2)))
  refine ⟨fun c5 => ?_, fun c5 => ?_⟩
  · skip
    have d6 : (((xs (Int32.toNatClampNeg (v3 + 2))).toInt) : Int) = (0) := ci_eq rfl rfl c5
    refine ⟨⟨hF0, rfl⟩, ?_⟩
    refine kp4 rfl (kp5 rfl hR0 rfl (kp0 rfl (kp1 rfl (kp2 rfl (kp3 rfl (sp_X11_learn hB0 hR0 (fun x7 y12 I8 J9 hB10 p11 kq16 kq15 kq14 kq13 k18 k17 => ?_)))))))
    intro o19
    have i20 := i32 x7
    have b21 := Bd.o hB0 (show isO 112 3 6 = true from rfl) (show bnd 6 1 = some _ from rfl)
    have e22 : ((I8 3 1) : Int32).toInt = (I 3 1).toInt := Eq.trans (congrArg Int32.toInt kq13) rfl
    have kz23 : ((I8 3 1) : Int32).toInt = (I 3 1).toInt := e22
    have b24 := Bd.o hB0 (show isO 112 97 12 = true from rfl) (show bnd 12 8 = some _ from rfl)
    have e25 : ((I8 97 8) : Int32).toInt = (I 97 8).toInt := Eq.trans (congrArg Int32.toInt kq14) rfl
    have kz26 : ((I8 97 8) : Int32).toInt = (I 97 8).toInt := e25
    have b27 := Bd.o hB0 (show isO 112 1 11 = true from rfl) (show bnd 11 13 = some _ from rfl)
    have e28 : ((I8 1 13) : Int32).toInt = (I 1 13).toInt := Eq.trans (congrArg Int32.toInt kq15) rfl
    have kz29 : ((I8 1 13) : Int32).toInt = (I 1 13).toInt := e28
    have b30 := Bd.o hB0 (show isO 112 97 12 = true from rfl) (show bnd 12 23 = some _ from rfl)
    have e31 : ((I8 97 23) : Int32).toInt = (I 97 23).toInt := Eq.trans (congrArg Int32.toInt kq16) rfl
    have kz32 : ((I8 97 23) : Int32).toInt = (I 97 23).toInt := e31
    refine ⟨vp_of (a := (v3.toInt + 1)) e1 (by omega) (by omega), ?_⟩
    have z33 := i32 (xs (Int32.toNatClampNeg (v3 + 1)))
    refine ⟨vp_of (a := (v3.toInt + 2)) e3 (by omega) (by omega), ?_⟩
    have z34 := i32 (xs (Int32.toNatClampNeg (v3 + 2)))
    refine ⟨fun c35 => ?_, fun c35 => ?_⟩
    · skip
      have d36 : (((xs (Int32.toNatClampNeg (v3 + 2))).toInt) : Int) = (0) := ci_eq rfl rfl c35
      refine ⟨⟨hF0, rfl⟩, ?_⟩
      refine kp4 rfl (kp5 rfl hR0 rfl (kp0 rfl (kp1 rfl (kp2 rfl (kp3 rfl (sp_X12_learn hB10 hR0 (fun x37 y42 I38 J39 hB40 p41 kq46 kq45 kq44 kq43 k48 k47 => ?_)))))))
      intro o49
      have i50 := i32 x37
      have e51 : ((I38 3 1) : Int32).toInt = (I 3 1).toInt := Eq.trans (congrArg Int32.toInt (Eq.trans kq43 kq13)) rfl
      have kz52 : ((I38 3 1) : Int32).toInt = (I 3 1).toInt := e51
      have e53 : ((I38 97 8) : Int32).toInt = (I 97 8).toInt := Eq.trans (congrArg Int32.toInt (Eq.trans kq44 kq14)) rfl
      have kz54 : ((I38 97 8) : Int32).toInt = (I 97 8).toInt := e53
      have e55 : ((I38 1 13) : Int32).toInt = (I 1 13).toInt := Eq.trans (congrArg Int32.toInt (Eq.trans kq45 kq15)) rfl
      have kz56 : ((I38 1 13) : Int32).toInt = (I 1 13).toInt := e55
      have e57 : ((I38 97 23) : Int32).toInt = (I 97 23).toInt := Eq.trans (congrArg Int32.toInt (Eq.trans kq46 kq16)) rfl
      have kz58 : ((I38 97 23) : Int32).toInt = (I 97 23).toInt := e57
      exact hN _ _ R hB40 hR0 hF0 ⟨(Eq.trans (e51) (Eq.trans hL0 (Eq.symm (e53)))), (Eq.trans (e55) (Eq.trans hL1 (Eq.symm (e57)))), (RT.kp (RT.kp hL2 k17 k18) k47 k48)⟩
    · skip
      have d59 : ¬ (((xs (Int32.toNatClampNeg (v3 + 2))).toInt) : Int) = (0) := ci_ne rfl rfl c35
      refine ⟨⟨hF0, rfl⟩, ?_⟩
      refine kp4 rfl (kp5 rfl hR0 rfl (kp0 rfl (kp1 rfl (kp2 rfl (kp3 rfl (sp_X12_learn hB10 hR0 (fun x60 y65 I61 J62 hB63 p64 kq69 kq68 kq67 kq66 k71 k70 => ?_)))))))
      intro o72
      have i73 := i32 x60
      have e74 : ((I61 3 1) : Int32).toInt = (I 3 1).toInt := Eq.trans (congrArg Int32.toInt (Eq.trans kq66 kq13)) rfl
      have kz75 : ((I61 3 1) : Int32).toInt = (I 3 1).toInt := e74
      have e76 : ((I61 97 8) : Int32).toInt = (I 97 8).toInt := Eq.trans (congrArg Int32.toInt (Eq.trans kq67 kq14)) rfl
      have kz77 : ((I61 97 8) : Int32).toInt = (I 97 8).toInt := e76
      have e78 : ((I61 1 13) : Int32).toInt = (I 1 13).toInt := Eq.trans (congrArg Int32.toInt (Eq.trans kq68 kq15)) rfl
      have kz79 : ((I61 1 13) : Int32).toInt = (I 1 13).toInt := e78
      have e80 : ((I61 97 23) : Int32).toInt = (I 97 23).toInt := Eq.trans (congrArg Int32.toInt (Eq.trans kq69 kq16)) rfl
      have kz81 : ((I61 97 23) : Int32).toInt = (I 97 23).toInt := e80
      exact hN _ _ R hB63 hR0 hF0 ⟨(Eq.trans (e74) (Eq.trans hL0 (Eq.symm (e76)))), (Eq.trans (e78) (Eq.trans hL1 (Eq.symm (e80)))), (RT.kp (RT.kp hL2 k17 k18) k70 k71)⟩
  · skip
    have d82 : ¬ (((xs (Int32.toNatClampNeg (v3 + 2))).toInt) : Int) = (0) := ci_ne rfl rfl c5
    refine ⟨⟨hF0, rfl⟩, ?_⟩
    refine kp4 rfl (kp5 rfl hR0 rfl (kp0 rfl (kp1 rfl (kp2 rfl (kp3 rfl (sp_X11_learn hB0 hR0 (fun x83 y88 I84 J85 hB86 p87 kq92 kq91 kq90 kq89 k94 k93 => ?_)))))))
    intro o95
    have i96 := i32 x83
    have b97 := Bd.o hB0 (show isO 112 3 6 = true from rfl) (show bnd 6 1 = some _ from rfl)
    have e98 : ((I84 3 1) : Int32).toInt = (I 3 1).toInt := Eq.trans (congrArg Int32.toInt kq89) rfl
    have kz99 : ((I84 3 1) : Int32).toInt = (I 3 1).toInt := e98
    have b100 := Bd.o hB0 (show isO 112 97 12 = true from rfl) (show bnd 12 8 = some _ from rfl)
    have e101 : ((I84 97 8) : Int32).toInt = (I 97 8).toInt := Eq.trans (congrArg Int32.toInt kq90) rfl
    have kz102 : ((I84 97 8) : Int32).toInt = (I 97 8).toInt := e101
    have b103 := Bd.o hB0 (show isO 112 1 11 = true from rfl) (show bnd 11 13 = some _ from rfl)
    have e104 : ((I84 1 13) : Int32).toInt = (I 1 13).toInt := Eq.trans (congrArg Int32.toInt kq91) rfl
    have kz105 : ((I84 1 13) : Int32).toInt = (I 1 13).toInt := e104
    have b106 := Bd.o hB0 (show isO 112 97 12 = true from rfl) (show bnd 12 23 = some _ from rfl)
    have e107 : ((I84 97 23) : Int32).toInt = (I 97 23).toInt := Eq.trans (congrArg Int32.toInt kq92) rfl
    have kz108 : ((I84 97 23) : Int32).toInt = (I 97 23).toInt := e107
    refine ⟨vp_of (a := (v3.toInt + 1)) e1 (by omega) (by omega), ?_⟩
    have z109 := i32 (xs (Int32.toNatClampNeg (v3 + 1)))
    refine ⟨vp_of (a := (v3.toInt + 2)) e3 (by omega) (by omega), ?_⟩
    have z110 := i32 (xs (Int32.toNatClampNeg (v3 + 2)))
    refine ⟨fun c111 => ?_, fun c111 => ?_⟩
    · skip
      have d112 : (((xs (Int32.toNatClampNeg (v3 + 2))).toInt) : Int) = (0) := ci_eq rfl rfl c111
      refine ⟨⟨hF0, rfl⟩, ?_⟩
      refine kp4 rfl (kp5 rfl hR0 rfl (kp0 rfl (kp1 rfl (kp2 rfl (kp3 rfl (sp_X12_learn hB86 hR0 (fun x113 y118 I114 J115 hB116 p117 kq122 kq121 kq120 kq119 k124 k123 => ?_)))))))
      intro o125
      have i126 := i32 x113
      have e127 : ((I114 3 1) : Int32).toInt = (I 3 1).toInt := Eq.trans (congrArg Int32.toInt (Eq.trans kq119 kq89)) rfl
      have kz128 : ((I114 3 1) : Int32).toInt = (I 3 1).toInt := e127
      have e129 : ((I114 97 8) : Int32).toInt = (I 97 8).toInt := Eq.trans (congrArg Int32.toInt (Eq.trans kq120 kq90)) rfl
      have kz130 : ((I114 97 8) : Int32).toInt = (I 97 8).toInt := e129
      have e131 : ((I114 1 13) : Int32).toInt = (I 1 13).toInt := Eq.trans (congrArg Int32.toInt (Eq.trans kq121 kq91)) rfl
      have kz132 : ((I114 1 13) : Int32).toInt = (I 1 13).toInt := e131
      have e133 : ((I114 97 23) : Int32).toInt = (I 97 23).toInt := Eq.trans (congrArg Int32.toInt (Eq.trans kq122 kq92)) rfl
      have kz134 : ((I114 97 23) : Int32).toInt = (I 97 23).toInt := e133
      exact hN _ _ R hB116 hR0 hF0 ⟨(Eq.trans (e127) (Eq.trans hL0 (Eq.symm (e129)))), (Eq.trans (e131) (Eq.trans hL1 (Eq.symm (e133)))), (RT.kp (RT.kp hL2 k93 k94) k123 k124)⟩
    · skip
      have d135 : ¬ (((xs (Int32.toNatClampNeg (v3 + 2))).toInt) : Int) = (0) := ci_ne rfl rfl c111
      refine ⟨⟨hF0, rfl⟩, ?_⟩
      refine kp4 rfl (kp5 rfl hR0 rfl (kp0 rfl (kp1 rfl (kp2 rfl (kp3 rfl (sp_X12_learn hB86 hR0 (fun x136 y141 I137 J138 hB139 p140 kq145 kq144 kq143 kq142 k147 k146 => ?_)))))))
      intro o148
      have i149 := i32 x136
      have e150 : ((I137 3 1) : Int32).toInt = (I 3 1).toInt := Eq.trans (congrArg Int32.toInt (Eq.trans kq142 kq89)) rfl
      have kz151 : ((I137 3 1) : Int32).toInt = (I 3 1).toInt := e150
      have e152 : ((I137 97 8) : Int32).toInt = (I 97 8).toInt := Eq.trans (congrArg Int32.toInt (Eq.trans kq143 kq90)) rfl
      have kz153 : ((I137 97 8) : Int32).toInt = (I 97 8).toInt := e152
      have e154 : ((I137 1 13) : Int32).toInt = (I 1 13).toInt := Eq.trans (congrArg Int32.toInt (Eq.trans kq144 kq91)) rfl
      have kz155 : ((I137 1 13) : Int32).toInt = (I 1 13).toInt := e154
      have e156 : ((I137 97 23) : Int32).toInt = (I 97 23).toInt := Eq.trans (congrArg Int32.toInt (Eq.trans kq145 kq92)) rfl
      have kz157 : ((I137 97 23) : Int32).toInt = (I 97 23).toInt := e156
      exact hN _ _ R hB139 hR0 hF0 ⟨(Eq.trans (e150) (Eq.trans hL0 (Eq.symm (e152)))), (Eq.trans (e154) (Eq.trans hL1 (Eq.symm (e156)))), (RT.kp (RT.kp hL2 k93 k94) k146 k147)⟩
set_option maxHeartbeats 2000000 in
theorem lc_26 {Q : Nat → Qt} {P : Kt} {L : Nat} {xs : Nat → Int32} (hc : Cl (AM 640) false true L xs 2 112 kL_law Q P) (hL : L ≤ 3584) {v3 : Int32} {I : Im} {J : Jm} {R : Rm} (hB0 : Bd I) (hR0 : RI R) (hF0 : Fl R) (hL0 : (I 3 1).toInt = (I 97 8).toInt) (hL1 : (I 1 13).toInt = (I 97 23).toInt) (hL2 : RT I) (h0 : 0 ≤ v3.toInt) (h7 : v3.toInt + 7 ≤ (L : Int)) (hN : ∀ (I : Im) (J : Jm) (R : Rm), Bd I → RI R → Fl R → RLk I → P 1889 112 [(0, .ref 0), (1, .ref 1), (2, .ref 97), (3, .int v3)] [] I J R) : P 1088 112 [(0, .ref 0), (1, .ref 1), (2, .ref 97), (3, .int v3)] [] I J R := by
  have i_v3 := i32 v3
  refine ls_1088 hc v3 _ _ _ ?_
  have e1 : ((v3 + 1) : Int32).toInt = (v3.toInt) + (1) := ti_add rfl rfl (by omega)
  refine ⟨vp_of (a := (v3.toInt + 1)) e1 (by omega) (by omega), ?_⟩
  have z2 := i32 (xs (Int32.toNatClampNeg (v3 + 1)))
  refine ⟨⟨hF0, rfl⟩, ?_⟩
  refine kp4 rfl (kp5 rfl hR0 rfl (kp0 rfl (kp1 rfl (kp2 rfl (kp3 rfl (sp_X11_rule hB0 hR0 (fun x3 y8 I4 J5 hB6 p7 kq12 kq11 kq10 kq9 k14 k13 => ?_)))))))
  intro o15
  have i16 := i32 x3
  have b17 := Bd.o hB0 (show isO 112 3 6 = true from rfl) (show bnd 6 1 = some _ from rfl)
  have e18 : ((I4 3 1) : Int32).toInt = (I 3 1).toInt := Eq.trans (congrArg Int32.toInt kq9) rfl
  have kz19 : ((I4 3 1) : Int32).toInt = (I 3 1).toInt := e18
  have b20 := Bd.o hB0 (show isO 112 97 12 = true from rfl) (show bnd 12 8 = some _ from rfl)
  have e21 : ((I4 97 8) : Int32).toInt = (I 97 8).toInt := Eq.trans (congrArg Int32.toInt kq10) rfl
  have kz22 : ((I4 97 8) : Int32).toInt = (I 97 8).toInt := e21
  have b23 := Bd.o hB0 (show isO 112 1 11 = true from rfl) (show bnd 11 13 = some _ from rfl)
  have e24 : ((I4 1 13) : Int32).toInt = (I 1 13).toInt := Eq.trans (congrArg Int32.toInt kq11) rfl
  have kz25 : ((I4 1 13) : Int32).toInt = (I 1 13).toInt := e24
  have b26 := Bd.o hB0 (show isO 112 97 12 = true from rfl) (show bnd 12 23 = some _ from rfl)
  have e27 : ((I4 97 23) : Int32).toInt = (I 97 23).toInt := Eq.trans (congrArg Int32.toInt kq12) rfl
  have kz28 : ((I4 97 23) : Int32).toInt = (I 97 23).toInt := e27
  refine ⟨vp_of (a := (v3.toInt + 1)) e1 (by omega) (by omega), ?_⟩
  have z29 := i32 (xs (Int32.toNatClampNeg (v3 + 1)))
  refine ⟨⟨hF0, rfl⟩, ?_⟩
  refine kp4 rfl (kp5 rfl hR0 rfl (kp0 rfl (kp1 rfl (kp2 rfl (kp3 rfl (sp_X12_rule hB6 hR0 (fun x30 y35 I31 J32 hB33 p34 kq39 kq38 kq37 kq36 k41 k40 => ?_)))))))
  intro o42
  have i43 := i32 x30
  have e44 : ((I31 3 1) : Int32).toInt = (I 3 1).toInt := Eq.trans (congrArg Int32.toInt (Eq.trans kq36 kq9)) rfl
  have kz45 : ((I31 3 1) : Int32).toInt = (I 3 1).toInt := e44
  have e46 : ((I31 97 8) : Int32).toInt = (I 97 8).toInt := Eq.trans (congrArg Int32.toInt (Eq.trans kq37 kq10)) rfl
  have kz47 : ((I31 97 8) : Int32).toInt = (I 97 8).toInt := e46
  have e48 : ((I31 1 13) : Int32).toInt = (I 1 13).toInt := Eq.trans (congrArg Int32.toInt (Eq.trans kq38 kq11)) rfl
  have kz49 : ((I31 1 13) : Int32).toInt = (I 1 13).toInt := e48
  have e50 : ((I31 97 23) : Int32).toInt = (I 97 23).toInt := Eq.trans (congrArg Int32.toInt (Eq.trans kq39 kq12)) rfl
  have kz51 : ((I31 97 23) : Int32).toInt = (I 97 23).toInt := e50
  exact hN _ _ R hB33 hR0 hF0 ⟨(Eq.trans (e44) (Eq.trans hL0 (Eq.symm (e46)))), (Eq.trans (e48) (Eq.trans hL1 (Eq.symm (e50)))), (RT.kp (RT.kp hL2 k13 k14) k40 k41)⟩
set_option maxHeartbeats 2000000 in
theorem lc_27 {Q : Nat → Qt} {P : Kt} {L : Nat} {xs : Nat → Int32} (hc : Cl (AM 640) false true L xs 2 112 kL_law Q P) (hL : L ≤ 3584) {v3 : Int32} {I : Im} {J : Jm} {R : Rm} (hB0 : Bd I) (hR0 : RI R) (hF0 : Fl R) (hL0 : (I 3 1).toInt = (I 97 8).toInt) (hL1 : (I 1 13).toInt = (I 97 23).toInt) (hL2 : RT I) (h0 : 0 ≤ v3.toInt) (h7 : v3.toInt + 7 ≤ (L : Int)) (hN : ∀ (I : Im) (J : Jm) (R : Rm), Bd I → RI R → Fl R → RLk I → P 1889 112 [(0, .ref 0), (1, .ref 1), (2, .ref 97), (3, .int v3)] [] I J R) : P 1111 112 [(0, .ref 0), (1, .ref 1), (2, .ref 97), (3, .int v3)] [] I J R := by
  have i_v3 := i32 v3
  refine ls_1111 hc v3 _ _ _ ?_
  have e1 : ((v3 + 1) : Int32).toInt = (v3.toInt) + (1) := ti_add rfl rfl (by omega)
  refine ⟨vp_of (a := (v3.toInt + 1)) e1 (by omega) (by omega), ?_⟩
  have z2 := i32 (xs (Int32.toNatClampNeg (v3 + 1)))
  have e3 : ((v3 + 2) : Int32).toInt = (v3.toInt) + (2) := ti_add rfl rfl (by omega)
  refine ⟨vp_of (a := (v3.toInt + 2)) e3 (by omega) (by omega), ?_⟩
  have z4 := i32 (xs (Int32.toNatClampNeg (v3 + 2)))
  refine ⟨⟨hF0, rfl⟩, ?_⟩
  refine kp4 rfl (kp5 rfl hR0 rfl (kp0 rfl (kp1 rfl (kp2 rfl (kp3 rfl (sp_X11_fewest hB0 hR0 (fun x5 y10 I6 J7 hB8 p9 kq14 kq13 kq12 kq11 k16 k15 => ?_)))))))
  have i17 := i32 x5
  have b18 := Bd.o hB0 (show isO 112 3 6 = true from rfl) (show bnd 6 1 = some _ from rfl)
  have e19 : ((I6 3 1) : Int32).toInt = (I 3 1).toInt := Eq.trans (congrArg Int32.toInt kq11) rfl
  have kz20 : ((I6 3 1) : Int32).toInt = (I 3 1).toInt := e19
  have b21 := Bd.o hB0 (show isO 112 97 12 = true from rfl) (show bnd 12 8 = some _ from rfl)
  have e22 : ((I6 97 8) : Int32).toInt = (I 97 8).toInt := Eq.trans (congrArg Int32.toInt kq12) rfl
  have kz23 : ((I6 97 8) : Int32).toInt = (I 97 8).toInt := e22
  have b24 := Bd.o hB0 (show isO 112 1 11 = true from rfl) (show bnd 11 13 = some _ from rfl)
  have e25 : ((I6 1 13) : Int32).toInt = (I 1 13).toInt := Eq.trans (congrArg Int32.toInt kq13) rfl
  have kz26 : ((I6 1 13) : Int32).toInt = (I 1 13).toInt := e25
  have b27 := Bd.o hB0 (show isO 112 97 12 = true from rfl) (show bnd 12 23 = some _ from rfl)
  have e28 : ((I6 97 23) : Int32).toInt = (I 97 23).toInt := Eq.trans (congrArg Int32.toInt kq14) rfl
  have kz29 : ((I6 97 23) : Int32).toInt = (I 97 23).toInt := e28
  refine ⟨vp_of (a := (v3.toInt + 1)) e1 (by omega) (by omega), ?_⟩
  have z30 := i32 (xs (Int32.toNatClampNeg (v3 + 1)))
  refine ⟨vp_of (a := (v3.toInt + 2)) e3 (by omega) (by omega), ?_⟩
  have z31 := i32 (xs (Int32.toNatClampNeg (v3 + 2)))
  refine ⟨⟨hF0, rfl⟩, ?_⟩
  refine kp4 rfl (kp5 rfl hR0 rfl (kp0 rfl (kp1 rfl (kp2 rfl (kp3 rfl (sp_X12_fewest hB8 hR0 (fun x32 y37 I33 J34 hB35 p36 kq41 kq40 kq39 kq38 k43 k42 => ?_)))))))
  have i44 := i32 x32
  have e45 : ((I33 3 1) : Int32).toInt = (I 3 1).toInt := Eq.trans (congrArg Int32.toInt (Eq.trans kq38 kq11)) rfl
  have kz46 : ((I33 3 1) : Int32).toInt = (I 3 1).toInt := e45
  have e47 : ((I33 97 8) : Int32).toInt = (I 97 8).toInt := Eq.trans (congrArg Int32.toInt (Eq.trans kq39 kq12)) rfl
  have kz48 : ((I33 97 8) : Int32).toInt = (I 97 8).toInt := e47
  have e49 : ((I33 1 13) : Int32).toInt = (I 1 13).toInt := Eq.trans (congrArg Int32.toInt (Eq.trans kq40 kq13)) rfl
  have kz50 : ((I33 1 13) : Int32).toInt = (I 1 13).toInt := e49
  have e51 : ((I33 97 23) : Int32).toInt = (I 97 23).toInt := Eq.trans (congrArg Int32.toInt (Eq.trans kq41 kq14)) rfl
  have kz52 : ((I33 97 23) : Int32).toInt = (I 97 23).toInt := e51
  exact hN _ _ R hB35 hR0 hF0 ⟨(Eq.trans (e45) (Eq.trans hL0 (Eq.symm (e47)))), (Eq.trans (e49) (Eq.trans hL1 (Eq.symm (e51)))), (RT.kp (RT.kp hL2 k15 k16) k42 k43)⟩
set_option maxHeartbeats 2000000 in
theorem lc_28 {Q : Nat → Qt} {P : Kt} {L : Nat} {xs : Nat → Int32} (hc : Cl (AM 640) false true L xs 2 112 kL_law Q P) (hL : L ≤ 3584) {v3 : Int32} {I : Im} {J : Jm} {R : Rm} (hB0 : Bd I) (hR0 : RI R) (hF0 : Fl R) (hL0 : (I 3 1).toInt = (I 97 8).toInt) (hL1 : (I 1 13).toInt = (I 97 23).toInt) (hL2 : RT I) (h0 : 0 ≤ v3.toInt) (h7 : v3.toInt + 7 ≤ (L : Int)) (hN : ∀ (I : Im) (J : Jm) (R : Rm), Bd I → RI R → Fl R → RLk I → P 1889 112 [(0, .ref 0), (1, .ref 1), (2, .ref 97), (3, .int v3)] [] I J R) : P 1144 112 [(0, .ref 0), (1, .ref 1), (2, .ref 97), (3, .int v3)] [] I J R := by
  have i_v3 := i32 v3
  refine ls_1144 hc v3 _ _ _ ?_
  have e1 : ((v3 + 1) : Int32).toInt = (v3.toInt) + (1) := ti_add rfl rfl (by omega)
  refine ⟨vp_of (a := (v3.toInt + 1)) e1 (by omega) (by omega), ?_⟩
  have z2 := i32 (xs (Int32.toNatClampNeg (v3 + 1)))
  have e3 : ((v3 + 2) : Int32).toInt = (v3.toInt) + (2) := ti_add rfl rfl (by omega)
  refine ⟨vp_of (a := (v3.toInt + 2)) e3 (by omega) (by omega), ?_⟩
  have z4 := i32 (xs (Int32.toNatClampNeg (v3 + 2)))
  have e5 : ((v3 + 3) : Int32).toInt = (v3.toInt) + (3) := ti_add rfl rfl (by omega)
  refine ⟨vp_of (a := (v3.toInt + 3)) e5 (by omega) (by omega), ?_⟩
  have z6 := i32 (xs (Int32.toNatClampNeg (v3 + 3)))
  refine ⟨⟨hF0, rfl⟩, ?_⟩
  refine kp4 rfl (kp5 rfl hR0 rfl (kp0 rfl (kp1 rfl (kp2 rfl (kp3 rfl (sp_X11_fewestAt hB0 hR0 (fun x7 y12 I8 J9 hB10 p11 kq16 kq15 kq14 kq13 k18 k17 => ?_)))))))
  have i19 := i32 x7
  have b20 := Bd.o hB0 (show isO 112 3 6 = true from rfl) (show bnd 6 1 = some _ from rfl)
  have e21 : ((I8 3 1) : Int32).toInt = (I 3 1).toInt := Eq.trans (congrArg Int32.toInt kq13) rfl
  have kz22 : ((I8 3 1) : Int32).toInt = (I 3 1).toInt := e21
  have b23 := Bd.o hB0 (show isO 112 97 12 = true from rfl) (show bnd 12 8 = some _ from rfl)
  have e24 : ((I8 97 8) : Int32).toInt = (I 97 8).toInt := Eq.trans (congrArg Int32.toInt kq14) rfl
  have kz25 : ((I8 97 8) : Int32).toInt = (I 97 8).toInt := e24
  have b26 := Bd.o hB0 (show isO 112 1 11 = true from rfl) (show bnd 11 13 = some _ from rfl)
  have e27 : ((I8 1 13) : Int32).toInt = (I 1 13).toInt := Eq.trans (congrArg Int32.toInt kq15) rfl
  have kz28 : ((I8 1 13) : Int32).toInt = (I 1 13).toInt := e27
  have b29 := Bd.o hB0 (show isO 112 97 12 = true from rfl) (show bnd 12 23 = some _ from rfl)
  have e30 : ((I8 97 23) : Int32).toInt = (I 97 23).toInt := Eq.trans (congrArg Int32.toInt kq16) rfl
  have kz31 : ((I8 97 23) : Int32).toInt = (I 97 23).toInt := e30
  refine ⟨vp_of (a := (v3.toInt + 1)) e1 (by omega) (by omega), ?_⟩
  have z32 := i32 (xs (Int32.toNatClampNeg (v3 + 1)))
  refine ⟨vp_of (a := (v3.toInt + 2)) e3 (by omega) (by omega), ?_⟩
  have z33 := i32 (xs (Int32.toNatClampNeg (v3 + 2)))
  refine ⟨vp_of (a := (v3.toInt + 3)) e5 (by omega) (by omega), ?_⟩
  have z34 := i32 (xs (Int32.toNatClampNeg (v3 + 3)))
  refine ⟨⟨hF0, rfl⟩, ?_⟩
  refine kp4 rfl (kp5 rfl hR0 rfl (kp0 rfl (kp1 rfl (kp2 rfl (kp3 rfl (sp_X12_fewestAt hB10 hR0 (fun x35 y40 I36 J37 hB38 p39 kq44 kq43 kq42 kq41 k46 k45 => ?_)))))))
  have i47 := i32 x35
  have e48 : ((I36 3 1) : Int32).toInt = (I 3 1).toInt := Eq.trans (congrArg Int32.toInt (Eq.trans kq41 kq13)) rfl
  have kz49 : ((I36 3 1) : Int32).toInt = (I 3 1).toInt := e48
  have e50 : ((I36 97 8) : Int32).toInt = (I 97 8).toInt := Eq.trans (congrArg Int32.toInt (Eq.trans kq42 kq14)) rfl
  have kz51 : ((I36 97 8) : Int32).toInt = (I 97 8).toInt := e50
  have e52 : ((I36 1 13) : Int32).toInt = (I 1 13).toInt := Eq.trans (congrArg Int32.toInt (Eq.trans kq43 kq15)) rfl
  have kz53 : ((I36 1 13) : Int32).toInt = (I 1 13).toInt := e52
  have e54 : ((I36 97 23) : Int32).toInt = (I 97 23).toInt := Eq.trans (congrArg Int32.toInt (Eq.trans kq44 kq16)) rfl
  have kz55 : ((I36 97 23) : Int32).toInt = (I 97 23).toInt := e54
  exact hN _ _ R hB38 hR0 hF0 ⟨(Eq.trans (e48) (Eq.trans hL0 (Eq.symm (e50)))), (Eq.trans (e52) (Eq.trans hL1 (Eq.symm (e54)))), (RT.kp (RT.kp hL2 k17 k18) k45 k46)⟩
set_option maxHeartbeats 2000000 in
theorem lc_29 {Q : Nat → Qt} {P : Kt} {L : Nat} {xs : Nat → Int32} (hc : Cl (AM 640) false true L xs 2 112 kL_law Q P) (hL : L ≤ 3584) {v3 : Int32} {I : Im} {J : Jm} {R : Rm} (hB0 : Bd I) (hR0 : RI R) (hF0 : Fl R) (hL0 : (I 3 1).toInt = (I 97 8).toInt) (hL1 : (I 1 13).toInt = (I 97 23).toInt) (hL2 : RT I) (h0 : 0 ≤ v3.toInt) (h7 : v3.toInt + 7 ≤ (L : Int)) (hN : ∀ (I : Im) (J : Jm) (R : Rm), Bd I → RI R → Fl R → RLk I → P 1889 112 [(0, .ref 0), (1, .ref 1), (2, .ref 97), (3, .int v3)] [] I J R) : P 1187 112 [(0, .ref 0), (1, .ref 1), (2, .ref 97), (3, .int v3)] [] I J R := by
  have i_v3 := i32 v3
  refine ls_1187 hc v3 _ _ _ ?_
  have e1 : ((v3 + 1) : Int32).toInt = (v3.toInt) + (1) := ti_add rfl rfl (by omega)
  refine ⟨vp_of (a := (v3.toInt + 1)) e1 (by omega) (by omega), ?_⟩
  have z2 := i32 (xs (Int32.toNatClampNeg (v3 + 1)))
  have e3 : ((v3 + 2) : Int32).toInt = (v3.toInt) + (2) := ti_add rfl rfl (by omega)
  refine ⟨vp_of (a := (v3.toInt + 2)) e3 (by omega) (by omega), ?_⟩
  have z4 := i32 (xs (Int32.toNatClampNeg (v3 + 2)))
  have e5 : ((v3 + 3) : Int32).toInt = (v3.toInt) + (3) := ti_add rfl rfl (by omega)
  refine ⟨vp_of (a := (v3.toInt + 3)) e5 (by omega) (by omega), ?_⟩
  have z6 := i32 (xs (Int32.toNatClampNeg (v3 + 3)))
  refine ⟨⟨hF0, rfl⟩, ?_⟩
  refine kp4 rfl (kp5 rfl hR0 rfl (kp0 rfl (kp1 rfl (kp2 rfl (kp3 rfl (sp_X11_ways hB0 hR0 (fun x7 y12 I8 J9 hB10 p11 kq16 kq15 kq14 kq13 k18 k17 => ?_)))))))
  have i19 := i32 x7
  have b20 := Bd.o hB0 (show isO 112 3 6 = true from rfl) (show bnd 6 1 = some _ from rfl)
  have e21 : ((I8 3 1) : Int32).toInt = (I 3 1).toInt := Eq.trans (congrArg Int32.toInt kq13) rfl
  have kz22 : ((I8 3 1) : Int32).toInt = (I 3 1).toInt := e21
  have b23 := Bd.o hB0 (show isO 112 97 12 = true from rfl) (show bnd 12 8 = some _ from rfl)
  have e24 : ((I8 97 8) : Int32).toInt = (I 97 8).toInt := Eq.trans (congrArg Int32.toInt kq14) rfl
  have kz25 : ((I8 97 8) : Int32).toInt = (I 97 8).toInt := e24
  have b26 := Bd.o hB0 (show isO 112 1 11 = true from rfl) (show bnd 11 13 = some _ from rfl)
  have e27 : ((I8 1 13) : Int32).toInt = (I 1 13).toInt := Eq.trans (congrArg Int32.toInt kq15) rfl
  have kz28 : ((I8 1 13) : Int32).toInt = (I 1 13).toInt := e27
  have b29 := Bd.o hB0 (show isO 112 97 12 = true from rfl) (show bnd 12 23 = some _ from rfl)
  have e30 : ((I8 97 23) : Int32).toInt = (I 97 23).toInt := Eq.trans (congrArg Int32.toInt kq16) rfl
  have kz31 : ((I8 97 23) : Int32).toInt = (I 97 23).toInt := e30
  refine ⟨vp_of (a := (v3.toInt + 1)) e1 (by omega) (by omega), ?_⟩
  have z32 := i32 (xs (Int32.toNatClampNeg (v3 + 1)))
  refine ⟨vp_of (a := (v3.toInt + 2)) e3 (by omega) (by omega), ?_⟩
  have z33 := i32 (xs (Int32.toNatClampNeg (v3 + 2)))
  refine ⟨vp_of (a := (v3.toInt + 3)) e5 (by omega) (by omega), ?_⟩
  have z34 := i32 (xs (Int32.toNatClampNeg (v3 + 3)))
  refine ⟨⟨hF0, rfl⟩, ?_⟩
  refine kp4 rfl (kp5 rfl hR0 rfl (kp0 rfl (kp1 rfl (kp2 rfl (kp3 rfl (sp_X12_ways hB10 hR0 (fun x35 y40 I36 J37 hB38 p39 kq44 kq43 kq42 kq41 k46 k45 => ?_)))))))
  have i47 := i32 x35
  have e48 : ((I36 3 1) : Int32).toInt = (I 3 1).toInt := Eq.trans (congrArg Int32.toInt (Eq.trans kq41 kq13)) rfl
  have kz49 : ((I36 3 1) : Int32).toInt = (I 3 1).toInt := e48
  have e50 : ((I36 97 8) : Int32).toInt = (I 97 8).toInt := Eq.trans (congrArg Int32.toInt (Eq.trans kq42 kq14)) rfl
  have kz51 : ((I36 97 8) : Int32).toInt = (I 97 8).toInt := e50
  have e52 : ((I36 1 13) : Int32).toInt = (I 1 13).toInt := Eq.trans (congrArg Int32.toInt (Eq.trans kq43 kq15)) rfl
  have kz53 : ((I36 1 13) : Int32).toInt = (I 1 13).toInt := e52
  have e54 : ((I36 97 23) : Int32).toInt = (I 97 23).toInt := Eq.trans (congrArg Int32.toInt (Eq.trans kq44 kq16)) rfl
  have kz55 : ((I36 97 23) : Int32).toInt = (I 97 23).toInt := e54
  exact hN _ _ R hB38 hR0 hF0 ⟨(Eq.trans (e48) (Eq.trans hL0 (Eq.symm (e50)))), (Eq.trans (e52) (Eq.trans hL1 (Eq.symm (e54)))), (RT.kp (RT.kp hL2 k17 k18) k45 k46)⟩
set_option maxHeartbeats 2000000 in
theorem lc_30 {Q : Nat → Qt} {P : Kt} {L : Nat} {xs : Nat → Int32} (hc : Cl (AM 640) false true L xs 2 112 kL_law Q P) (hL : L ≤ 3584) {v3 : Int32} {I : Im} {J : Jm} {R : Rm} (hB0 : Bd I) (hR0 : RI R) (hF0 : Fl R) (hL0 : (I 3 1).toInt = (I 97 8).toInt) (hL1 : (I 1 13).toInt = (I 97 23).toInt) (hL2 : RT I) (h0 : 0 ≤ v3.toInt) (h7 : v3.toInt + 7 ≤ (L : Int)) (hN : ∀ (I : Im) (J : Jm) (R : Rm), Bd I → RI R → Fl R → RLk I → P 1889 112 [(0, .ref 0), (1, .ref 1), (2, .ref 97), (3, .int v3)] [] I J R) : P 1230 112 [(0, .ref 0), (1, .ref 1), (2, .ref 97), (3, .int v3)] [] I J R := by
  have i_v3 := i32 v3
  refine ls_1230 hc v3 _ _ _ ?_
  have e1 : ((v3 + 1) : Int32).toInt = (v3.toInt) + (1) := ti_add rfl rfl (by omega)
  refine ⟨vp_of (a := (v3.toInt + 1)) e1 (by omega) (by omega), ?_⟩
  have z2 := i32 (xs (Int32.toNatClampNeg (v3 + 1)))
  have e3 : ((v3 + 2) : Int32).toInt = (v3.toInt) + (2) := ti_add rfl rfl (by omega)
  refine ⟨vp_of (a := (v3.toInt + 2)) e3 (by omega) (by omega), ?_⟩
  have z4 := i32 (xs (Int32.toNatClampNeg (v3 + 2)))
  have e5 : ((v3 + 3) : Int32).toInt = (v3.toInt) + (3) := ti_add rfl rfl (by omega)
  refine ⟨vp_of (a := (v3.toInt + 3)) e5 (by omega) (by omega), ?_⟩
  have z6 := i32 (xs (Int32.toNatClampNeg (v3 + 3)))
  have e7 : ((v3 + 4) : Int32).toInt = (v3.toInt) + (4) := ti_add rfl rfl (by omega)
  refine ⟨vp_of (a := (v3.toInt + 4)) e7 (by omega) (by omega), ?_⟩
  have z8 := i32 (xs (Int32.toNatClampNeg (v3 + 4)))
  refine ⟨⟨hF0, rfl⟩, ?_⟩
  refine kp4 rfl (kp5 rfl hR0 rfl (kp0 rfl (kp1 rfl (kp2 rfl (kp3 rfl (sp_X11_oddsThat hB0 hR0 (fun x9 y14 I10 J11 hB12 p13 kq18 kq17 kq16 kq15 k20 k19 => ?_)))))))
  intro o21
  have i22 := i32 x9
  have b23 := Bd.o hB0 (show isO 112 3 6 = true from rfl) (show bnd 6 1 = some _ from rfl)
  have e24 : ((I10 3 1) : Int32).toInt = (I 3 1).toInt := Eq.trans (congrArg Int32.toInt kq15) rfl
  have kz25 : ((I10 3 1) : Int32).toInt = (I 3 1).toInt := e24
  have b26 := Bd.o hB0 (show isO 112 97 12 = true from rfl) (show bnd 12 8 = some _ from rfl)
  have e27 : ((I10 97 8) : Int32).toInt = (I 97 8).toInt := Eq.trans (congrArg Int32.toInt kq16) rfl
  have kz28 : ((I10 97 8) : Int32).toInt = (I 97 8).toInt := e27
  have b29 := Bd.o hB0 (show isO 112 1 11 = true from rfl) (show bnd 11 13 = some _ from rfl)
  have e30 : ((I10 1 13) : Int32).toInt = (I 1 13).toInt := Eq.trans (congrArg Int32.toInt kq17) rfl
  have kz31 : ((I10 1 13) : Int32).toInt = (I 1 13).toInt := e30
  have b32 := Bd.o hB0 (show isO 112 97 12 = true from rfl) (show bnd 12 23 = some _ from rfl)
  have e33 : ((I10 97 23) : Int32).toInt = (I 97 23).toInt := Eq.trans (congrArg Int32.toInt kq18) rfl
  have kz34 : ((I10 97 23) : Int32).toInt = (I 97 23).toInt := e33
  refine ⟨vp_of (a := (v3.toInt + 1)) e1 (by omega) (by omega), ?_⟩
  have z35 := i32 (xs (Int32.toNatClampNeg (v3 + 1)))
  refine ⟨vp_of (a := (v3.toInt + 2)) e3 (by omega) (by omega), ?_⟩
  have z36 := i32 (xs (Int32.toNatClampNeg (v3 + 2)))
  refine ⟨vp_of (a := (v3.toInt + 3)) e5 (by omega) (by omega), ?_⟩
  have z37 := i32 (xs (Int32.toNatClampNeg (v3 + 3)))
  refine ⟨vp_of (a := (v3.toInt + 4)) e7 (by omega) (by omega), ?_⟩
  have z38 := i32 (xs (Int32.toNatClampNeg (v3 + 4)))
  refine ⟨⟨hF0, rfl⟩, ?_⟩
  refine kp4 rfl (kp5 rfl hR0 rfl (kp0 rfl (kp1 rfl (kp2 rfl (kp3 rfl (sp_X12_oddsThat hB12 hR0 (fun x39 y44 I40 J41 hB42 p43 kq48 kq47 kq46 kq45 k50 k49 => ?_)))))))
  intro o51
  have i52 := i32 x39
  have e53 : ((I40 3 1) : Int32).toInt = (I 3 1).toInt := Eq.trans (congrArg Int32.toInt (Eq.trans kq45 kq15)) rfl
  have kz54 : ((I40 3 1) : Int32).toInt = (I 3 1).toInt := e53
  have e55 : ((I40 97 8) : Int32).toInt = (I 97 8).toInt := Eq.trans (congrArg Int32.toInt (Eq.trans kq46 kq16)) rfl
  have kz56 : ((I40 97 8) : Int32).toInt = (I 97 8).toInt := e55
  have e57 : ((I40 1 13) : Int32).toInt = (I 1 13).toInt := Eq.trans (congrArg Int32.toInt (Eq.trans kq47 kq17)) rfl
  have kz58 : ((I40 1 13) : Int32).toInt = (I 1 13).toInt := e57
  have e59 : ((I40 97 23) : Int32).toInt = (I 97 23).toInt := Eq.trans (congrArg Int32.toInt (Eq.trans kq48 kq18)) rfl
  have kz60 : ((I40 97 23) : Int32).toInt = (I 97 23).toInt := e59
  exact hN _ _ R hB42 hR0 hF0 ⟨(Eq.trans (e53) (Eq.trans hL0 (Eq.symm (e55)))), (Eq.trans (e57) (Eq.trans hL1 (Eq.symm (e59)))), (RT.kp (RT.kp hL2 k19 k20) k49 k50)⟩
set_option maxHeartbeats 2000000 in
theorem lc_31 {Q : Nat → Qt} {P : Kt} {L : Nat} {xs : Nat → Int32} (hc : Cl (AM 640) false true L xs 2 112 kL_law Q P) (hL : L ≤ 3584) {v3 : Int32} {I : Im} {J : Jm} {R : Rm} (hB0 : Bd I) (hR0 : RI R) (hF0 : Fl R) (hL0 : (I 3 1).toInt = (I 97 8).toInt) (hL1 : (I 1 13).toInt = (I 97 23).toInt) (hL2 : RT I) (h0 : 0 ≤ v3.toInt) (h7 : v3.toInt + 7 ≤ (L : Int)) (hN : ∀ (I : Im) (J : Jm) (R : Rm), Bd I → RI R → Fl R → RLk I → P 1889 112 [(0, .ref 0), (1, .ref 1), (2, .ref 97), (3, .int v3)] [] I J R) : P 1283 112 [(0, .ref 0), (1, .ref 1), (2, .ref 97), (3, .int v3)] [] I J R := by
  have i_v3 := i32 v3
  refine ls_1283 hc v3 _ _ _ ?_
  have e1 : ((v3 + 1) : Int32).toInt = (v3.toInt) + (1) := ti_add rfl rfl (by omega)
  refine ⟨vp_of (a := (v3.toInt + 1)) e1 (by omega) (by omega), ?_⟩
  have z2 := i32 (xs (Int32.toNatClampNeg (v3 + 1)))
  have e3 : ((v3 + 2) : Int32).toInt = (v3.toInt) + (2) := ti_add rfl rfl (by omega)
  refine ⟨vp_of (a := (v3.toInt + 2)) e3 (by omega) (by omega), ?_⟩
  have z4 := i32 (xs (Int32.toNatClampNeg (v3 + 2)))
  have e5 : ((v3 + 3) : Int32).toInt = (v3.toInt) + (3) := ti_add rfl rfl (by omega)
  refine ⟨vp_of (a := (v3.toInt + 3)) e5 (by omega) (by omega), ?_⟩
  have z6 := i32 (xs (Int32.toNatClampNeg (v3 + 3)))
  refine ⟨⟨hF0, rfl⟩, ?_⟩
  refine kp4 rfl (kp5 rfl hR0 rfl (kp0 rfl (kp1 rfl (kp2 rfl (kp3 rfl (sp_X11_ask hB0 hR0 (fun x7 y12 I8 J9 hB10 p11 kq16 kq15 kq14 kq13 k18 k17 => ?_)))))))
  have i19 := i32 x7
  have b20 := Bd.o hB0 (show isO 112 3 6 = true from rfl) (show bnd 6 1 = some _ from rfl)
  have e21 : ((I8 3 1) : Int32).toInt = (I 3 1).toInt := Eq.trans (congrArg Int32.toInt kq13) rfl
  have kz22 : ((I8 3 1) : Int32).toInt = (I 3 1).toInt := e21
  have b23 := Bd.o hB0 (show isO 112 97 12 = true from rfl) (show bnd 12 8 = some _ from rfl)
  have e24 : ((I8 97 8) : Int32).toInt = (I 97 8).toInt := Eq.trans (congrArg Int32.toInt kq14) rfl
  have kz25 : ((I8 97 8) : Int32).toInt = (I 97 8).toInt := e24
  have b26 := Bd.o hB0 (show isO 112 1 11 = true from rfl) (show bnd 11 13 = some _ from rfl)
  have e27 : ((I8 1 13) : Int32).toInt = (I 1 13).toInt := Eq.trans (congrArg Int32.toInt kq15) rfl
  have kz28 : ((I8 1 13) : Int32).toInt = (I 1 13).toInt := e27
  have b29 := Bd.o hB0 (show isO 112 97 12 = true from rfl) (show bnd 12 23 = some _ from rfl)
  have e30 : ((I8 97 23) : Int32).toInt = (I 97 23).toInt := Eq.trans (congrArg Int32.toInt kq16) rfl
  have kz31 : ((I8 97 23) : Int32).toInt = (I 97 23).toInt := e30
  refine ⟨vp_of (a := (v3.toInt + 1)) e1 (by omega) (by omega), ?_⟩
  have z32 := i32 (xs (Int32.toNatClampNeg (v3 + 1)))
  refine ⟨vp_of (a := (v3.toInt + 2)) e3 (by omega) (by omega), ?_⟩
  have z33 := i32 (xs (Int32.toNatClampNeg (v3 + 2)))
  refine ⟨vp_of (a := (v3.toInt + 3)) e5 (by omega) (by omega), ?_⟩
  have z34 := i32 (xs (Int32.toNatClampNeg (v3 + 3)))
  refine ⟨⟨hF0, rfl⟩, ?_⟩
  refine kp4 rfl (kp5 rfl hR0 rfl (kp0 rfl (kp1 rfl (kp2 rfl (kp3 rfl (sp_X12_ask hB10 hR0 (fun x35 y40 I36 J37 hB38 p39 kq44 kq43 kq42 kq41 k46 k45 => ?_)))))))
  have i47 := i32 x35
  have e48 : ((I36 3 1) : Int32).toInt = (I 3 1).toInt := Eq.trans (congrArg Int32.toInt (Eq.trans kq41 kq13)) rfl
  have kz49 : ((I36 3 1) : Int32).toInt = (I 3 1).toInt := e48
  have e50 : ((I36 97 8) : Int32).toInt = (I 97 8).toInt := Eq.trans (congrArg Int32.toInt (Eq.trans kq42 kq14)) rfl
  have kz51 : ((I36 97 8) : Int32).toInt = (I 97 8).toInt := e50
  have e52 : ((I36 1 13) : Int32).toInt = (I 1 13).toInt := Eq.trans (congrArg Int32.toInt (Eq.trans kq43 kq15)) rfl
  have kz53 : ((I36 1 13) : Int32).toInt = (I 1 13).toInt := e52
  have e54 : ((I36 97 23) : Int32).toInt = (I 97 23).toInt := Eq.trans (congrArg Int32.toInt (Eq.trans kq44 kq16)) rfl
  have kz55 : ((I36 97 23) : Int32).toInt = (I 97 23).toInt := e54
  exact hN _ _ R hB38 hR0 hF0 ⟨(Eq.trans (e48) (Eq.trans hL0 (Eq.symm (e50)))), (Eq.trans (e52) (Eq.trans hL1 (Eq.symm (e54)))), (RT.kp (RT.kp hL2 k17 k18) k45 k46)⟩
set_option maxHeartbeats 2000000 in
theorem lc_32 {Q : Nat → Qt} {P : Kt} {L : Nat} {xs : Nat → Int32} (hc : Cl (AM 640) false true L xs 2 112 kL_law Q P) (hL : L ≤ 3584) {v3 : Int32} {I : Im} {J : Jm} {R : Rm} (hB0 : Bd I) (hR0 : RI R) (hF0 : Fl R) (hL0 : (I 3 1).toInt = (I 97 8).toInt) (hL1 : (I 1 13).toInt = (I 97 23).toInt) (hL2 : RT I) (h0 : 0 ≤ v3.toInt) (h7 : v3.toInt + 7 ≤ (L : Int)) (hN : ∀ (I : Im) (J : Jm) (R : Rm), Bd I → RI R → Fl R → RLk I → P 1889 112 [(0, .ref 0), (1, .ref 1), (2, .ref 97), (3, .int v3)] [] I J R) : P 1326 112 [(0, .ref 0), (1, .ref 1), (2, .ref 97), (3, .int v3)] [] I J R := by
  have i_v3 := i32 v3
  refine ls_1326 hc v3 _ _ _ ?_
  have e1 : ((v3 + 1) : Int32).toInt = (v3.toInt) + (1) := ti_add rfl rfl (by omega)
  refine ⟨vp_of (a := (v3.toInt + 1)) e1 (by omega) (by omega), ?_⟩
  have z2 := i32 (xs (Int32.toNatClampNeg (v3 + 1)))
  have e3 : ((v3 + 2) : Int32).toInt = (v3.toInt) + (2) := ti_add rfl rfl (by omega)
  refine ⟨vp_of (a := (v3.toInt + 2)) e3 (by omega) (by omega), ?_⟩
  have z4 := i32 (xs (Int32.toNatClampNeg (v3 + 2)))
  have e5 : ((v3 + 3) : Int32).toInt = (v3.toInt) + (3) := ti_add rfl rfl (by omega)
  refine ⟨vp_of (a := (v3.toInt + 3)) e5 (by omega) (by omega), ?_⟩
  have z6 := i32 (xs (Int32.toNatClampNeg (v3 + 3)))
  refine ⟨⟨hF0, rfl⟩, ?_⟩
  refine kp4 rfl (kp5 rfl hR0 rfl (kp0 rfl (kp1 rfl (kp2 rfl (kp3 rfl (sp_X11_kindestAt hB0 hR0 (fun x7 y12 I8 J9 hB10 p11 kq16 kq15 kq14 kq13 k18 k17 => ?_)))))))
  have i19 := i32 x7
  have b20 := Bd.o hB0 (show isO 112 3 6 = true from rfl) (show bnd 6 1 = some _ from rfl)
  have e21 : ((I8 3 1) : Int32).toInt = (I 3 1).toInt := Eq.trans (congrArg Int32.toInt kq13) rfl
  have kz22 : ((I8 3 1) : Int32).toInt = (I 3 1).toInt := e21
  have b23 := Bd.o hB0 (show isO 112 97 12 = true from rfl) (show bnd 12 8 = some _ from rfl)
  have e24 : ((I8 97 8) : Int32).toInt = (I 97 8).toInt := Eq.trans (congrArg Int32.toInt kq14) rfl
  have kz25 : ((I8 97 8) : Int32).toInt = (I 97 8).toInt := e24
  have b26 := Bd.o hB0 (show isO 112 1 11 = true from rfl) (show bnd 11 13 = some _ from rfl)
  have e27 : ((I8 1 13) : Int32).toInt = (I 1 13).toInt := Eq.trans (congrArg Int32.toInt kq15) rfl
  have kz28 : ((I8 1 13) : Int32).toInt = (I 1 13).toInt := e27
  have b29 := Bd.o hB0 (show isO 112 97 12 = true from rfl) (show bnd 12 23 = some _ from rfl)
  have e30 : ((I8 97 23) : Int32).toInt = (I 97 23).toInt := Eq.trans (congrArg Int32.toInt kq16) rfl
  have kz31 : ((I8 97 23) : Int32).toInt = (I 97 23).toInt := e30
  refine ⟨vp_of (a := (v3.toInt + 1)) e1 (by omega) (by omega), ?_⟩
  have z32 := i32 (xs (Int32.toNatClampNeg (v3 + 1)))
  refine ⟨vp_of (a := (v3.toInt + 2)) e3 (by omega) (by omega), ?_⟩
  have z33 := i32 (xs (Int32.toNatClampNeg (v3 + 2)))
  refine ⟨vp_of (a := (v3.toInt + 3)) e5 (by omega) (by omega), ?_⟩
  have z34 := i32 (xs (Int32.toNatClampNeg (v3 + 3)))
  refine ⟨⟨hF0, rfl⟩, ?_⟩
  refine kp4 rfl (kp5 rfl hR0 rfl (kp0 rfl (kp1 rfl (kp2 rfl (kp3 rfl (sp_X12_kindestAt hB10 hR0 (fun x35 y40 I36 J37 hB38 p39 kq44 kq43 kq42 kq41 k46 k45 => ?_)))))))
  have i47 := i32 x35
  have e48 : ((I36 3 1) : Int32).toInt = (I 3 1).toInt := Eq.trans (congrArg Int32.toInt (Eq.trans kq41 kq13)) rfl
  have kz49 : ((I36 3 1) : Int32).toInt = (I 3 1).toInt := e48
  have e50 : ((I36 97 8) : Int32).toInt = (I 97 8).toInt := Eq.trans (congrArg Int32.toInt (Eq.trans kq42 kq14)) rfl
  have kz51 : ((I36 97 8) : Int32).toInt = (I 97 8).toInt := e50
  have e52 : ((I36 1 13) : Int32).toInt = (I 1 13).toInt := Eq.trans (congrArg Int32.toInt (Eq.trans kq43 kq15)) rfl
  have kz53 : ((I36 1 13) : Int32).toInt = (I 1 13).toInt := e52
  have e54 : ((I36 97 23) : Int32).toInt = (I 97 23).toInt := Eq.trans (congrArg Int32.toInt (Eq.trans kq44 kq16)) rfl
  have kz55 : ((I36 97 23) : Int32).toInt = (I 97 23).toInt := e54
  exact hN _ _ R hB38 hR0 hF0 ⟨(Eq.trans (e48) (Eq.trans hL0 (Eq.symm (e50)))), (Eq.trans (e52) (Eq.trans hL1 (Eq.symm (e54)))), (RT.kp (RT.kp hL2 k17 k18) k45 k46)⟩
set_option maxHeartbeats 2000000 in
theorem lc_33 {Q : Nat → Qt} {P : Kt} {L : Nat} {xs : Nat → Int32} (hc : Cl (AM 640) false true L xs 2 112 kL_law Q P) (hL : L ≤ 3584) {v3 : Int32} {I : Im} {J : Jm} {R : Rm} (hB0 : Bd I) (hR0 : RI R) (hF0 : Fl R) (hL0 : (I 3 1).toInt = (I 97 8).toInt) (hL1 : (I 1 13).toInt = (I 97 23).toInt) (hL2 : RT I) (h0 : 0 ≤ v3.toInt) (h7 : v3.toInt + 7 ≤ (L : Int)) (hN : ∀ (I : Im) (J : Jm) (R : Rm), Bd I → RI R → Fl R → RLk I → P 1889 112 [(0, .ref 0), (1, .ref 1), (2, .ref 97), (3, .int v3)] [] I J R) : P 1369 112 [(0, .ref 0), (1, .ref 1), (2, .ref 97), (3, .int v3)] [] I J R := by
  have i_v3 := i32 v3
  refine ls_1369 hc v3 _ _ _ ?_
  have e1 : ((v3 + 1) : Int32).toInt = (v3.toInt) + (1) := ti_add rfl rfl (by omega)
  refine ⟨vp_of (a := (v3.toInt + 1)) e1 (by omega) (by omega), ?_⟩
  have z2 := i32 (xs (Int32.toNatClampNeg (v3 + 1)))
  have e3 : ((v3 + 2) : Int32).toInt = (v3.toInt) + (2) := ti_add rfl rfl (by omega)
  refine ⟨vp_of (a := (v3.toInt + 2)) e3 (by omega) (by omega), ?_⟩
  have z4 := i32 (xs (Int32.toNatClampNeg (v3 + 2)))
  have e5 : ((v3 + 3) : Int32).toInt = (v3.toInt) + (3) := ti_add rfl rfl (by omega)
  refine ⟨vp_of (a := (v3.toInt + 3)) e5 (by omega) (by omega), ?_⟩
  have z6 := i32 (xs (Int32.toNatClampNeg (v3 + 3)))
  refine ⟨⟨hF0, rfl⟩, ?_⟩
  refine kp4 rfl (kp5 rfl hR0 rfl (kp0 rfl (kp1 rfl (kp2 rfl (kp3 rfl (gp_X11_greedyAt hB0 hR0 (fun x7 y12 I8 J9 hB10 p11 kq16 kq15 kq14 kq13 k18 k17 => ?_)))))))
  have i19 := i32 x7
  have b20 := Bd.o hB0 (show isO 112 3 6 = true from rfl) (show bnd 6 1 = some _ from rfl)
  have e21 : ((I8 3 1) : Int32).toInt = (I 3 1).toInt := Eq.trans (congrArg Int32.toInt kq13) rfl
  have kz22 : ((I8 3 1) : Int32).toInt = (I 3 1).toInt := e21
  have b23 := Bd.o hB0 (show isO 112 97 12 = true from rfl) (show bnd 12 8 = some _ from rfl)
  have e24 : ((I8 97 8) : Int32).toInt = (I 97 8).toInt := Eq.trans (congrArg Int32.toInt kq14) rfl
  have kz25 : ((I8 97 8) : Int32).toInt = (I 97 8).toInt := e24
  have b26 := Bd.o hB0 (show isO 112 1 11 = true from rfl) (show bnd 11 13 = some _ from rfl)
  have e27 : ((I8 1 13) : Int32).toInt = (I 1 13).toInt := Eq.trans (congrArg Int32.toInt kq15) rfl
  have kz28 : ((I8 1 13) : Int32).toInt = (I 1 13).toInt := e27
  have b29 := Bd.o hB0 (show isO 112 97 12 = true from rfl) (show bnd 12 23 = some _ from rfl)
  have e30 : ((I8 97 23) : Int32).toInt = (I 97 23).toInt := Eq.trans (congrArg Int32.toInt kq16) rfl
  have kz31 : ((I8 97 23) : Int32).toInt = (I 97 23).toInt := e30
  refine ⟨vp_of (a := (v3.toInt + 1)) e1 (by omega) (by omega), ?_⟩
  have z32 := i32 (xs (Int32.toNatClampNeg (v3 + 1)))
  refine ⟨vp_of (a := (v3.toInt + 2)) e3 (by omega) (by omega), ?_⟩
  have z33 := i32 (xs (Int32.toNatClampNeg (v3 + 2)))
  refine ⟨vp_of (a := (v3.toInt + 3)) e5 (by omega) (by omega), ?_⟩
  have z34 := i32 (xs (Int32.toNatClampNeg (v3 + 3)))
  refine ⟨⟨hF0, rfl⟩, ?_⟩
  refine kp4 rfl (kp5 rfl hR0 rfl (kp0 rfl (kp1 rfl (kp2 rfl (kp3 rfl (gp_X12_greedyAt hB10 hR0 (fun x35 y40 I36 J37 hB38 p39 kq44 kq43 kq42 kq41 k46 k45 => ?_)))))))
  have i47 := i32 x35
  have e48 : ((I36 3 1) : Int32).toInt = (I 3 1).toInt := Eq.trans (congrArg Int32.toInt (Eq.trans kq41 kq13)) rfl
  have kz49 : ((I36 3 1) : Int32).toInt = (I 3 1).toInt := e48
  have e50 : ((I36 97 8) : Int32).toInt = (I 97 8).toInt := Eq.trans (congrArg Int32.toInt (Eq.trans kq42 kq14)) rfl
  have kz51 : ((I36 97 8) : Int32).toInt = (I 97 8).toInt := e50
  have e52 : ((I36 1 13) : Int32).toInt = (I 1 13).toInt := Eq.trans (congrArg Int32.toInt (Eq.trans kq43 kq15)) rfl
  have kz53 : ((I36 1 13) : Int32).toInt = (I 1 13).toInt := e52
  have e54 : ((I36 97 23) : Int32).toInt = (I 97 23).toInt := Eq.trans (congrArg Int32.toInt (Eq.trans kq44 kq16)) rfl
  have kz55 : ((I36 97 23) : Int32).toInt = (I 97 23).toInt := e54
  have hg56 : (x35 : Int32).toInt = (x7 : Int32).toInt := Eq.trans p39 (Eq.trans (Eq.symm (congrArg Int32.toInt (ga_eq _ _ _))) (Eq.symm p11))
  clear p11
  clear p39
  exact hN _ _ R hB38 hR0 hF0 ⟨(Eq.trans (e48) (Eq.trans hL0 (Eq.symm (e50)))), (Eq.trans (e52) (Eq.trans hL1 (Eq.symm (e54)))), (RT.kp (RT.kp hL2 k17 k18) k45 k46)⟩
set_option maxHeartbeats 2000000 in
theorem lc_34 {Q : Nat → Qt} {P : Kt} {L : Nat} {xs : Nat → Int32} (hc : Cl (AM 640) false true L xs 2 112 kL_law Q P) (hL : L ≤ 3584) {v3 : Int32} {I : Im} {J : Jm} {R : Rm} (hB0 : Bd I) (hR0 : RI R) (hF0 : Fl R) (hL0 : (I 3 1).toInt = (I 97 8).toInt) (hL1 : (I 1 13).toInt = (I 97 23).toInt) (hL2 : RT I) (h0 : 0 ≤ v3.toInt) (h7 : v3.toInt + 7 ≤ (L : Int)) (hN : ∀ (I : Im) (J : Jm) (R : Rm), Bd I → RI R → Fl R → RLk I → P 1889 112 [(0, .ref 0), (1, .ref 1), (2, .ref 97), (3, .int v3)] [] I J R) : P 1412 112 [(0, .ref 0), (1, .ref 1), (2, .ref 97), (3, .int v3)] [] I J R := by
  have i_v3 := i32 v3
  refine ls_1412 hc v3 _ _ _ ?_
  have e1 : ((v3 + 1) : Int32).toInt = (v3.toInt) + (1) := ti_add rfl rfl (by omega)
  refine ⟨vp_of (a := (v3.toInt + 1)) e1 (by omega) (by omega), ?_⟩
  have z2 := i32 (xs (Int32.toNatClampNeg (v3 + 1)))
  have e3 : ((v3 + 2) : Int32).toInt = (v3.toInt) + (2) := ti_add rfl rfl (by omega)
  refine ⟨vp_of (a := (v3.toInt + 2)) e3 (by omega) (by omega), ?_⟩
  have z4 := i32 (xs (Int32.toNatClampNeg (v3 + 2)))
  have e5 : ((v3 + 3) : Int32).toInt = (v3.toInt) + (3) := ti_add rfl rfl (by omega)
  refine ⟨vp_of (a := (v3.toInt + 3)) e5 (by omega) (by omega), ?_⟩
  have z6 := i32 (xs (Int32.toNatClampNeg (v3 + 3)))
  have e7 : ((v3 + 4) : Int32).toInt = (v3.toInt) + (4) := ti_add rfl rfl (by omega)
  refine ⟨vp_of (a := (v3.toInt + 4)) e7 (by omega) (by omega), ?_⟩
  have z8 := i32 (xs (Int32.toNatClampNeg (v3 + 4)))
  refine ⟨⟨hF0, rfl⟩, ?_⟩
  refine kp4 rfl (kp5 rfl hR0 rfl (kp0 rfl (kp1 rfl (kp2 rfl (kp3 rfl (sp_X11_slips hB0 hR0 (fun x9 y14 I10 J11 hB12 p13 kq18 kq17 kq16 kq15 k20 k19 => ?_)))))))
  have i21 := i32 x9
  have b22 := Bd.o hB0 (show isO 112 3 6 = true from rfl) (show bnd 6 1 = some _ from rfl)
  have e23 : ((I10 3 1) : Int32).toInt = (I 3 1).toInt := Eq.trans (congrArg Int32.toInt kq15) rfl
  have kz24 : ((I10 3 1) : Int32).toInt = (I 3 1).toInt := e23
  have b25 := Bd.o hB0 (show isO 112 97 12 = true from rfl) (show bnd 12 8 = some _ from rfl)
  have e26 : ((I10 97 8) : Int32).toInt = (I 97 8).toInt := Eq.trans (congrArg Int32.toInt kq16) rfl
  have kz27 : ((I10 97 8) : Int32).toInt = (I 97 8).toInt := e26
  have b28 := Bd.o hB0 (show isO 112 1 11 = true from rfl) (show bnd 11 13 = some _ from rfl)
  have e29 : ((I10 1 13) : Int32).toInt = (I 1 13).toInt := Eq.trans (congrArg Int32.toInt kq17) rfl
  have kz30 : ((I10 1 13) : Int32).toInt = (I 1 13).toInt := e29
  have b31 := Bd.o hB0 (show isO 112 97 12 = true from rfl) (show bnd 12 23 = some _ from rfl)
  have e32 : ((I10 97 23) : Int32).toInt = (I 97 23).toInt := Eq.trans (congrArg Int32.toInt kq18) rfl
  have kz33 : ((I10 97 23) : Int32).toInt = (I 97 23).toInt := e32
  refine ⟨vp_of (a := (v3.toInt + 1)) e1 (by omega) (by omega), ?_⟩
  have z34 := i32 (xs (Int32.toNatClampNeg (v3 + 1)))
  refine ⟨vp_of (a := (v3.toInt + 2)) e3 (by omega) (by omega), ?_⟩
  have z35 := i32 (xs (Int32.toNatClampNeg (v3 + 2)))
  refine ⟨vp_of (a := (v3.toInt + 3)) e5 (by omega) (by omega), ?_⟩
  have z36 := i32 (xs (Int32.toNatClampNeg (v3 + 3)))
  refine ⟨vp_of (a := (v3.toInt + 4)) e7 (by omega) (by omega), ?_⟩
  have z37 := i32 (xs (Int32.toNatClampNeg (v3 + 4)))
  refine ⟨⟨hF0, rfl⟩, ?_⟩
  refine kp4 rfl (kp5 rfl hR0 rfl (kp0 rfl (kp1 rfl (kp2 rfl (kp3 rfl (sp_X12_slips hB12 hR0 (fun x38 y43 I39 J40 hB41 p42 kq47 kq46 kq45 kq44 k49 k48 => ?_)))))))
  have i50 := i32 x38
  have e51 : ((I39 3 1) : Int32).toInt = (I 3 1).toInt := Eq.trans (congrArg Int32.toInt (Eq.trans kq44 kq15)) rfl
  have kz52 : ((I39 3 1) : Int32).toInt = (I 3 1).toInt := e51
  have e53 : ((I39 97 8) : Int32).toInt = (I 97 8).toInt := Eq.trans (congrArg Int32.toInt (Eq.trans kq45 kq16)) rfl
  have kz54 : ((I39 97 8) : Int32).toInt = (I 97 8).toInt := e53
  have e55 : ((I39 1 13) : Int32).toInt = (I 1 13).toInt := Eq.trans (congrArg Int32.toInt (Eq.trans kq46 kq17)) rfl
  have kz56 : ((I39 1 13) : Int32).toInt = (I 1 13).toInt := e55
  have e57 : ((I39 97 23) : Int32).toInt = (I 97 23).toInt := Eq.trans (congrArg Int32.toInt (Eq.trans kq47 kq18)) rfl
  have kz58 : ((I39 97 23) : Int32).toInt = (I 97 23).toInt := e57
  exact hN _ _ R hB41 hR0 hF0 ⟨(Eq.trans (e51) (Eq.trans hL0 (Eq.symm (e53)))), (Eq.trans (e55) (Eq.trans hL1 (Eq.symm (e57)))), (RT.kp (RT.kp hL2 k19 k20) k48 k49)⟩
set_option maxHeartbeats 2000000 in
theorem lc_35 {Q : Nat → Qt} {P : Kt} {L : Nat} {xs : Nat → Int32} (hc : Cl (AM 640) false true L xs 2 112 kL_law Q P) (hL : L ≤ 3584) {v3 : Int32} {I : Im} {J : Jm} {R : Rm} (hB0 : Bd I) (hR0 : RI R) (hF0 : Fl R) (hL0 : (I 3 1).toInt = (I 97 8).toInt) (hL1 : (I 1 13).toInt = (I 97 23).toInt) (hL2 : RT I) (h0 : 0 ≤ v3.toInt) (h7 : v3.toInt + 7 ≤ (L : Int)) (hN : ∀ (I : Im) (J : Jm) (R : Rm), Bd I → RI R → Fl R → RLk I → P 1889 112 [(0, .ref 0), (1, .ref 1), (2, .ref 97), (3, .int v3)] [] I J R) : P 1465 112 [(0, .ref 0), (1, .ref 1), (2, .ref 97), (3, .int v3)] [] I J R := by
  have i_v3 := i32 v3
  refine ls_1465 hc v3 _ _ _ ?_
  have e1 : ((v3 + 1) : Int32).toInt = (v3.toInt) + (1) := ti_add rfl rfl (by omega)
  refine ⟨vp_of (a := (v3.toInt + 1)) e1 (by omega) (by omega), ?_⟩
  have z2 := i32 (xs (Int32.toNatClampNeg (v3 + 1)))
  have e3 : ((v3 + 2) : Int32).toInt = (v3.toInt) + (2) := ti_add rfl rfl (by omega)
  refine ⟨vp_of (a := (v3.toInt + 2)) e3 (by omega) (by omega), ?_⟩
  have z4 := i32 (xs (Int32.toNatClampNeg (v3 + 2)))
  have e5 : ((v3 + 3) : Int32).toInt = (v3.toInt) + (3) := ti_add rfl rfl (by omega)
  refine ⟨vp_of (a := (v3.toInt + 3)) e5 (by omega) (by omega), ?_⟩
  have z6 := i32 (xs (Int32.toNatClampNeg (v3 + 3)))
  have e7 : ((v3 + 4) : Int32).toInt = (v3.toInt) + (4) := ti_add rfl rfl (by omega)
  refine ⟨vp_of (a := (v3.toInt + 4)) e7 (by omega) (by omega), ?_⟩
  have z8 := i32 (xs (Int32.toNatClampNeg (v3 + 4)))
  have e9 : ((v3 + 5) : Int32).toInt = (v3.toInt) + (5) := ti_add rfl rfl (by omega)
  refine ⟨vp_of (a := (v3.toInt + 5)) e9 (by omega) (by omega), ?_⟩
  have z10 := i32 (xs (Int32.toNatClampNeg (v3 + 5)))
  have e11 : ((v3 + 6) : Int32).toInt = (v3.toInt) + (6) := ti_add rfl rfl (by omega)
  refine ⟨vp_of (a := (v3.toInt + 6)) e11 (by omega) (by omega), ?_⟩
  have z12 := i32 (xs (Int32.toNatClampNeg (v3 + 6)))
  refine ⟨⟨hF0, rfl⟩, ?_⟩
  refine kp4 rfl (kp5 rfl hR0 rfl (kp0 rfl (kp1 rfl (kp2 rfl (kp3 rfl (sp_X11_slipAt hB0 hR0 (fun x13 y18 I14 J15 hB16 p17 kq22 kq21 kq20 kq19 k24 k23 => ?_)))))))
  have i25 := i32 x13
  have b26 := Bd.o hB0 (show isO 112 3 6 = true from rfl) (show bnd 6 1 = some _ from rfl)
  have e27 : ((I14 3 1) : Int32).toInt = (I 3 1).toInt := Eq.trans (congrArg Int32.toInt kq19) rfl
  have kz28 : ((I14 3 1) : Int32).toInt = (I 3 1).toInt := e27
  have b29 := Bd.o hB0 (show isO 112 97 12 = true from rfl) (show bnd 12 8 = some _ from rfl)
  have e30 : ((I14 97 8) : Int32).toInt = (I 97 8).toInt := Eq.trans (congrArg Int32.toInt kq20) rfl
  have kz31 : ((I14 97 8) : Int32).toInt = (I 97 8).toInt := e30
  have b32 := Bd.o hB0 (show isO 112 1 11 = true from rfl) (show bnd 11 13 = some _ from rfl)
  have e33 : ((I14 1 13) : Int32).toInt = (I 1 13).toInt := Eq.trans (congrArg Int32.toInt kq21) rfl
  have kz34 : ((I14 1 13) : Int32).toInt = (I 1 13).toInt := e33
  have b35 := Bd.o hB0 (show isO 112 97 12 = true from rfl) (show bnd 12 23 = some _ from rfl)
  have e36 : ((I14 97 23) : Int32).toInt = (I 97 23).toInt := Eq.trans (congrArg Int32.toInt kq22) rfl
  have kz37 : ((I14 97 23) : Int32).toInt = (I 97 23).toInt := e36
  refine ⟨vp_of (a := (v3.toInt + 1)) e1 (by omega) (by omega), ?_⟩
  have z38 := i32 (xs (Int32.toNatClampNeg (v3 + 1)))
  refine ⟨vp_of (a := (v3.toInt + 2)) e3 (by omega) (by omega), ?_⟩
  have z39 := i32 (xs (Int32.toNatClampNeg (v3 + 2)))
  refine ⟨vp_of (a := (v3.toInt + 3)) e5 (by omega) (by omega), ?_⟩
  have z40 := i32 (xs (Int32.toNatClampNeg (v3 + 3)))
  refine ⟨vp_of (a := (v3.toInt + 4)) e7 (by omega) (by omega), ?_⟩
  have z41 := i32 (xs (Int32.toNatClampNeg (v3 + 4)))
  refine ⟨vp_of (a := (v3.toInt + 5)) e9 (by omega) (by omega), ?_⟩
  have z42 := i32 (xs (Int32.toNatClampNeg (v3 + 5)))
  refine ⟨vp_of (a := (v3.toInt + 6)) e11 (by omega) (by omega), ?_⟩
  have z43 := i32 (xs (Int32.toNatClampNeg (v3 + 6)))
  refine ⟨⟨hF0, rfl⟩, ?_⟩
  refine kp4 rfl (kp5 rfl hR0 rfl (kp0 rfl (kp1 rfl (kp2 rfl (kp3 rfl (sp_X12_slipAt hB16 hR0 (fun x44 y49 I45 J46 hB47 p48 kq53 kq52 kq51 kq50 k55 k54 => ?_)))))))
  have i56 := i32 x44
  have e57 : ((I45 3 1) : Int32).toInt = (I 3 1).toInt := Eq.trans (congrArg Int32.toInt (Eq.trans kq50 kq19)) rfl
  have kz58 : ((I45 3 1) : Int32).toInt = (I 3 1).toInt := e57
  have e59 : ((I45 97 8) : Int32).toInt = (I 97 8).toInt := Eq.trans (congrArg Int32.toInt (Eq.trans kq51 kq20)) rfl
  have kz60 : ((I45 97 8) : Int32).toInt = (I 97 8).toInt := e59
  have e61 : ((I45 1 13) : Int32).toInt = (I 1 13).toInt := Eq.trans (congrArg Int32.toInt (Eq.trans kq52 kq21)) rfl
  have kz62 : ((I45 1 13) : Int32).toInt = (I 1 13).toInt := e61
  have e63 : ((I45 97 23) : Int32).toInt = (I 97 23).toInt := Eq.trans (congrArg Int32.toInt (Eq.trans kq53 kq22)) rfl
  have kz64 : ((I45 97 23) : Int32).toInt = (I 97 23).toInt := e63
  exact hN _ _ R hB47 hR0 hF0 ⟨(Eq.trans (e57) (Eq.trans hL0 (Eq.symm (e59)))), (Eq.trans (e61) (Eq.trans hL1 (Eq.symm (e63)))), (RT.kp (RT.kp hL2 k23 k24) k54 k55)⟩
set_option maxHeartbeats 2000000 in
theorem lc_36 {Q : Nat → Qt} {P : Kt} {L : Nat} {xs : Nat → Int32} (hc : Cl (AM 640) false true L xs 2 112 kL_law Q P) (hL : L ≤ 3584) {v3 : Int32} {I : Im} {J : Jm} {R : Rm} (hB0 : Bd I) (hR0 : RI R) (hF0 : Fl R) (hL0 : (I 3 1).toInt = (I 97 8).toInt) (hL1 : (I 1 13).toInt = (I 97 23).toInt) (hL2 : RT I) (h0 : 0 ≤ v3.toInt) (h7 : v3.toInt + 7 ≤ (L : Int)) (hN : ∀ (I : Im) (J : Jm) (R : Rm), Bd I → RI R → Fl R → RLk I → P 1889 112 [(0, .ref 0), (1, .ref 1), (2, .ref 97), (3, .int v3)] [] I J R) : P 1540 112 [(0, .ref 0), (1, .ref 1), (2, .ref 97), (3, .int v3)] [] I J R := by
  have i_v3 := i32 v3
  refine ls_1540 hc v3 _ _ _ ?_
  have e1 : ((v3 + 1) : Int32).toInt = (v3.toInt) + (1) := ti_add rfl rfl (by omega)
  refine ⟨vp_of (a := (v3.toInt + 1)) e1 (by omega) (by omega), ?_⟩
  have z2 := i32 (xs (Int32.toNatClampNeg (v3 + 1)))
  refine ⟨⟨hF0, rfl⟩, ?_⟩
  refine kp4 rfl (kp5 rfl hR0 rfl (kp0 rfl (kp1 rfl (kp2 rfl (kp3 rfl (sp_X11_reach hB0 hR0 (fun x3 y8 I4 J5 hB6 p7 kq12 kq11 kq10 kq9 k14 k13 => ?_)))))))
  have i15 := i32 x3
  have b16 := Bd.o hB0 (show isO 112 3 6 = true from rfl) (show bnd 6 1 = some _ from rfl)
  have e17 : ((I4 3 1) : Int32).toInt = (I 3 1).toInt := Eq.trans (congrArg Int32.toInt kq9) rfl
  have kz18 : ((I4 3 1) : Int32).toInt = (I 3 1).toInt := e17
  have b19 := Bd.o hB0 (show isO 112 97 12 = true from rfl) (show bnd 12 8 = some _ from rfl)
  have e20 : ((I4 97 8) : Int32).toInt = (I 97 8).toInt := Eq.trans (congrArg Int32.toInt kq10) rfl
  have kz21 : ((I4 97 8) : Int32).toInt = (I 97 8).toInt := e20
  have b22 := Bd.o hB0 (show isO 112 1 11 = true from rfl) (show bnd 11 13 = some _ from rfl)
  have e23 : ((I4 1 13) : Int32).toInt = (I 1 13).toInt := Eq.trans (congrArg Int32.toInt kq11) rfl
  have kz24 : ((I4 1 13) : Int32).toInt = (I 1 13).toInt := e23
  have b25 := Bd.o hB0 (show isO 112 97 12 = true from rfl) (show bnd 12 23 = some _ from rfl)
  have e26 : ((I4 97 23) : Int32).toInt = (I 97 23).toInt := Eq.trans (congrArg Int32.toInt kq12) rfl
  have kz27 : ((I4 97 23) : Int32).toInt = (I 97 23).toInt := e26
  refine ⟨vp_of (a := (v3.toInt + 1)) e1 (by omega) (by omega), ?_⟩
  have z28 := i32 (xs (Int32.toNatClampNeg (v3 + 1)))
  refine ⟨⟨hF0, rfl⟩, ?_⟩
  refine kp4 rfl (kp5 rfl hR0 rfl (kp0 rfl (kp1 rfl (kp2 rfl (kp3 rfl (sp_X12_reach hB6 hR0 (fun x29 y34 I30 J31 hB32 p33 kq38 kq37 kq36 kq35 k40 k39 => ?_)))))))
  have i41 := i32 x29
  have e42 : ((I30 3 1) : Int32).toInt = (I 3 1).toInt := Eq.trans (congrArg Int32.toInt (Eq.trans kq35 kq9)) rfl
  have kz43 : ((I30 3 1) : Int32).toInt = (I 3 1).toInt := e42
  have e44 : ((I30 97 8) : Int32).toInt = (I 97 8).toInt := Eq.trans (congrArg Int32.toInt (Eq.trans kq36 kq10)) rfl
  have kz45 : ((I30 97 8) : Int32).toInt = (I 97 8).toInt := e44
  have e46 : ((I30 1 13) : Int32).toInt = (I 1 13).toInt := Eq.trans (congrArg Int32.toInt (Eq.trans kq37 kq11)) rfl
  have kz47 : ((I30 1 13) : Int32).toInt = (I 1 13).toInt := e46
  have e48 : ((I30 97 23) : Int32).toInt = (I 97 23).toInt := Eq.trans (congrArg Int32.toInt (Eq.trans kq38 kq12)) rfl
  have kz49 : ((I30 97 23) : Int32).toInt = (I 97 23).toInt := e48
  exact hN _ _ R hB32 hR0 hF0 ⟨(Eq.trans (e42) (Eq.trans hL0 (Eq.symm (e44)))), (Eq.trans (e46) (Eq.trans hL1 (Eq.symm (e48)))), (RT.kp (RT.kp hL2 k13 k14) k39 k40)⟩
set_option maxHeartbeats 2000000 in
theorem lc_37 {Q : Nat → Qt} {P : Kt} {L : Nat} {xs : Nat → Int32} (hc : Cl (AM 640) false true L xs 2 112 kL_law Q P) (hL : L ≤ 3584) {v3 : Int32} {I : Im} {J : Jm} {R : Rm} (hB0 : Bd I) (hR0 : RI R) (hF0 : Fl R) (hL0 : (I 3 1).toInt = (I 97 8).toInt) (hL1 : (I 1 13).toInt = (I 97 23).toInt) (hL2 : RT I) (h0 : 0 ≤ v3.toInt) (h7 : v3.toInt + 7 ≤ (L : Int)) (hN : ∀ (I : Im) (J : Jm) (R : Rm), Bd I → RI R → Fl R → RLk I → P 1889 112 [(0, .ref 0), (1, .ref 1), (2, .ref 97), (3, .int v3)] [] I J R) : P 1563 112 [(0, .ref 0), (1, .ref 1), (2, .ref 97), (3, .int v3)] [] I J R := by
  have i_v3 := i32 v3
  refine ls_1563 hc v3 _ _ _ ?_
  have e1 : ((v3 + 1) : Int32).toInt = (v3.toInt) + (1) := ti_add rfl rfl (by omega)
  refine ⟨vp_of (a := (v3.toInt + 1)) e1 (by omega) (by omega), ?_⟩
  have z2 := i32 (xs (Int32.toNatClampNeg (v3 + 1)))
  have e3 : ((v3 + 2) : Int32).toInt = (v3.toInt) + (2) := ti_add rfl rfl (by omega)
  refine ⟨vp_of (a := (v3.toInt + 2)) e3 (by omega) (by omega), ?_⟩
  have z4 := i32 (xs (Int32.toNatClampNeg (v3 + 2)))
  refine ⟨⟨hF0, rfl⟩, ?_⟩
  refine kp4 rfl (kp5 rfl hR0 rfl (kp0 rfl (kp1 rfl (kp2 rfl (kp3 rfl (sp_X11_reachAt hB0 hR0 (fun x5 y10 I6 J7 hB8 p9 kq14 kq13 kq12 kq11 k16 k15 => ?_)))))))
  have i17 := i32 x5
  have b18 := Bd.o hB0 (show isO 112 3 6 = true from rfl) (show bnd 6 1 = some _ from rfl)
  have e19 : ((I6 3 1) : Int32).toInt = (I 3 1).toInt := Eq.trans (congrArg Int32.toInt kq11) rfl
  have kz20 : ((I6 3 1) : Int32).toInt = (I 3 1).toInt := e19
  have b21 := Bd.o hB0 (show isO 112 97 12 = true from rfl) (show bnd 12 8 = some _ from rfl)
  have e22 : ((I6 97 8) : Int32).toInt = (I 97 8).toInt := Eq.trans (congrArg Int32.toInt kq12) rfl
  have kz23 : ((I6 97 8) : Int32).toInt = (I 97 8).toInt := e22
  have b24 := Bd.o hB0 (show isO 112 1 11 = true from rfl) (show bnd 11 13 = some _ from rfl)
  have e25 : ((I6 1 13) : Int32).toInt = (I 1 13).toInt := Eq.trans (congrArg Int32.toInt kq13) rfl
  have kz26 : ((I6 1 13) : Int32).toInt = (I 1 13).toInt := e25
  have b27 := Bd.o hB0 (show isO 112 97 12 = true from rfl) (show bnd 12 23 = some _ from rfl)
  have e28 : ((I6 97 23) : Int32).toInt = (I 97 23).toInt := Eq.trans (congrArg Int32.toInt kq14) rfl
  have kz29 : ((I6 97 23) : Int32).toInt = (I 97 23).toInt := e28
  refine ⟨vp_of (a := (v3.toInt + 1)) e1 (by omega) (by omega), ?_⟩
  have z30 := i32 (xs (Int32.toNatClampNeg (v3 + 1)))
  refine ⟨vp_of (a := (v3.toInt + 2)) e3 (by omega) (by omega), ?_⟩
  have z31 := i32 (xs (Int32.toNatClampNeg (v3 + 2)))
  refine ⟨⟨hF0, rfl⟩, ?_⟩
  refine kp4 rfl (kp5 rfl hR0 rfl (kp0 rfl (kp1 rfl (kp2 rfl (kp3 rfl (sp_X12_reachAt hB8 hR0 (fun x32 y37 I33 J34 hB35 p36 kq41 kq40 kq39 kq38 k43 k42 => ?_)))))))
  have i44 := i32 x32
  have e45 : ((I33 3 1) : Int32).toInt = (I 3 1).toInt := Eq.trans (congrArg Int32.toInt (Eq.trans kq38 kq11)) rfl
  have kz46 : ((I33 3 1) : Int32).toInt = (I 3 1).toInt := e45
  have e47 : ((I33 97 8) : Int32).toInt = (I 97 8).toInt := Eq.trans (congrArg Int32.toInt (Eq.trans kq39 kq12)) rfl
  have kz48 : ((I33 97 8) : Int32).toInt = (I 97 8).toInt := e47
  have e49 : ((I33 1 13) : Int32).toInt = (I 1 13).toInt := Eq.trans (congrArg Int32.toInt (Eq.trans kq40 kq13)) rfl
  have kz50 : ((I33 1 13) : Int32).toInt = (I 1 13).toInt := e49
  have e51 : ((I33 97 23) : Int32).toInt = (I 97 23).toInt := Eq.trans (congrArg Int32.toInt (Eq.trans kq41 kq14)) rfl
  have kz52 : ((I33 97 23) : Int32).toInt = (I 97 23).toInt := e51
  exact hN _ _ R hB35 hR0 hF0 ⟨(Eq.trans (e45) (Eq.trans hL0 (Eq.symm (e47)))), (Eq.trans (e49) (Eq.trans hL1 (Eq.symm (e51)))), (RT.kp (RT.kp hL2 k15 k16) k42 k43)⟩
set_option maxHeartbeats 2000000 in
theorem lc_38 {Q : Nat → Qt} {P : Kt} {L : Nat} {xs : Nat → Int32} (hc : Cl (AM 640) false true L xs 2 112 kL_law Q P) (hL : L ≤ 3584) {v3 : Int32} {I : Im} {J : Jm} {R : Rm} (hB0 : Bd I) (hR0 : RI R) (hF0 : Fl R) (hL0 : (I 3 1).toInt = (I 97 8).toInt) (hL1 : (I 1 13).toInt = (I 97 23).toInt) (hL2 : RT I) (h0 : 0 ≤ v3.toInt) (h7 : v3.toInt + 7 ≤ (L : Int)) (hN : ∀ (I : Im) (J : Jm) (R : Rm), Bd I → RI R → Fl R → RLk I → P 1889 112 [(0, .ref 0), (1, .ref 1), (2, .ref 97), (3, .int v3)] [] I J R) : P 1596 112 [(0, .ref 0), (1, .ref 1), (2, .ref 97), (3, .int v3)] [] I J R := by
  have i_v3 := i32 v3
  refine ls_1596 hc v3 _ _ _ ?_
  have e1 : ((v3 + 1) : Int32).toInt = (v3.toInt) + (1) := ti_add rfl rfl (by omega)
  refine ⟨vp_of (a := (v3.toInt + 1)) e1 (by omega) (by omega), ?_⟩
  have z2 := i32 (xs (Int32.toNatClampNeg (v3 + 1)))
  refine ⟨⟨hF0, rfl⟩, ?_⟩
  refine kp4 rfl (kp5 rfl hR0 rfl (kp0 rfl (kp1 rfl (kp2 rfl (kp3 rfl (sp_X11_fill hB0 hR0 (fun x3 y8 I4 J5 hB6 p7 kq12 kq11 kq10 kq9 k14 k13 => ?_)))))))
  have i15 := i32 x3
  have b16 := Bd.o hB0 (show isO 112 3 6 = true from rfl) (show bnd 6 1 = some _ from rfl)
  have e17 : ((I4 3 1) : Int32).toInt = (I 3 1).toInt := Eq.trans (congrArg Int32.toInt kq9) rfl
  have kz18 : ((I4 3 1) : Int32).toInt = (I 3 1).toInt := e17
  have b19 := Bd.o hB0 (show isO 112 97 12 = true from rfl) (show bnd 12 8 = some _ from rfl)
  have e20 : ((I4 97 8) : Int32).toInt = (I 97 8).toInt := Eq.trans (congrArg Int32.toInt kq10) rfl
  have kz21 : ((I4 97 8) : Int32).toInt = (I 97 8).toInt := e20
  have b22 := Bd.o hB0 (show isO 112 1 11 = true from rfl) (show bnd 11 13 = some _ from rfl)
  have e23 : ((I4 1 13) : Int32).toInt = (I 1 13).toInt := Eq.trans (congrArg Int32.toInt kq11) rfl
  have kz24 : ((I4 1 13) : Int32).toInt = (I 1 13).toInt := e23
  have b25 := Bd.o hB0 (show isO 112 97 12 = true from rfl) (show bnd 12 23 = some _ from rfl)
  have e26 : ((I4 97 23) : Int32).toInt = (I 97 23).toInt := Eq.trans (congrArg Int32.toInt kq12) rfl
  have kz27 : ((I4 97 23) : Int32).toInt = (I 97 23).toInt := e26
  refine ⟨vp_of (a := (v3.toInt + 1)) e1 (by omega) (by omega), ?_⟩
  have z28 := i32 (xs (Int32.toNatClampNeg (v3 + 1)))
  refine ⟨⟨hF0, rfl⟩, ?_⟩
  refine kp4 rfl (kp5 rfl hR0 rfl (kp0 rfl (kp1 rfl (kp2 rfl (kp3 rfl (sp_X12_fill hB6 hR0 (fun x29 y34 I30 J31 hB32 p33 kq38 kq37 kq36 kq35 k40 k39 => ?_)))))))
  have i41 := i32 x29
  have e42 : ((I30 3 1) : Int32).toInt = (I 3 1).toInt := Eq.trans (congrArg Int32.toInt (Eq.trans kq35 kq9)) rfl
  have kz43 : ((I30 3 1) : Int32).toInt = (I 3 1).toInt := e42
  have e44 : ((I30 97 8) : Int32).toInt = (I 97 8).toInt := Eq.trans (congrArg Int32.toInt (Eq.trans kq36 kq10)) rfl
  have kz45 : ((I30 97 8) : Int32).toInt = (I 97 8).toInt := e44
  have e46 : ((I30 1 13) : Int32).toInt = (I 1 13).toInt := Eq.trans (congrArg Int32.toInt (Eq.trans kq37 kq11)) rfl
  have kz47 : ((I30 1 13) : Int32).toInt = (I 1 13).toInt := e46
  have e48 : ((I30 97 23) : Int32).toInt = (I 97 23).toInt := Eq.trans (congrArg Int32.toInt (Eq.trans kq38 kq12)) rfl
  have kz49 : ((I30 97 23) : Int32).toInt = (I 97 23).toInt := e48
  exact hN _ _ R hB32 hR0 hF0 ⟨(Eq.trans (e42) (Eq.trans hL0 (Eq.symm (e44)))), (Eq.trans (e46) (Eq.trans hL1 (Eq.symm (e48)))), (RT.kp (RT.kp hL2 k13 k14) k39 k40)⟩
set_option maxHeartbeats 2000000 in
theorem lc_39 {Q : Nat → Qt} {P : Kt} {L : Nat} {xs : Nat → Int32} (hc : Cl (AM 640) false true L xs 2 112 kL_law Q P) (hL : L ≤ 3584) {v3 : Int32} {I : Im} {J : Jm} {R : Rm} (hB0 : Bd I) (hR0 : RI R) (hF0 : Fl R) (hL0 : (I 3 1).toInt = (I 97 8).toInt) (hL1 : (I 1 13).toInt = (I 97 23).toInt) (hL2 : RT I) (h0 : 0 ≤ v3.toInt) (h7 : v3.toInt + 7 ≤ (L : Int)) (hN : ∀ (I : Im) (J : Jm) (R : Rm), Bd I → RI R → Fl R → RLk I → P 1889 112 [(0, .ref 0), (1, .ref 1), (2, .ref 97), (3, .int v3)] [] I J R) : P 1619 112 [(0, .ref 0), (1, .ref 1), (2, .ref 97), (3, .int v3)] [] I J R := by
  have i_v3 := i32 v3
  refine ls_1619 hc v3 _ _ _ ?_
  have e1 : ((v3 + 1) : Int32).toInt = (v3.toInt) + (1) := ti_add rfl rfl (by omega)
  refine ⟨vp_of (a := (v3.toInt + 1)) e1 (by omega) (by omega), ?_⟩
  have z2 := i32 (xs (Int32.toNatClampNeg (v3 + 1)))
  have e3 : ((v3 + 2) : Int32).toInt = (v3.toInt) + (2) := ti_add rfl rfl (by omega)
  refine ⟨vp_of (a := (v3.toInt + 2)) e3 (by omega) (by omega), ?_⟩
  have z4 := i32 (xs (Int32.toNatClampNeg (v3 + 2)))
  refine ⟨⟨hF0, rfl⟩, ?_⟩
  refine kp4 rfl (kp5 rfl hR0 rfl (kp0 rfl (kp1 rfl (kp2 rfl (kp3 rfl (sp_X11_fillAt hB0 hR0 (fun x5 y10 I6 J7 hB8 p9 kq14 kq13 kq12 kq11 k16 k15 => ?_)))))))
  have i17 := i32 x5
  have b18 := Bd.o hB0 (show isO 112 3 6 = true from rfl) (show bnd 6 1 = some _ from rfl)
  have e19 : ((I6 3 1) : Int32).toInt = (I 3 1).toInt := Eq.trans (congrArg Int32.toInt kq11) rfl
  have kz20 : ((I6 3 1) : Int32).toInt = (I 3 1).toInt := e19
  have b21 := Bd.o hB0 (show isO 112 97 12 = true from rfl) (show bnd 12 8 = some _ from rfl)
  have e22 : ((I6 97 8) : Int32).toInt = (I 97 8).toInt := Eq.trans (congrArg Int32.toInt kq12) rfl
  have kz23 : ((I6 97 8) : Int32).toInt = (I 97 8).toInt := e22
  have b24 := Bd.o hB0 (show isO 112 1 11 = true from rfl) (show bnd 11 13 = some _ from rfl)
  have e25 : ((I6 1 13) : Int32).toInt = (I 1 13).toInt := Eq.trans (congrArg Int32.toInt kq13) rfl
  have kz26 : ((I6 1 13) : Int32).toInt = (I 1 13).toInt := e25
  have b27 := Bd.o hB0 (show isO 112 97 12 = true from rfl) (show bnd 12 23 = some _ from rfl)
  have e28 : ((I6 97 23) : Int32).toInt = (I 97 23).toInt := Eq.trans (congrArg Int32.toInt kq14) rfl
  have kz29 : ((I6 97 23) : Int32).toInt = (I 97 23).toInt := e28
  refine ⟨vp_of (a := (v3.toInt + 1)) e1 (by omega) (by omega), ?_⟩
  have z30 := i32 (xs (Int32.toNatClampNeg (v3 + 1)))
  refine ⟨vp_of (a := (v3.toInt + 2)) e3 (by omega) (by omega), ?_⟩
  have z31 := i32 (xs (Int32.toNatClampNeg (v3 + 2)))
  refine ⟨⟨hF0, rfl⟩, ?_⟩
  refine kp4 rfl (kp5 rfl hR0 rfl (kp0 rfl (kp1 rfl (kp2 rfl (kp3 rfl (sp_X12_fillAt hB8 hR0 (fun x32 y37 I33 J34 hB35 p36 kq41 kq40 kq39 kq38 k43 k42 => ?_)))))))
  have i44 := i32 x32
  have e45 : ((I33 3 1) : Int32).toInt = (I 3 1).toInt := Eq.trans (congrArg Int32.toInt (Eq.trans kq38 kq11)) rfl
  have kz46 : ((I33 3 1) : Int32).toInt = (I 3 1).toInt := e45
  have e47 : ((I33 97 8) : Int32).toInt = (I 97 8).toInt := Eq.trans (congrArg Int32.toInt (Eq.trans kq39 kq12)) rfl
  have kz48 : ((I33 97 8) : Int32).toInt = (I 97 8).toInt := e47
  have e49 : ((I33 1 13) : Int32).toInt = (I 1 13).toInt := Eq.trans (congrArg Int32.toInt (Eq.trans kq40 kq13)) rfl
  have kz50 : ((I33 1 13) : Int32).toInt = (I 1 13).toInt := e49
  have e51 : ((I33 97 23) : Int32).toInt = (I 97 23).toInt := Eq.trans (congrArg Int32.toInt (Eq.trans kq41 kq14)) rfl
  have kz52 : ((I33 97 23) : Int32).toInt = (I 97 23).toInt := e51
  exact hN _ _ R hB35 hR0 hF0 ⟨(Eq.trans (e45) (Eq.trans hL0 (Eq.symm (e47)))), (Eq.trans (e49) (Eq.trans hL1 (Eq.symm (e51)))), (RT.kp (RT.kp hL2 k15 k16) k42 k43)⟩
set_option maxHeartbeats 2000000 in
theorem lc_40 {Q : Nat → Qt} {P : Kt} {L : Nat} {xs : Nat → Int32} (hc : Cl (AM 640) false true L xs 2 112 kL_law Q P) (hL : L ≤ 3584) {v3 : Int32} {I : Im} {J : Jm} {R : Rm} (hB0 : Bd I) (hR0 : RI R) (hF0 : Fl R) (hL0 : (I 3 1).toInt = (I 97 8).toInt) (hL1 : (I 1 13).toInt = (I 97 23).toInt) (hL2 : RT I) (h0 : 0 ≤ v3.toInt) (h7 : v3.toInt + 7 ≤ (L : Int)) (hN : ∀ (I : Im) (J : Jm) (R : Rm), Bd I → RI R → Fl R → RLk I → P 1889 112 [(0, .ref 0), (1, .ref 1), (2, .ref 97), (3, .int v3)] [] I J R) : P 1652 112 [(0, .ref 0), (1, .ref 1), (2, .ref 97), (3, .int v3)] [] I J R := by
  have i_v3 := i32 v3
  refine ls_1652 hc v3 _ _ _ ?_
  have e1 : ((v3 + 1) : Int32).toInt = (v3.toInt) + (1) := ti_add rfl rfl (by omega)
  refine ⟨vp_of (a := (v3.toInt + 1)) e1 (by omega) (by omega), ?_⟩
  have z2 := i32 (xs (Int32.toNatClampNeg (v3 + 1)))
  refine ⟨⟨hF0, rfl⟩, ?_⟩
  refine kp4 rfl (kp5 rfl hR0 rfl (kp0 rfl (kp1 rfl (kp2 rfl (kp3 rfl (sp_X11_plate hB0 hR0 (fun x3 y8 I4 J5 hB6 p7 kq12 kq11 kq10 kq9 k14 k13 => ?_)))))))
  have i15 := i32 x3
  have b16 := Bd.o hB0 (show isO 112 3 6 = true from rfl) (show bnd 6 1 = some _ from rfl)
  have e17 : ((I4 3 1) : Int32).toInt = (I 3 1).toInt := Eq.trans (congrArg Int32.toInt kq9) rfl
  have kz18 : ((I4 3 1) : Int32).toInt = (I 3 1).toInt := e17
  have b19 := Bd.o hB0 (show isO 112 97 12 = true from rfl) (show bnd 12 8 = some _ from rfl)
  have e20 : ((I4 97 8) : Int32).toInt = (I 97 8).toInt := Eq.trans (congrArg Int32.toInt kq10) rfl
  have kz21 : ((I4 97 8) : Int32).toInt = (I 97 8).toInt := e20
  have b22 := Bd.o hB0 (show isO 112 1 11 = true from rfl) (show bnd 11 13 = some _ from rfl)
  have e23 : ((I4 1 13) : Int32).toInt = (I 1 13).toInt := Eq.trans (congrArg Int32.toInt kq11) rfl
  have kz24 : ((I4 1 13) : Int32).toInt = (I 1 13).toInt := e23
  have b25 := Bd.o hB0 (show isO 112 97 12 = true from rfl) (show bnd 12 23 = some _ from rfl)
  have e26 : ((I4 97 23) : Int32).toInt = (I 97 23).toInt := Eq.trans (congrArg Int32.toInt kq12) rfl
  have kz27 : ((I4 97 23) : Int32).toInt = (I 97 23).toInt := e26
  refine ⟨vp_of (a := (v3.toInt + 1)) e1 (by omega) (by omega), ?_⟩
  have z28 := i32 (xs (Int32.toNatClampNeg (v3 + 1)))
  refine ⟨⟨hF0, rfl⟩, ?_⟩
  refine kp4 rfl (kp5 rfl hR0 rfl (kp0 rfl (kp1 rfl (kp2 rfl (kp3 rfl (sp_X12_plate hB6 hR0 (fun x29 y34 I30 J31 hB32 p33 kq38 kq37 kq36 kq35 k40 k39 => ?_)))))))
  have i41 := i32 x29
  have e42 : ((I30 3 1) : Int32).toInt = (I 3 1).toInt := Eq.trans (congrArg Int32.toInt (Eq.trans kq35 kq9)) rfl
  have kz43 : ((I30 3 1) : Int32).toInt = (I 3 1).toInt := e42
  have e44 : ((I30 97 8) : Int32).toInt = (I 97 8).toInt := Eq.trans (congrArg Int32.toInt (Eq.trans kq36 kq10)) rfl
  have kz45 : ((I30 97 8) : Int32).toInt = (I 97 8).toInt := e44
  have e46 : ((I30 1 13) : Int32).toInt = (I 1 13).toInt := Eq.trans (congrArg Int32.toInt (Eq.trans kq37 kq11)) rfl
  have kz47 : ((I30 1 13) : Int32).toInt = (I 1 13).toInt := e46
  have e48 : ((I30 97 23) : Int32).toInt = (I 97 23).toInt := Eq.trans (congrArg Int32.toInt (Eq.trans kq38 kq12)) rfl
  have kz49 : ((I30 97 23) : Int32).toInt = (I 97 23).toInt := e48
  exact hN _ _ R hB32 hR0 hF0 ⟨(Eq.trans (e42) (Eq.trans hL0 (Eq.symm (e44)))), (Eq.trans (e46) (Eq.trans hL1 (Eq.symm (e48)))), (RT.kp (RT.kp hL2 k13 k14) k39 k40)⟩
set_option maxHeartbeats 2000000 in
theorem lc_41 {Q : Nat → Qt} {P : Kt} {L : Nat} {xs : Nat → Int32} (hc : Cl (AM 640) false true L xs 2 112 kL_law Q P) (hL : L ≤ 3584) {v3 : Int32} {I : Im} {J : Jm} {R : Rm} (hB0 : Bd I) (hR0 : RI R) (hF0 : Fl R) (hL0 : (I 3 1).toInt = (I 97 8).toInt) (hL1 : (I 1 13).toInt = (I 97 23).toInt) (hL2 : RT I) (h0 : 0 ≤ v3.toInt) (h7 : v3.toInt + 7 ≤ (L : Int)) (hN : ∀ (I : Im) (J : Jm) (R : Rm), Bd I → RI R → Fl R → RLk I → P 1889 112 [(0, .ref 0), (1, .ref 1), (2, .ref 97), (3, .int v3)] [] I J R) : P 1675 112 [(0, .ref 0), (1, .ref 1), (2, .ref 97), (3, .int v3)] [] I J R := by
  have i_v3 := i32 v3
  refine ls_1675 hc v3 _ _ _ ?_
  have e1 : ((v3 + 1) : Int32).toInt = (v3.toInt) + (1) := ti_add rfl rfl (by omega)
  refine ⟨vp_of (a := (v3.toInt + 1)) e1 (by omega) (by omega), ?_⟩
  have z2 := i32 (xs (Int32.toNatClampNeg (v3 + 1)))
  refine ⟨⟨hF0, rfl⟩, ?_⟩
  refine kp4 rfl (kp5 rfl hR0 rfl (kp0 rfl (kp1 rfl (kp2 rfl (kp3 rfl (sp_X11_plateMove hB0 hR0 (fun x3 y8 I4 J5 hB6 p7 kq12 kq11 kq10 kq9 k14 k13 => ?_)))))))
  have i15 := i32 x3
  have b16 := Bd.o hB0 (show isO 112 3 6 = true from rfl) (show bnd 6 1 = some _ from rfl)
  have e17 : ((I4 3 1) : Int32).toInt = (I 3 1).toInt := Eq.trans (congrArg Int32.toInt kq9) rfl
  have kz18 : ((I4 3 1) : Int32).toInt = (I 3 1).toInt := e17
  have b19 := Bd.o hB0 (show isO 112 97 12 = true from rfl) (show bnd 12 8 = some _ from rfl)
  have e20 : ((I4 97 8) : Int32).toInt = (I 97 8).toInt := Eq.trans (congrArg Int32.toInt kq10) rfl
  have kz21 : ((I4 97 8) : Int32).toInt = (I 97 8).toInt := e20
  have b22 := Bd.o hB0 (show isO 112 1 11 = true from rfl) (show bnd 11 13 = some _ from rfl)
  have e23 : ((I4 1 13) : Int32).toInt = (I 1 13).toInt := Eq.trans (congrArg Int32.toInt kq11) rfl
  have kz24 : ((I4 1 13) : Int32).toInt = (I 1 13).toInt := e23
  have b25 := Bd.o hB0 (show isO 112 97 12 = true from rfl) (show bnd 12 23 = some _ from rfl)
  have e26 : ((I4 97 23) : Int32).toInt = (I 97 23).toInt := Eq.trans (congrArg Int32.toInt kq12) rfl
  have kz27 : ((I4 97 23) : Int32).toInt = (I 97 23).toInt := e26
  refine ⟨vp_of (a := (v3.toInt + 1)) e1 (by omega) (by omega), ?_⟩
  have z28 := i32 (xs (Int32.toNatClampNeg (v3 + 1)))
  refine ⟨⟨hF0, rfl⟩, ?_⟩
  refine kp4 rfl (kp5 rfl hR0 rfl (kp0 rfl (kp1 rfl (kp2 rfl (kp3 rfl (sp_X12_plateMove hB6 hR0 (fun x29 y34 I30 J31 hB32 p33 kq38 kq37 kq36 kq35 k40 k39 => ?_)))))))
  have i41 := i32 x29
  have e42 : ((I30 3 1) : Int32).toInt = (I 3 1).toInt := Eq.trans (congrArg Int32.toInt (Eq.trans kq35 kq9)) rfl
  have kz43 : ((I30 3 1) : Int32).toInt = (I 3 1).toInt := e42
  have e44 : ((I30 97 8) : Int32).toInt = (I 97 8).toInt := Eq.trans (congrArg Int32.toInt (Eq.trans kq36 kq10)) rfl
  have kz45 : ((I30 97 8) : Int32).toInt = (I 97 8).toInt := e44
  have e46 : ((I30 1 13) : Int32).toInt = (I 1 13).toInt := Eq.trans (congrArg Int32.toInt (Eq.trans kq37 kq11)) rfl
  have kz47 : ((I30 1 13) : Int32).toInt = (I 1 13).toInt := e46
  have e48 : ((I30 97 23) : Int32).toInt = (I 97 23).toInt := Eq.trans (congrArg Int32.toInt (Eq.trans kq38 kq12)) rfl
  have kz49 : ((I30 97 23) : Int32).toInt = (I 97 23).toInt := e48
  exact hN _ _ R hB32 hR0 hF0 ⟨(Eq.trans (e42) (Eq.trans hL0 (Eq.symm (e44)))), (Eq.trans (e46) (Eq.trans hL1 (Eq.symm (e48)))), (RT.kp (RT.kp hL2 k13 k14) k39 k40)⟩
set_option maxHeartbeats 2000000 in
theorem lc_42 {Q : Nat → Qt} {P : Kt} {L : Nat} {xs : Nat → Int32} (hc : Cl (AM 640) false true L xs 2 112 kL_law Q P) (hL : L ≤ 3584) {v3 : Int32} {I : Im} {J : Jm} {R : Rm} (hB0 : Bd I) (hR0 : RI R) (hF0 : Fl R) (hL0 : (I 3 1).toInt = (I 97 8).toInt) (hL1 : (I 1 13).toInt = (I 97 23).toInt) (hL2 : RT I) (h0 : 0 ≤ v3.toInt) (h7 : v3.toInt + 7 ≤ (L : Int)) (hN : ∀ (I : Im) (J : Jm) (R : Rm), Bd I → RI R → Fl R → RLk I → P 1889 112 [(0, .ref 0), (1, .ref 1), (2, .ref 97), (3, .int v3)] [] I J R) : P 1698 112 [(0, .ref 0), (1, .ref 1), (2, .ref 97), (3, .int v3)] [] I J R := by
  have i_v3 := i32 v3
  refine ls_1698 hc v3 _ _ _ ?_
  have e1 : ((v3 + 1) : Int32).toInt = (v3.toInt) + (1) := ti_add rfl rfl (by omega)
  refine ⟨vp_of (a := (v3.toInt + 1)) e1 (by omega) (by omega), ?_⟩
  have z2 := i32 (xs (Int32.toNatClampNeg (v3 + 1)))
  have e3 : ((v3 + 2) : Int32).toInt = (v3.toInt) + (2) := ti_add rfl rfl (by omega)
  refine ⟨vp_of (a := (v3.toInt + 2)) e3 (by omega) (by omega), ?_⟩
  have z4 := i32 (xs (Int32.toNatClampNeg (v3 + 2)))
  have e5 : ((v3 + 3) : Int32).toInt = (v3.toInt) + (3) := ti_add rfl rfl (by omega)
  refine ⟨vp_of (a := (v3.toInt + 3)) e5 (by omega) (by omega), ?_⟩
  have z6 := i32 (xs (Int32.toNatClampNeg (v3 + 3)))
  have e7 : ((v3 + 4) : Int32).toInt = (v3.toInt) + (4) := ti_add rfl rfl (by omega)
  refine ⟨vp_of (a := (v3.toInt + 4)) e7 (by omega) (by omega), ?_⟩
  have z8 := i32 (xs (Int32.toNatClampNeg (v3 + 4)))
  refine ⟨⟨hF0, rfl⟩, ?_⟩
  refine kp4 rfl (kp5 rfl hR0 rfl (kp0 rfl (kp1 rfl (kp2 rfl (kp3 rfl (sp_X11_luck hB0 hR0 (fun x9 y14 I10 J11 hB12 p13 kq18 kq17 kq16 kq15 k20 k19 => ?_)))))))
  intro o21
  have i22 := i32 x9
  have b23 := Bd.o hB0 (show isO 112 3 6 = true from rfl) (show bnd 6 1 = some _ from rfl)
  have e24 : ((I10 3 1) : Int32).toInt = (I 3 1).toInt := Eq.trans (congrArg Int32.toInt kq15) rfl
  have kz25 : ((I10 3 1) : Int32).toInt = (I 3 1).toInt := e24
  have b26 := Bd.o hB0 (show isO 112 97 12 = true from rfl) (show bnd 12 8 = some _ from rfl)
  have e27 : ((I10 97 8) : Int32).toInt = (I 97 8).toInt := Eq.trans (congrArg Int32.toInt kq16) rfl
  have kz28 : ((I10 97 8) : Int32).toInt = (I 97 8).toInt := e27
  have b29 := Bd.o hB0 (show isO 112 1 11 = true from rfl) (show bnd 11 13 = some _ from rfl)
  have e30 : ((I10 1 13) : Int32).toInt = (I 1 13).toInt := Eq.trans (congrArg Int32.toInt kq17) rfl
  have kz31 : ((I10 1 13) : Int32).toInt = (I 1 13).toInt := e30
  have b32 := Bd.o hB0 (show isO 112 97 12 = true from rfl) (show bnd 12 23 = some _ from rfl)
  have e33 : ((I10 97 23) : Int32).toInt = (I 97 23).toInt := Eq.trans (congrArg Int32.toInt kq18) rfl
  have kz34 : ((I10 97 23) : Int32).toInt = (I 97 23).toInt := e33
  refine ⟨vp_of (a := (v3.toInt + 1)) e1 (by omega) (by omega), ?_⟩
  have z35 := i32 (xs (Int32.toNatClampNeg (v3 + 1)))
  refine ⟨vp_of (a := (v3.toInt + 2)) e3 (by omega) (by omega), ?_⟩
  have z36 := i32 (xs (Int32.toNatClampNeg (v3 + 2)))
  refine ⟨vp_of (a := (v3.toInt + 3)) e5 (by omega) (by omega), ?_⟩
  have z37 := i32 (xs (Int32.toNatClampNeg (v3 + 3)))
  refine ⟨vp_of (a := (v3.toInt + 4)) e7 (by omega) (by omega), ?_⟩
  have z38 := i32 (xs (Int32.toNatClampNeg (v3 + 4)))
  refine ⟨⟨hF0, rfl⟩, ?_⟩
  refine kp4 rfl (kp5 rfl hR0 rfl (kp0 rfl (kp1 rfl (kp2 rfl (kp3 rfl (sp_X12_luck hB12 hR0 (fun x39 y44 I40 J41 hB42 p43 kq48 kq47 kq46 kq45 k50 k49 => ?_)))))))
  intro o51
  have i52 := i32 x39
  have e53 : ((I40 3 1) : Int32).toInt = (I 3 1).toInt := Eq.trans (congrArg Int32.toInt (Eq.trans kq45 kq15)) rfl
  have kz54 : ((I40 3 1) : Int32).toInt = (I 3 1).toInt := e53
  have e55 : ((I40 97 8) : Int32).toInt = (I 97 8).toInt := Eq.trans (congrArg Int32.toInt (Eq.trans kq46 kq16)) rfl
  have kz56 : ((I40 97 8) : Int32).toInt = (I 97 8).toInt := e55
  have e57 : ((I40 1 13) : Int32).toInt = (I 1 13).toInt := Eq.trans (congrArg Int32.toInt (Eq.trans kq47 kq17)) rfl
  have kz58 : ((I40 1 13) : Int32).toInt = (I 1 13).toInt := e57
  have e59 : ((I40 97 23) : Int32).toInt = (I 97 23).toInt := Eq.trans (congrArg Int32.toInt (Eq.trans kq48 kq18)) rfl
  have kz60 : ((I40 97 23) : Int32).toInt = (I 97 23).toInt := e59
  exact hN _ _ R hB42 hR0 hF0 ⟨(Eq.trans (e53) (Eq.trans hL0 (Eq.symm (e55)))), (Eq.trans (e57) (Eq.trans hL1 (Eq.symm (e59)))), (RT.kp (RT.kp hL2 k19 k20) k49 k50)⟩
set_option maxHeartbeats 2000000 in
theorem lc_43 {Q : Nat → Qt} {P : Kt} {L : Nat} {xs : Nat → Int32} (hc : Cl (AM 640) false true L xs 2 112 kL_law Q P) (hL : L ≤ 3584) {v3 : Int32} {I : Im} {J : Jm} {R : Rm} (hB0 : Bd I) (hR0 : RI R) (hF0 : Fl R) (hL0 : (I 3 1).toInt = (I 97 8).toInt) (hL1 : (I 1 13).toInt = (I 97 23).toInt) (hL2 : RT I) (h0 : 0 ≤ v3.toInt) (h7 : v3.toInt + 7 ≤ (L : Int)) (hN : ∀ (I : Im) (J : Jm) (R : Rm), Bd I → RI R → Fl R → RLk I → P 1889 112 [(0, .ref 0), (1, .ref 1), (2, .ref 97), (3, .int v3)] [] I J R) : P 1751 112 [(0, .ref 0), (1, .ref 1), (2, .ref 97), (3, .int v3)] [] I J R := by
  have i_v3 := i32 v3
  refine ls_1751 hc v3 _ _ _ ?_
  have e1 : ((v3 + 1) : Int32).toInt = (v3.toInt) + (1) := ti_add rfl rfl (by omega)
  refine ⟨vp_of (a := (v3.toInt + 1)) e1 (by omega) (by omega), ?_⟩
  have z2 := i32 (xs (Int32.toNatClampNeg (v3 + 1)))
  have e3 : ((v3 + 2) : Int32).toInt = (v3.toInt) + (2) := ti_add rfl rfl (by omega)
  refine ⟨vp_of (a := (v3.toInt + 2)) e3 (by omega) (by omega), ?_⟩
  have z4 := i32 (xs (Int32.toNatClampNeg (v3 + 2)))
  refine ⟨⟨hF0, rfl⟩, ?_⟩
  refine kp4 rfl (kp5 rfl hR0 rfl (kp0 rfl (kp1 rfl (kp2 rfl (kp3 rfl (sp_X11_burnt hB0 hR0 (fun x5 y10 I6 J7 hB8 p9 kq14 kq13 kq12 kq11 k16 k15 => ?_)))))))
  intro o17
  have i18 := i32 x5
  have b19 := Bd.o hB0 (show isO 112 3 6 = true from rfl) (show bnd 6 1 = some _ from rfl)
  have e20 : ((I6 3 1) : Int32).toInt = (I 3 1).toInt := Eq.trans (congrArg Int32.toInt kq11) rfl
  have kz21 : ((I6 3 1) : Int32).toInt = (I 3 1).toInt := e20
  have b22 := Bd.o hB0 (show isO 112 97 12 = true from rfl) (show bnd 12 8 = some _ from rfl)
  have e23 : ((I6 97 8) : Int32).toInt = (I 97 8).toInt := Eq.trans (congrArg Int32.toInt kq12) rfl
  have kz24 : ((I6 97 8) : Int32).toInt = (I 97 8).toInt := e23
  have b25 := Bd.o hB0 (show isO 112 1 11 = true from rfl) (show bnd 11 13 = some _ from rfl)
  have e26 : ((I6 1 13) : Int32).toInt = (I 1 13).toInt := Eq.trans (congrArg Int32.toInt kq13) rfl
  have kz27 : ((I6 1 13) : Int32).toInt = (I 1 13).toInt := e26
  have b28 := Bd.o hB0 (show isO 112 97 12 = true from rfl) (show bnd 12 23 = some _ from rfl)
  have e29 : ((I6 97 23) : Int32).toInt = (I 97 23).toInt := Eq.trans (congrArg Int32.toInt kq14) rfl
  have kz30 : ((I6 97 23) : Int32).toInt = (I 97 23).toInt := e29
  refine ⟨vp_of (a := (v3.toInt + 1)) e1 (by omega) (by omega), ?_⟩
  have z31 := i32 (xs (Int32.toNatClampNeg (v3 + 1)))
  refine ⟨vp_of (a := (v3.toInt + 2)) e3 (by omega) (by omega), ?_⟩
  have z32 := i32 (xs (Int32.toNatClampNeg (v3 + 2)))
  refine ⟨⟨hF0, rfl⟩, ?_⟩
  refine kp4 rfl (kp5 rfl hR0 rfl (kp0 rfl (kp1 rfl (kp2 rfl (kp3 rfl (sp_X12_burnt hB8 hR0 (fun x33 y38 I34 J35 hB36 p37 kq42 kq41 kq40 kq39 k44 k43 => ?_)))))))
  intro o45
  have i46 := i32 x33
  have e47 : ((I34 3 1) : Int32).toInt = (I 3 1).toInt := Eq.trans (congrArg Int32.toInt (Eq.trans kq39 kq11)) rfl
  have kz48 : ((I34 3 1) : Int32).toInt = (I 3 1).toInt := e47
  have e49 : ((I34 97 8) : Int32).toInt = (I 97 8).toInt := Eq.trans (congrArg Int32.toInt (Eq.trans kq40 kq12)) rfl
  have kz50 : ((I34 97 8) : Int32).toInt = (I 97 8).toInt := e49
  have e51 : ((I34 1 13) : Int32).toInt = (I 1 13).toInt := Eq.trans (congrArg Int32.toInt (Eq.trans kq41 kq13)) rfl
  have kz52 : ((I34 1 13) : Int32).toInt = (I 1 13).toInt := e51
  have e53 : ((I34 97 23) : Int32).toInt = (I 97 23).toInt := Eq.trans (congrArg Int32.toInt (Eq.trans kq42 kq14)) rfl
  have kz54 : ((I34 97 23) : Int32).toInt = (I 97 23).toInt := e53
  exact hN _ _ R hB36 hR0 hF0 ⟨(Eq.trans (e47) (Eq.trans hL0 (Eq.symm (e49)))), (Eq.trans (e51) (Eq.trans hL1 (Eq.symm (e53)))), (RT.kp (RT.kp hL2 k15 k16) k43 k44)⟩
set_option maxHeartbeats 2000000 in
theorem lc_44 {Q : Nat → Qt} {P : Kt} {L : Nat} {xs : Nat → Int32} (hc : Cl (AM 640) false true L xs 2 112 kL_law Q P) (hL : L ≤ 3584) {v3 : Int32} {I : Im} {J : Jm} {R : Rm} (hB0 : Bd I) (hR0 : RI R) (hF0 : Fl R) (hL0 : (I 3 1).toInt = (I 97 8).toInt) (hL1 : (I 1 13).toInt = (I 97 23).toInt) (hL2 : RT I) (h0 : 0 ≤ v3.toInt) (h7 : v3.toInt + 7 ≤ (L : Int)) (hN : ∀ (I : Im) (J : Jm) (R : Rm), Bd I → RI R → Fl R → RLk I → P 1889 112 [(0, .ref 0), (1, .ref 1), (2, .ref 97), (3, .int v3)] [] I J R) : P 1784 112 [(0, .ref 0), (1, .ref 1), (2, .ref 97), (3, .int v3)] [] I J R := by
  have i_v3 := i32 v3
  refine ls_1784 hc v3 _ _ _ ?_
  have e1 : ((v3 + 1) : Int32).toInt = (v3.toInt) + (1) := ti_add rfl rfl (by omega)
  refine ⟨vp_of (a := (v3.toInt + 1)) e1 (by omega) (by omega), ?_⟩
  have z2 := i32 (xs (Int32.toNatClampNeg (v3 + 1)))
  refine ⟨⟨hF0, rfl⟩, ?_⟩
  refine kp4 rfl (kp5 rfl hR0 rfl (kp0 rfl (kp1 rfl (kp2 rfl (kp3 rfl (sp_X11_live hB0 hR0 (fun x3 y8 I4 J5 hB6 p7 kq12 kq11 kq10 kq9 k14 k13 => ?_)))))))
  have i15 := i32 x3
  have b16 := Bd.o hB0 (show isO 112 3 6 = true from rfl) (show bnd 6 1 = some _ from rfl)
  have e17 : ((I4 3 1) : Int32).toInt = (I 3 1).toInt := Eq.trans (congrArg Int32.toInt kq9) rfl
  have kz18 : ((I4 3 1) : Int32).toInt = (I 3 1).toInt := e17
  have b19 := Bd.o hB0 (show isO 112 97 12 = true from rfl) (show bnd 12 8 = some _ from rfl)
  have e20 : ((I4 97 8) : Int32).toInt = (I 97 8).toInt := Eq.trans (congrArg Int32.toInt kq10) rfl
  have kz21 : ((I4 97 8) : Int32).toInt = (I 97 8).toInt := e20
  have b22 := Bd.o hB0 (show isO 112 1 11 = true from rfl) (show bnd 11 13 = some _ from rfl)
  have e23 : ((I4 1 13) : Int32).toInt = (I 1 13).toInt := Eq.trans (congrArg Int32.toInt kq11) rfl
  have kz24 : ((I4 1 13) : Int32).toInt = (I 1 13).toInt := e23
  have b25 := Bd.o hB0 (show isO 112 97 12 = true from rfl) (show bnd 12 23 = some _ from rfl)
  have e26 : ((I4 97 23) : Int32).toInt = (I 97 23).toInt := Eq.trans (congrArg Int32.toInt kq12) rfl
  have kz27 : ((I4 97 23) : Int32).toInt = (I 97 23).toInt := e26
  refine ⟨vp_of (a := (v3.toInt + 1)) e1 (by omega) (by omega), ?_⟩
  have z28 := i32 (xs (Int32.toNatClampNeg (v3 + 1)))
  refine ⟨⟨hF0, rfl⟩, ?_⟩
  refine kp4 rfl (kp5 rfl hR0 rfl (kp0 rfl (kp1 rfl (kp2 rfl (kp3 rfl (sp_X12_live hB6 hR0 (fun x29 y34 I30 J31 hB32 p33 kq38 kq37 kq36 kq35 k40 k39 => ?_)))))))
  have i41 := i32 x29
  have e42 : ((I30 3 1) : Int32).toInt = (I 3 1).toInt := Eq.trans (congrArg Int32.toInt (Eq.trans kq35 kq9)) rfl
  have kz43 : ((I30 3 1) : Int32).toInt = (I 3 1).toInt := e42
  have e44 : ((I30 97 8) : Int32).toInt = (I 97 8).toInt := Eq.trans (congrArg Int32.toInt (Eq.trans kq36 kq10)) rfl
  have kz45 : ((I30 97 8) : Int32).toInt = (I 97 8).toInt := e44
  have e46 : ((I30 1 13) : Int32).toInt = (I 1 13).toInt := Eq.trans (congrArg Int32.toInt (Eq.trans kq37 kq11)) rfl
  have kz47 : ((I30 1 13) : Int32).toInt = (I 1 13).toInt := e46
  have e48 : ((I30 97 23) : Int32).toInt = (I 97 23).toInt := Eq.trans (congrArg Int32.toInt (Eq.trans kq38 kq12)) rfl
  have kz49 : ((I30 97 23) : Int32).toInt = (I 97 23).toInt := e48
  exact hN _ _ R hB32 hR0 hF0 ⟨(Eq.trans (e42) (Eq.trans hL0 (Eq.symm (e44)))), (Eq.trans (e46) (Eq.trans hL1 (Eq.symm (e48)))), (RT.kp (RT.kp hL2 k13 k14) k39 k40)⟩
set_option maxHeartbeats 2000000 in
theorem lc_45 {Q : Nat → Qt} {P : Kt} {L : Nat} {xs : Nat → Int32} (hc : Cl (AM 640) false true L xs 2 112 kL_law Q P) (hL : L ≤ 3584) {v3 : Int32} {I : Im} {J : Jm} {R : Rm} (hB0 : Bd I) (hR0 : RI R) (hF0 : Fl R) (hL0 : (I 3 1).toInt = (I 97 8).toInt) (hL1 : (I 1 13).toInt = (I 97 23).toInt) (hL2 : RT I) (h0 : 0 ≤ v3.toInt) (h7 : v3.toInt + 7 ≤ (L : Int)) (hN : ∀ (I : Im) (J : Jm) (R : Rm), Bd I → RI R → Fl R → RLk I → P 1889 112 [(0, .ref 0), (1, .ref 1), (2, .ref 97), (3, .int v3)] [] I J R) : P 1807 112 [(0, .ref 0), (1, .ref 1), (2, .ref 97), (3, .int v3)] [] I J R := by
  have i_v3 := i32 v3
  refine ls_1807 hc v3 _ _ _ ?_
  have e1 : ((v3 + 1) : Int32).toInt = (v3.toInt) + (1) := ti_add rfl rfl (by omega)
  refine ⟨vp_of (a := (v3.toInt + 1)) e1 (by omega) (by omega), ?_⟩
  have z2 := i32 (xs (Int32.toNatClampNeg (v3 + 1)))
  refine ⟨⟨hF0, rfl⟩, ?_⟩
  refine kp4 rfl (kp5 rfl hR0 rfl (kp0 rfl (kp1 rfl (kp2 rfl (kp3 rfl (sp_X11_lived hB0 hR0 (fun x3 y8 I4 J5 hB6 p7 kq12 kq11 kq10 kq9 k14 k13 => ?_)))))))
  have i15 := i32 x3
  have b16 := Bd.o hB0 (show isO 112 3 6 = true from rfl) (show bnd 6 1 = some _ from rfl)
  have e17 : ((I4 3 1) : Int32).toInt = (I 3 1).toInt := Eq.trans (congrArg Int32.toInt kq9) rfl
  have kz18 : ((I4 3 1) : Int32).toInt = (I 3 1).toInt := e17
  have b19 := Bd.o hB0 (show isO 112 97 12 = true from rfl) (show bnd 12 8 = some _ from rfl)
  have e20 : ((I4 97 8) : Int32).toInt = (I 97 8).toInt := Eq.trans (congrArg Int32.toInt kq10) rfl
  have kz21 : ((I4 97 8) : Int32).toInt = (I 97 8).toInt := e20
  have b22 := Bd.o hB0 (show isO 112 1 11 = true from rfl) (show bnd 11 13 = some _ from rfl)
  have e23 : ((I4 1 13) : Int32).toInt = (I 1 13).toInt := Eq.trans (congrArg Int32.toInt kq11) rfl
  have kz24 : ((I4 1 13) : Int32).toInt = (I 1 13).toInt := e23
  have b25 := Bd.o hB0 (show isO 112 97 12 = true from rfl) (show bnd 12 23 = some _ from rfl)
  have e26 : ((I4 97 23) : Int32).toInt = (I 97 23).toInt := Eq.trans (congrArg Int32.toInt kq12) rfl
  have kz27 : ((I4 97 23) : Int32).toInt = (I 97 23).toInt := e26
  refine ⟨vp_of (a := (v3.toInt + 1)) e1 (by omega) (by omega), ?_⟩
  have z28 := i32 (xs (Int32.toNatClampNeg (v3 + 1)))
  refine ⟨⟨hF0, rfl⟩, ?_⟩
  refine kp4 rfl (kp5 rfl hR0 rfl (kp0 rfl (kp1 rfl (kp2 rfl (kp3 rfl (sp_X12_lived hB6 hR0 (fun x29 y34 I30 J31 hB32 p33 kq38 kq37 kq36 kq35 k40 k39 => ?_)))))))
  have i41 := i32 x29
  have e42 : ((I30 3 1) : Int32).toInt = (I 3 1).toInt := Eq.trans (congrArg Int32.toInt (Eq.trans kq35 kq9)) rfl
  have kz43 : ((I30 3 1) : Int32).toInt = (I 3 1).toInt := e42
  have e44 : ((I30 97 8) : Int32).toInt = (I 97 8).toInt := Eq.trans (congrArg Int32.toInt (Eq.trans kq36 kq10)) rfl
  have kz45 : ((I30 97 8) : Int32).toInt = (I 97 8).toInt := e44
  have e46 : ((I30 1 13) : Int32).toInt = (I 1 13).toInt := Eq.trans (congrArg Int32.toInt (Eq.trans kq37 kq11)) rfl
  have kz47 : ((I30 1 13) : Int32).toInt = (I 1 13).toInt := e46
  have e48 : ((I30 97 23) : Int32).toInt = (I 97 23).toInt := Eq.trans (congrArg Int32.toInt (Eq.trans kq38 kq12)) rfl
  have kz49 : ((I30 97 23) : Int32).toInt = (I 97 23).toInt := e48
  exact hN _ _ R hB32 hR0 hF0 ⟨(Eq.trans (e42) (Eq.trans hL0 (Eq.symm (e44)))), (Eq.trans (e46) (Eq.trans hL1 (Eq.symm (e48)))), (RT.kp (RT.kp hL2 k13 k14) k39 k40)⟩
set_option maxHeartbeats 2000000 in
theorem lc_46 {Q : Nat → Qt} {P : Kt} {L : Nat} {xs : Nat → Int32} (hc : Cl (AM 640) false true L xs 2 112 kL_law Q P) (hL : L ≤ 3584) {v3 : Int32} {I : Im} {J : Jm} {R : Rm} (hB0 : Bd I) (hR0 : RI R) (hF0 : Fl R) (hL0 : (I 3 1).toInt = (I 97 8).toInt) (hL1 : (I 1 13).toInt = (I 97 23).toInt) (hL2 : RT I) (h0 : 0 ≤ v3.toInt) (h7 : v3.toInt + 7 ≤ (L : Int)) (hN : ∀ (I : Im) (J : Jm) (R : Rm), Bd I → RI R → Fl R → RLk I → P 1889 112 [(0, .ref 0), (1, .ref 1), (2, .ref 97), (3, .int v3)] [] I J R) : P 1830 112 [(0, .ref 0), (1, .ref 1), (2, .ref 97), (3, .int v3)] [] I J R := by
  have i_v3 := i32 v3
  refine ls_1830 hc v3 _ _ _ ?_
  have e1 : ((v3 + 1) : Int32).toInt = (v3.toInt) + (1) := ti_add rfl rfl (by omega)
  refine ⟨vp_of (a := (v3.toInt + 1)) e1 (by omega) (by omega), ?_⟩
  have z2 := i32 (xs (Int32.toNatClampNeg (v3 + 1)))
  have e3 : ((v3 + 2) : Int32).toInt = (v3.toInt) + (2) := ti_add rfl rfl (by omega)
  refine ⟨vp_of (a := (v3.toInt + 2)) e3 (by omega) (by omega), ?_⟩
  have z4 := i32 (xs (Int32.toNatClampNeg (v3 + 2)))
  refine ⟨⟨hF0, rfl⟩, ?_⟩
  refine kp4 rfl (kp5 rfl hR0 rfl (kp0 rfl (kp1 rfl (kp2 rfl (kp3 rfl (sp_X11_mean hB0 hR0 (fun x5 y10 I6 J7 hB8 p9 kq14 kq13 kq12 kq11 k16 k15 => ?_)))))))
  intro o17
  have i18 := i32 x5
  have b19 := Bd.o hB0 (show isO 112 3 6 = true from rfl) (show bnd 6 1 = some _ from rfl)
  have e20 : ((I6 3 1) : Int32).toInt = (I 3 1).toInt := Eq.trans (congrArg Int32.toInt kq11) rfl
  have kz21 : ((I6 3 1) : Int32).toInt = (I 3 1).toInt := e20
  have b22 := Bd.o hB0 (show isO 112 97 12 = true from rfl) (show bnd 12 8 = some _ from rfl)
  have e23 : ((I6 97 8) : Int32).toInt = (I 97 8).toInt := Eq.trans (congrArg Int32.toInt kq12) rfl
  have kz24 : ((I6 97 8) : Int32).toInt = (I 97 8).toInt := e23
  have b25 := Bd.o hB0 (show isO 112 1 11 = true from rfl) (show bnd 11 13 = some _ from rfl)
  have e26 : ((I6 1 13) : Int32).toInt = (I 1 13).toInt := Eq.trans (congrArg Int32.toInt kq13) rfl
  have kz27 : ((I6 1 13) : Int32).toInt = (I 1 13).toInt := e26
  have b28 := Bd.o hB0 (show isO 112 97 12 = true from rfl) (show bnd 12 23 = some _ from rfl)
  have e29 : ((I6 97 23) : Int32).toInt = (I 97 23).toInt := Eq.trans (congrArg Int32.toInt kq14) rfl
  have kz30 : ((I6 97 23) : Int32).toInt = (I 97 23).toInt := e29
  refine ⟨vp_of (a := (v3.toInt + 1)) e1 (by omega) (by omega), ?_⟩
  have z31 := i32 (xs (Int32.toNatClampNeg (v3 + 1)))
  refine ⟨vp_of (a := (v3.toInt + 2)) e3 (by omega) (by omega), ?_⟩
  have z32 := i32 (xs (Int32.toNatClampNeg (v3 + 2)))
  refine ⟨⟨hF0, rfl⟩, ?_⟩
  refine kp4 rfl (kp5 rfl hR0 rfl (kp0 rfl (kp1 rfl (kp2 rfl (kp3 rfl (sp_X12_mean hB8 hR0 (fun x33 y38 I34 J35 hB36 p37 kq42 kq41 kq40 kq39 k44 k43 => ?_)))))))
  intro o45
  have i46 := i32 x33
  have e47 : ((I34 3 1) : Int32).toInt = (I 3 1).toInt := Eq.trans (congrArg Int32.toInt (Eq.trans kq39 kq11)) rfl
  have kz48 : ((I34 3 1) : Int32).toInt = (I 3 1).toInt := e47
  have e49 : ((I34 97 8) : Int32).toInt = (I 97 8).toInt := Eq.trans (congrArg Int32.toInt (Eq.trans kq40 kq12)) rfl
  have kz50 : ((I34 97 8) : Int32).toInt = (I 97 8).toInt := e49
  have e51 : ((I34 1 13) : Int32).toInt = (I 1 13).toInt := Eq.trans (congrArg Int32.toInt (Eq.trans kq41 kq13)) rfl
  have kz52 : ((I34 1 13) : Int32).toInt = (I 1 13).toInt := e51
  have e53 : ((I34 97 23) : Int32).toInt = (I 97 23).toInt := Eq.trans (congrArg Int32.toInt (Eq.trans kq42 kq14)) rfl
  have kz54 : ((I34 97 23) : Int32).toInt = (I 97 23).toInt := e53
  exact hN _ _ R hB36 hR0 hF0 ⟨(Eq.trans (e47) (Eq.trans hL0 (Eq.symm (e49)))), (Eq.trans (e51) (Eq.trans hL1 (Eq.symm (e53)))), (RT.kp (RT.kp hL2 k15 k16) k43 k44)⟩
set_option maxHeartbeats 2000000 in
theorem lc_47 {Q : Nat → Qt} {P : Kt} {L : Nat} {xs : Nat → Int32} (hc : Cl (AM 640) false true L xs 2 112 kL_law Q P) (hL : L ≤ 3584) {v3 : Int32} {I : Im} {J : Jm} {R : Rm} (hB0 : Bd I) (hR0 : RI R) (hF0 : Fl R) (hL0 : (I 3 1).toInt = (I 97 8).toInt) (hL1 : (I 1 13).toInt = (I 97 23).toInt) (hL2 : RT I) (h0 : 0 ≤ v3.toInt) (h7 : v3.toInt + 7 ≤ (L : Int)) (hN : ∀ (I : Im) (J : Jm) (R : Rm), Bd I → RI R → Fl R → RLk I → P 1889 112 [(0, .ref 0), (1, .ref 1), (2, .ref 97), (3, .int v3)] [] I J R) : P 1863 112 [(0, .ref 0), (1, .ref 1), (2, .ref 97), (3, .int v3)] [] I J R := by
  have i_v3 := i32 v3
  refine ls_1863 hc v3 _ _ _ ?_
  refine ⟨⟨hF0, rfl⟩, ?_⟩
  refine kp4 rfl (kp5 rfl hR0 rfl (kp0 rfl (kp1 rfl (kp3 rfl (sp_X11_mark hB0 hR0 (fun x1 y6 I2 J3 hB4 p5 kq9 kq8 kq7 k11 k10 => ?_))))))
  have b12 := Bd.o hB0 (show isO 112 1 11 = true from rfl) (show bnd 11 13 = some _ from rfl)
  have b13 := Bd.o hB4 (show isO 112 1 11 = true from rfl) (show bnd 11 13 = some _ from rfl)
  have i14 := i32 x1
  have b15 := Bd.o hB0 (show isO 112 3 6 = true from rfl) (show bnd 6 1 = some _ from rfl)
  have e16 : ((I2 3 1) : Int32).toInt = (I 3 1).toInt := Eq.trans (congrArg Int32.toInt kq7) rfl
  have kz17 : ((I2 3 1) : Int32).toInt = (I 3 1).toInt := e16
  have b18 := Bd.o hB0 (show isO 112 97 12 = true from rfl) (show bnd 12 8 = some _ from rfl)
  have e19 : ((I2 97 8) : Int32).toInt = (I 97 8).toInt := Eq.trans (congrArg Int32.toInt kq8) rfl
  have kz20 : ((I2 97 8) : Int32).toInt = (I 97 8).toInt := e19
  have b21 := Bd.o hB0 (show isO 112 97 12 = true from rfl) (show bnd 12 23 = some _ from rfl)
  have e22 : ((I2 97 23) : Int32).toInt = (I 97 23).toInt := Eq.trans (congrArg Int32.toInt kq9) rfl
  have kz23 : ((I2 97 23) : Int32).toInt = (I 97 23).toInt := e22
  refine ⟨⟨hF0, rfl⟩, ?_⟩
  refine kp4 rfl (kp5 rfl hR0 rfl (kp0 rfl (kp1 rfl (kp2 rfl (sp_X12_mark hB4 hR0 (fun x24 y29 I25 J26 hB27 p28 kq32 kq31 kq30 k34 k33 => ?_))))))
  have b35 := Bd.o hB27 (show isO 112 97 12 = true from rfl) (show bnd 12 23 = some _ from rfl)
  have i36 := i32 x24
  have e37 : ((I25 3 1) : Int32).toInt = (I 3 1).toInt := Eq.trans (congrArg Int32.toInt (Eq.trans kq30 kq7)) rfl
  have kz38 : ((I25 3 1) : Int32).toInt = (I 3 1).toInt := e37
  have e39 : ((I25 97 8) : Int32).toInt = (I 97 8).toInt := Eq.trans (congrArg Int32.toInt (Eq.trans kq31 kq8)) rfl
  have kz40 : ((I25 97 8) : Int32).toInt = (I 97 8).toInt := e39
  have e41 : ((I25 1 13) : Int32).toInt = (I2 1 13).toInt := Eq.trans (congrArg Int32.toInt kq32) rfl
  have kz42 : ((I25 1 13) : Int32).toInt = (I2 1 13).toInt := e41
  exact hN _ _ R hB27 hR0 hF0 ⟨(Eq.trans (e37) (Eq.trans hL0 (Eq.symm (e39)))), (by have ya : ((I25 1 13) : Int32).toInt = (I2 1 13).toInt := e41; have yb : ((I25 97 23) : Int32).toInt = (I25 97 23).toInt := rfl; omega), (RT.kp (RT.kp hL2 k10 k11) k33 k34)⟩
set_option maxHeartbeats 2000000 in
theorem lc_48 {Q : Nat → Qt} {P : Kt} {L : Nat} {xs : Nat → Int32} (hc : Cl (AM 640) false true L xs 2 112 kL_law Q P) (hL : L ≤ 3584) {v3 : Int32} {I : Im} {J : Jm} {R : Rm} (hB0 : Bd I) (hR0 : RI R) (hF0 : Fl R) (hL0 : (I 3 1).toInt = (I 97 8).toInt) (hL1 : (I 1 13).toInt = (I 97 23).toInt) (hL2 : RT I) (h0 : 0 ≤ v3.toInt) (h7 : v3.toInt + 7 ≤ (L : Int)) (hN : ∀ (I : Im) (J : Jm) (R : Rm), Bd I → RI R → Fl R → RLk I → P 1889 112 [(0, .ref 0), (1, .ref 1), (2, .ref 97), (3, .int v3)] [] I J R) : P 1876 112 [(0, .ref 0), (1, .ref 1), (2, .ref 97), (3, .int v3)] [] I J R := by
  have i_v3 := i32 v3
  refine ls_1876 hc v3 _ _ _ ?_
  refine ⟨⟨hF0, rfl⟩, ?_⟩
  refine kp4 rfl (kp5 rfl hR0 rfl (kp0 rfl (kp1 rfl (kp3 rfl (sp_X11_back hB0 hR0 (fun x1 y6 I2 J3 hB4 p5 kq9 kq8 kq7 k11 k10 => ?_))))))
  have b12 := Bd.o hB0 (show isO 112 1 11 = true from rfl) (show bnd 11 13 = some _ from rfl)
  have b13 := Bd.o hB4 (show isO 112 1 11 = true from rfl) (show bnd 11 13 = some _ from rfl)
  have i14 := i32 x1
  have b15 := Bd.o hB0 (show isO 112 3 6 = true from rfl) (show bnd 6 1 = some _ from rfl)
  have e16 : ((I2 3 1) : Int32).toInt = (I 3 1).toInt := Eq.trans (congrArg Int32.toInt kq7) rfl
  have kz17 : ((I2 3 1) : Int32).toInt = (I 3 1).toInt := e16
  have b18 := Bd.o hB0 (show isO 112 97 12 = true from rfl) (show bnd 12 8 = some _ from rfl)
  have e19 : ((I2 97 8) : Int32).toInt = (I 97 8).toInt := Eq.trans (congrArg Int32.toInt kq8) rfl
  have kz20 : ((I2 97 8) : Int32).toInt = (I 97 8).toInt := e19
  have b21 := Bd.o hB0 (show isO 112 97 12 = true from rfl) (show bnd 12 23 = some _ from rfl)
  have e22 : ((I2 97 23) : Int32).toInt = (I 97 23).toInt := Eq.trans (congrArg Int32.toInt kq9) rfl
  have kz23 : ((I2 97 23) : Int32).toInt = (I 97 23).toInt := e22
  refine ⟨⟨hF0, rfl⟩, ?_⟩
  refine kp4 rfl (kp5 rfl hR0 rfl (kp0 rfl (kp1 rfl (kp2 rfl (sp_X12_back hB4 hR0 (fun x24 y29 I25 J26 hB27 p28 kq32 kq31 kq30 k34 k33 => ?_))))))
  have b35 := Bd.o hB27 (show isO 112 97 12 = true from rfl) (show bnd 12 23 = some _ from rfl)
  have i36 := i32 x24
  have e37 : ((I25 3 1) : Int32).toInt = (I 3 1).toInt := Eq.trans (congrArg Int32.toInt (Eq.trans kq30 kq7)) rfl
  have kz38 : ((I25 3 1) : Int32).toInt = (I 3 1).toInt := e37
  have e39 : ((I25 97 8) : Int32).toInt = (I 97 8).toInt := Eq.trans (congrArg Int32.toInt (Eq.trans kq31 kq8)) rfl
  have kz40 : ((I25 97 8) : Int32).toInt = (I 97 8).toInt := e39
  have e41 : ((I25 1 13) : Int32).toInt = (I2 1 13).toInt := Eq.trans (congrArg Int32.toInt kq32) rfl
  have kz42 : ((I25 1 13) : Int32).toInt = (I2 1 13).toInt := e41
  exact hN _ _ R hB27 hR0 hF0 ⟨(Eq.trans (e37) (Eq.trans hL0 (Eq.symm (e39)))), (by have ya : ((I25 1 13) : Int32).toInt = (I2 1 13).toInt := e41; have yb : ((I25 97 23) : Int32).toInt = (I25 97 23).toInt := rfl; omega), (RT.kp (RT.kp hL2 k10 k11) k33 k34)⟩
