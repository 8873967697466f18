set_option maxHeartbeats 2000000 in
theorem lc_0 {Q : Nat → Qt} {P : Kt} {L : Nat} {xs : Nat → Int32} (hc : Cl (AM 640) false true L xs 2 112 kL_law Q P) (hL : L ≤ 3584) {v3 : Int32} {I : Im} {J : Jm} {R : Rm} (hB0 : Bd I) (hR0 : RI R) (hF0 : Fl R) (h0 : 0 ≤ v3.toInt) (h7 : v3.toInt + 7 ≤ (L : Int)) (hN : ∀ (I : Im) (J : Jm) (R : Rm), Bd I → RI R → Fl R → P 1889 112 [(0, .ref 0), (1, .ref 1), (2, .ref 97), (3, .int v3)] [] I J R) : P 244 112 [(0, .ref 0), (1, .ref 1), (2, .ref 97), (3, .int v3)] [] I J R := by
  have i_v3 := i32 v3
  refine ls_244 hc v3 _ _ _ ?_
  refine ⟨⟨hF0, rfl⟩, ?_⟩
  refine sp_X11_status hB0 hR0 (fun x1 y6 I2 J3 hB4 p5 => ?_)
  have i7 := i32 x1
  refine ⟨⟨hF0, rfl⟩, ?_⟩
  refine sp_X12_status hB4 hR0 (fun x8 y13 I9 J10 hB11 p12 => ?_)
  have i14 := i32 x8
  exact hN _ _ R hB11 hR0 hF0
set_option maxHeartbeats 2000000 in
theorem lc_1 {Q : Nat → Qt} {P : Kt} {L : Nat} {xs : Nat → Int32} (hc : Cl (AM 640) false true L xs 2 112 kL_law Q P) (hL : L ≤ 3584) {v3 : Int32} {I : Im} {J : Jm} {R : Rm} (hB0 : Bd I) (hR0 : RI R) (hF0 : Fl R) (h0 : 0 ≤ v3.toInt) (h7 : v3.toInt + 7 ≤ (L : Int)) (hN : ∀ (I : Im) (J : Jm) (R : Rm), Bd I → RI R → Fl R → P 1889 112 [(0, .ref 0), (1, .ref 1), (2, .ref 97), (3, .int v3)] [] I J R) : P 257 112 [(0, .ref 0), (1, .ref 1), (2, .ref 97), (3, .int v3)] [] I J R := by
  have i_v3 := i32 v3
  refine ls_257 hc v3 _ _ _ ?_
  refine ⟨⟨hF0, rfl⟩, ?_⟩
  refine sp_X11_top hB0 hR0 (fun x1 y6 I2 J3 hB4 p5 => ?_)
  refine ⟨⟨hF0, rfl⟩, ?_⟩
  refine sp_X12_top hB4 hR0 (fun x7 y12 I8 J9 hB10 p11 => ?_)
  exact hN _ _ R hB10 hR0 hF0
set_option maxHeartbeats 2000000 in
theorem lc_2 {Q : Nat → Qt} {P : Kt} {L : Nat} {xs : Nat → Int32} (hc : Cl (AM 640) false true L xs 2 112 kL_law Q P) (hL : L ≤ 3584) {v3 : Int32} {I : Im} {J : Jm} {R : Rm} (hB0 : Bd I) (hR0 : RI R) (hF0 : Fl R) (h0 : 0 ≤ v3.toInt) (h7 : v3.toInt + 7 ≤ (L : Int)) (hN : ∀ (I : Im) (J : Jm) (R : Rm), Bd I → RI R → Fl R → P 1889 112 [(0, .ref 0), (1, .ref 1), (2, .ref 97), (3, .int v3)] [] I J R) : P 270 112 [(0, .ref 0), (1, .ref 1), (2, .ref 97), (3, .int v3)] [] I J R := by
  have i_v3 := i32 v3
  refine ls_270 hc v3 _ _ _ ?_
  refine ⟨⟨hF0, rfl⟩, ?_⟩
  refine sp_X11_bottom hB0 hR0 (fun x1 y6 I2 J3 hB4 p5 => ?_)
  refine ⟨⟨hF0, rfl⟩, ?_⟩
  refine sp_X12_bottom hB4 hR0 (fun x7 y12 I8 J9 hB10 p11 => ?_)
  exact hN _ _ R hB10 hR0 hF0
set_option maxHeartbeats 2000000 in
theorem lc_3 {Q : Nat → Qt} {P : Kt} {L : Nat} {xs : Nat → Int32} (hc : Cl (AM 640) false true L xs 2 112 kL_law Q P) (hL : L ≤ 3584) {v3 : Int32} {I : Im} {J : Jm} {R : Rm} (hB0 : Bd I) (hR0 : RI R) (hF0 : Fl R) (h0 : 0 ≤ v3.toInt) (h7 : v3.toInt + 7 ≤ (L : Int)) (hN : ∀ (I : Im) (J : Jm) (R : Rm), Bd I → RI R → Fl R → P 1889 112 [(0, .ref 0), (1, .ref 1), (2, .ref 97), (3, .int v3)] [] I J R) : P 283 112 [(0, .ref 0), (1, .ref 1), (2, .ref 97), (3, .int v3)] [] I J R := by
  have i_v3 := i32 v3
  refine ls_283 hc v3 _ _ _ ?_
  have e1 : ((v3 + 1) : Int32).toInt = (v3.toInt) + (1) := ti_add rfl rfl (by omega)
  refine ⟨vp_of (a := (v3.toInt + 1)) e1 (by omega) (by omega), ?_⟩
  have z2 := i32 (xs (Int32.toNatClampNeg (v3 + 1)))
  have e3 : ((v3 + 2) : Int32).toInt = (v3.toInt) + (2) := ti_add rfl rfl (by omega)
  refine ⟨vp_of (a := (v3.toInt + 2)) e3 (by omega) (by omega), ?_⟩
  have z4 := i32 (xs (Int32.toNatClampNeg (v3 + 2)))
  have e5 : ((v3 + 3) : Int32).toInt = (v3.toInt) + (3) := ti_add rfl rfl (by omega)
  refine ⟨vp_of (a := (v3.toInt + 3)) e5 (by omega) (by omega), ?_⟩
  have z6 := i32 (xs (Int32.toNatClampNeg (v3 + 3)))
  refine ⟨⟨hF0, rfl⟩, ?_⟩
  refine sp_X11_tray hB0 hR0 (fun x7 y12 I8 J9 hB10 p11 => ?_)
  intro o13
  have i14 := i32 x7
  refine ⟨vp_of (a := (v3.toInt + 1)) e1 (by omega) (by omega), ?_⟩
  have z15 := i32 (xs (Int32.toNatClampNeg (v3 + 1)))
  refine ⟨vp_of (a := (v3.toInt + 2)) e3 (by omega) (by omega), ?_⟩
  have z16 := i32 (xs (Int32.toNatClampNeg (v3 + 2)))
  refine ⟨vp_of (a := (v3.toInt + 3)) e5 (by omega) (by omega), ?_⟩
  have z17 := i32 (xs (Int32.toNatClampNeg (v3 + 3)))
  refine ⟨⟨hF0, rfl⟩, ?_⟩
  refine sp_X12_tray hB10 hR0 (fun x18 y23 I19 J20 hB21 p22 => ?_)
  intro o24
  have i25 := i32 x18
  exact hN _ _ R hB21 hR0 hF0
set_option maxHeartbeats 2000000 in
theorem lc_4 {Q : Nat → Qt} {P : Kt} {L : Nat} {xs : Nat → Int32} (hc : Cl (AM 640) false true L xs 2 112 kL_law Q P) (hL : L ≤ 3584) {v3 : Int32} {I : Im} {J : Jm} {R : Rm} (hB0 : Bd I) (hR0 : RI R) (hF0 : Fl R) (h0 : 0 ≤ v3.toInt) (h7 : v3.toInt + 7 ≤ (L : Int)) (hN : ∀ (I : Im) (J : Jm) (R : Rm), Bd I → RI R → Fl R → P 1889 112 [(0, .ref 0), (1, .ref 1), (2, .ref 97), (3, .int v3)] [] I J R) : P 326 112 [(0, .ref 0), (1, .ref 1), (2, .ref 97), (3, .int v3)] [] I J R := by
  have i_v3 := i32 v3
  refine ls_326 hc v3 _ _ _ ?_
  have e1 : ((v3 + 1) : Int32).toInt = (v3.toInt) + (1) := ti_add rfl rfl (by omega)
  refine ⟨vp_of (a := (v3.toInt + 1)) e1 (by omega) (by omega), ?_⟩
  have z2 := i32 (xs (Int32.toNatClampNeg (v3 + 1)))
  have e3 : ((v3 + 2) : Int32).toInt = (v3.toInt) + (2) := ti_add rfl rfl (by omega)
  refine ⟨vp_of (a := (v3.toInt + 2)) e3 (by omega) (by omega), ?_⟩
  have z4 := i32 (xs (Int32.toNatClampNeg (v3 + 2)))
  have e5 : ((v3 + 3) : Int32).toInt = (v3.toInt) + (3) := ti_add rfl rfl (by omega)
  refine ⟨vp_of (a := (v3.toInt + 3)) e5 (by omega) (by omega), ?_⟩
  have z6 := i32 (xs (Int32.toNatClampNeg (v3 + 3)))
  have e7 : ((v3 + 4) : Int32).toInt = (v3.toInt) + (4) := ti_add rfl rfl (by omega)
  refine ⟨vp_of (a := (v3.toInt + 4)) e7 (by omega) (by omega), ?_⟩
  have z8 := i32 (xs (Int32.toNatClampNeg (v3 + 4)))
  refine ⟨⟨hF0, rfl⟩, ?_⟩
  refine sp_X11_write hB0 hR0 (fun x9 y14 I10 J11 hB12 p13 => ?_)
  intro o15
  have i16 := i32 x9
  refine ⟨vp_of (a := (v3.toInt + 1)) e1 (by omega) (by omega), ?_⟩
  have z17 := i32 (xs (Int32.toNatClampNeg (v3 + 1)))
  refine ⟨vp_of (a := (v3.toInt + 2)) e3 (by omega) (by omega), ?_⟩
  have z18 := i32 (xs (Int32.toNatClampNeg (v3 + 2)))
  refine ⟨vp_of (a := (v3.toInt + 3)) e5 (by omega) (by omega), ?_⟩
  have z19 := i32 (xs (Int32.toNatClampNeg (v3 + 3)))
  refine ⟨vp_of (a := (v3.toInt + 4)) e7 (by omega) (by omega), ?_⟩
  have z20 := i32 (xs (Int32.toNatClampNeg (v3 + 4)))
  refine ⟨⟨hF0, rfl⟩, ?_⟩
  refine sp_X12_write hB12 hR0 (fun x21 y26 I22 J23 hB24 p25 => ?_)
  intro o27
  have i28 := i32 x21
  exact hN _ _ R hB24 hR0 hF0
set_option maxHeartbeats 2000000 in
theorem lc_5 {Q : Nat → Qt} {P : Kt} {L : Nat} {xs : Nat → Int32} (hc : Cl (AM 640) false true L xs 2 112 kL_law Q P) (hL : L ≤ 3584) {v3 : Int32} {I : Im} {J : Jm} {R : Rm} (hB0 : Bd I) (hR0 : RI R) (hF0 : Fl R) (h0 : 0 ≤ v3.toInt) (h7 : v3.toInt + 7 ≤ (L : Int)) (hN : ∀ (I : Im) (J : Jm) (R : Rm), Bd I → RI R → Fl R → P 1889 112 [(0, .ref 0), (1, .ref 1), (2, .ref 97), (3, .int v3)] [] I J R) : P 399 112 [(0, .ref 0), (1, .ref 1), (2, .ref 97), (3, .int v3)] [] I J R := by
  have i_v3 := i32 v3
  refine ls_399 hc v3 _ _ _ ?_
  have e1 : ((v3 + 1) : Int32).toInt = (v3.toInt) + (1) := ti_add rfl rfl (by omega)
  refine ⟨vp_of (a := (v3.toInt + 1)) e1 (by omega) (by omega), ?_⟩
  have z2 := i32 (xs (Int32.toNatClampNeg (v3 + 1)))
  have e3 : ((v3 + 2) : Int32).toInt = (v3.toInt) + (2) := ti_add rfl rfl (by omega)
  refine ⟨vp_of (a := (v3.toInt + 2)) e3 (by omega) (by omega), ?_⟩
  have z4 := i32 (xs (Int32.toNatClampNeg (v3 + 2)))
  refine ⟨⟨hF0, rfl⟩, ?_⟩
  refine sp_X11_read hB0 hR0 (fun x5 y10 I6 J7 hB8 p9 => ?_)
  refine ⟨vp_of (a := (v3.toInt + 1)) e1 (by omega) (by omega), ?_⟩
  have z11 := i32 (xs (Int32.toNatClampNeg (v3 + 1)))
  refine ⟨vp_of (a := (v3.toInt + 2)) e3 (by omega) (by omega), ?_⟩
  have z12 := i32 (xs (Int32.toNatClampNeg (v3 + 2)))
  refine ⟨⟨hF0, rfl⟩, ?_⟩
  refine sp_X12_read hB8 hR0 (fun x13 y18 I14 J15 hB16 p17 => ?_)
  exact hN _ _ R hB16 hR0 hF0
set_option maxHeartbeats 2000000 in
theorem lc_6 {Q : Nat → Qt} {P : Kt} {L : Nat} {xs : Nat → Int32} (hc : Cl (AM 640) false true L xs 2 112 kL_law Q P) (hL : L ≤ 3584) {v3 : Int32} {I : Im} {J : Jm} {R : Rm} (hB0 : Bd I) (hR0 : RI R) (hF0 : Fl R) (h0 : 0 ≤ v3.toInt) (h7 : v3.toInt + 7 ≤ (L : Int)) (hN : ∀ (I : Im) (J : Jm) (R : Rm), Bd I → RI R → Fl R → P 1889 112 [(0, .ref 0), (1, .ref 1), (2, .ref 97), (3, .int v3)] [] I J R) : P 432 112 [(0, .ref 0), (1, .ref 1), (2, .ref 97), (3, .int v3)] [] I J R := by
  have i_v3 := i32 v3
  refine ls_432 hc v3 _ _ _ ?_
  have e1 : ((v3 + 1) : Int32).toInt = (v3.toInt) + (1) := ti_add rfl rfl (by omega)
  refine ⟨vp_of (a := (v3.toInt + 1)) e1 (by omega) (by omega), ?_⟩
  have z2 := i32 (xs (Int32.toNatClampNeg (v3 + 1)))
  have e3 : ((v3 + 2) : Int32).toInt = (v3.toInt) + (2) := ti_add rfl rfl (by omega)
  refine ⟨vp_of (a := (v3.toInt + 2)) e3 (by omega) (by omega), ?_⟩
  have z4 := i32 (xs (Int32.toNatClampNeg (v3 + 2)))
  have e5 : ((v3 + 3) : Int32).toInt = (v3.toInt) + (3) := ti_add rfl rfl (by omega)
  refine ⟨vp_of (a := (v3.toInt + 3)) e5 (by omega) (by omega), ?_⟩
  have z6 := i32 (xs (Int32.toNatClampNeg (v3 + 3)))
  have e7 : ((v3 + 4) : Int32).toInt = (v3.toInt) + (4) := ti_add rfl rfl (by omega)
  refine ⟨vp_of (a := (v3.toInt + 4)) e7 (by omega) (by omega), ?_⟩
  have z8 := i32 (xs (Int32.toNatClampNeg (v3 + 4)))
  have e9 : ((v3 + 5) : Int32).toInt = (v3.toInt) + (5) := ti_add rfl rfl (by omega)
  refine ⟨vp_of (a := (v3.toInt + 5)) e9 (by omega) (by omega), ?_⟩
  have z10 := i32 (xs (Int32.toNatClampNeg (v3 + 5)))
  refine ⟨⟨hF0, rfl⟩, ?_⟩
  refine sp_X11_pour hB0 hR0 (fun x11 y16 I12 J13 hB14 p15 => ?_)
  intro o17
  have i18 := i32 x11
  refine ⟨vp_of (a := (v3.toInt + 1)) e1 (by omega) (by omega), ?_⟩
  have z19 := i32 (xs (Int32.toNatClampNeg (v3 + 1)))
  refine ⟨vp_of (a := (v3.toInt + 2)) e3 (by omega) (by omega), ?_⟩
  have z20 := i32 (xs (Int32.toNatClampNeg (v3 + 2)))
  refine ⟨vp_of (a := (v3.toInt + 3)) e5 (by omega) (by omega), ?_⟩
  have z21 := i32 (xs (Int32.toNatClampNeg (v3 + 3)))
  refine ⟨vp_of (a := (v3.toInt + 4)) e7 (by omega) (by omega), ?_⟩
  have z22 := i32 (xs (Int32.toNatClampNeg (v3 + 4)))
  refine ⟨vp_of (a := (v3.toInt + 5)) e9 (by omega) (by omega), ?_⟩
  have z23 := i32 (xs (Int32.toNatClampNeg (v3 + 5)))
  refine ⟨⟨hF0, rfl⟩, ?_⟩
  refine sp_X12_pour hB14 hR0 (fun x24 y29 I25 J26 hB27 p28 => ?_)
  intro o30
  have i31 := i32 x24
  exact hN _ _ R hB27 hR0 hF0
set_option maxHeartbeats 2000000 in
theorem lc_7 {Q : Nat → Qt} {P : Kt} {L : Nat} {xs : Nat → Int32} (hc : Cl (AM 640) false true L xs 2 112 kL_law Q P) (hL : L ≤ 3584) {v3 : Int32} {I : Im} {J : Jm} {R : Rm} (hB0 : Bd I) (hR0 : RI R) (hF0 : Fl R) (h0 : 0 ≤ v3.toInt) (h7 : v3.toInt + 7 ≤ (L : Int)) (hN : ∀ (I : Im) (J : Jm) (R : Rm), Bd I → RI R → Fl R → P 1889 112 [(0, .ref 0), (1, .ref 1), (2, .ref 97), (3, .int v3)] [] I J R) : P 495 112 [(0, .ref 0), (1, .ref 1), (2, .ref 97), (3, .int v3)] [] I J R := by
  have i_v3 := i32 v3
  refine ls_495 hc v3 _ _ _ ?_
  have e1 : ((v3 + 1) : Int32).toInt = (v3.toInt) + (1) := ti_add rfl rfl (by omega)
  refine ⟨vp_of (a := (v3.toInt + 1)) e1 (by omega) (by omega), ?_⟩
  have z2 := i32 (xs (Int32.toNatClampNeg (v3 + 1)))
  have e3 : ((v3 + 2) : Int32).toInt = (v3.toInt) + (2) := ti_add rfl rfl (by omega)
  refine ⟨vp_of (a := (v3.toInt + 2)) e3 (by omega) (by omega), ?_⟩
  have z4 := i32 (xs (Int32.toNatClampNeg (v3 + 2)))
  have e5 : ((v3 + 3) : Int32).toInt = (v3.toInt) + (3) := ti_add rfl rfl (by omega)
  refine ⟨vp_of (a := (v3.toInt + 3)) e5 (by omega) (by omega), ?_⟩
  have z6 := i32 (xs (Int32.toNatClampNeg (v3 + 3)))
  have e7 : ((v3 + 4) : Int32).toInt = (v3.toInt) + (4) := ti_add rfl rfl (by omega)
  refine ⟨vp_of (a := (v3.toInt + 4)) e7 (by omega) (by omega), ?_⟩
  have z8 := i32 (xs (Int32.toNatClampNeg (v3 + 4)))
  have e9 : ((v3 + 5) : Int32).toInt = (v3.toInt) + (5) := ti_add rfl rfl (by omega)
  refine ⟨vp_of (a := (v3.toInt + 5)) e9 (by omega) (by omega), ?_⟩
  have z10 := i32 (xs (Int32.toNatClampNeg (v3 + 5)))
  refine ⟨⟨hF0, rfl⟩, ?_⟩
  refine sp_X11_feed hB0 hR0 (fun x11 y16 I12 J13 hB14 p15 => ?_)
  have i17 := i32 x11
  refine ⟨vp_of (a := (v3.toInt + 1)) e1 (by omega) (by omega), ?_⟩
  have z18 := i32 (xs (Int32.toNatClampNeg (v3 + 1)))
  refine ⟨vp_of (a := (v3.toInt + 2)) e3 (by omega) (by omega), ?_⟩
  have z19 := i32 (xs (Int32.toNatClampNeg (v3 + 2)))
  refine ⟨vp_of (a := (v3.toInt + 3)) e5 (by omega) (by omega), ?_⟩
  have z20 := i32 (xs (Int32.toNatClampNeg (v3 + 3)))
  refine ⟨vp_of (a := (v3.toInt + 4)) e7 (by omega) (by omega), ?_⟩
  have z21 := i32 (xs (Int32.toNatClampNeg (v3 + 4)))
  refine ⟨vp_of (a := (v3.toInt + 5)) e9 (by omega) (by omega), ?_⟩
  have z22 := i32 (xs (Int32.toNatClampNeg (v3 + 5)))
  refine ⟨⟨hF0, rfl⟩, ?_⟩
  refine sp_X12_feed hB14 hR0 (fun x23 y28 I24 J25 hB26 p27 => ?_)
  have i29 := i32 x23
  exact hN _ _ R hB26 hR0 hF0
set_option maxHeartbeats 2000000 in
theorem lc_8 {Q : Nat → Qt} {P : Kt} {L : Nat} {xs : Nat → Int32} (hc : Cl (AM 640) false true L xs 2 112 kL_law Q P) (hL : L ≤ 3584) {v3 : Int32} {I : Im} {J : Jm} {R : Rm} (hB0 : Bd I) (hR0 : RI R) (hF0 : Fl R) (h0 : 0 ≤ v3.toInt) (h7 : v3.toInt + 7 ≤ (L : Int)) (hN : ∀ (I : Im) (J : Jm) (R : Rm), Bd I → RI R → Fl R → P 1889 112 [(0, .ref 0), (1, .ref 1), (2, .ref 97), (3, .int v3)] [] I J R) : P 558 112 [(0, .ref 0), (1, .ref 1), (2, .ref 97), (3, .int v3)] [] I J R := by
  have i_v3 := i32 v3
  refine ls_558 hc v3 _ _ _ ?_
  have e1 : ((v3 + 1) : Int32).toInt = (v3.toInt) + (1) := ti_add rfl rfl (by omega)
  refine ⟨vp_of (a := (v3.toInt + 1)) e1 (by omega) (by omega), ?_⟩
  have z2 := i32 (xs (Int32.toNatClampNeg (v3 + 1)))
  refine ⟨⟨hF0, rfl⟩, ?_⟩
  refine sp_X11_bakery hB0 hR0 (fun x3 y4 I5 J6 R7 hB8 hR9 hL10 => ?_)
  refine ⟨vp_of (a := (v3.toInt + 1)) e1 (by omega) (by omega), ?_⟩
  have z11 := i32 (xs (Int32.toNatClampNeg (v3 + 1)))
  refine ⟨⟨(hL10 hF0), rfl⟩, ?_⟩
  refine sp_X12_bakery hB8 hR9 (fun x12 y17 I13 J14 hB15 p16 => ?_)
  have i18 := i32 x12
  exact hN _ _ R7 hB15 hR9 (hL10 hF0)
set_option maxHeartbeats 2000000 in
theorem lc_9 {Q : Nat → Qt} {P : Kt} {L : Nat} {xs : Nat → Int32} (hc : Cl (AM 640) false true L xs 2 112 kL_law Q P) (hL : L ≤ 3584) {v3 : Int32} {I : Im} {J : Jm} {R : Rm} (hB0 : Bd I) (hR0 : RI R) (hF0 : Fl R) (h0 : 0 ≤ v3.toInt) (h7 : v3.toInt + 7 ≤ (L : Int)) (hN : ∀ (I : Im) (J : Jm) (R : Rm), Bd I → RI R → Fl R → P 1889 112 [(0, .ref 0), (1, .ref 1), (2, .ref 97), (3, .int v3)] [] I J R) : P 581 112 [(0, .ref 0), (1, .ref 1), (2, .ref 97), (3, .int v3)] [] I J R := by
  have i_v3 := i32 v3
  refine ls_581 hc v3 _ _ _ ?_
  have e1 : ((v3 + 1) : Int32).toInt = (v3.toInt) + (1) := ti_add rfl rfl (by omega)
  refine ⟨vp_of (a := (v3.toInt + 1)) e1 (by omega) (by omega), ?_⟩
  have z2 := i32 (xs (Int32.toNatClampNeg (v3 + 1)))
  refine ⟨⟨hF0, rfl⟩, ?_⟩
  refine sp_X11_days hB0 hR0 (fun x3 y4 I5 J6 R7 hB8 hR9 hL10 => ?_)
  refine ⟨vp_of (a := (v3.toInt + 1)) e1 (by omega) (by omega), ?_⟩
  have z11 := i32 (xs (Int32.toNatClampNeg (v3 + 1)))
  refine ⟨⟨(hL10 hF0), rfl⟩, ?_⟩
  refine sp_X12_days hB8 hR9 (fun x12 y17 I13 J14 hB15 p16 => ?_)
  have i18 := i32 x12
  exact hN _ _ R7 hB15 hR9 (hL10 hF0)
set_option maxHeartbeats 2000000 in
theorem lc_10 {Q : Nat → Qt} {P : Kt} {L : Nat} {xs : Nat → Int32} (hc : Cl (AM 640) false true L xs 2 112 kL_law Q P) (hL : L ≤ 3584) {v3 : Int32} {I : Im} {J : Jm} {R : Rm} (hB0 : Bd I) (hR0 : RI R) (hF0 : Fl R) (h0 : 0 ≤ v3.toInt) (h7 : v3.toInt + 7 ≤ (L : Int)) (hN : ∀ (I : Im) (J : Jm) (R : Rm), Bd I → RI R → Fl R → P 1889 112 [(0, .ref 0), (1, .ref 1), (2, .ref 97), (3, .int v3)] [] I J R) : P 604 112 [(0, .ref 0), (1, .ref 1), (2, .ref 97), (3, .int v3)] [] I J R := by
  have i_v3 := i32 v3
  refine ls_604 hc v3 _ _ _ ?_
  have e1 : ((v3 + 1) : Int32).toInt = (v3.toInt) + (1) := ti_add rfl rfl (by omega)
  refine ⟨vp_of (a := (v3.toInt + 1)) e1 (by omega) (by omega), ?_⟩
  have z2 := i32 (xs (Int32.toNatClampNeg (v3 + 1)))
  refine ⟨⟨hF0, rfl⟩, ?_⟩
  refine sp_X11_fault hB0 hR0 (fun x3 y8 I4 J5 hB6 p7 => ?_)
  have i9 := i32 x3
  refine ⟨vp_of (a := (v3.toInt + 1)) e1 (by omega) (by omega), ?_⟩
  have z10 := i32 (xs (Int32.toNatClampNeg (v3 + 1)))
  refine ⟨⟨hF0, rfl⟩, ?_⟩
  refine sp_X12_fault hB6 hR0 (fun x11 y16 I12 J13 hB14 p15 => ?_)
  have i17 := i32 x11
  exact hN _ _ R hB14 hR0 hF0
set_option maxHeartbeats 2000000 in
theorem lc_11 {Q : Nat → Qt} {P : Kt} {L : Nat} {xs : Nat → Int32} (hc : Cl (AM 640) false true L xs 2 112 kL_law Q P) (hL : L ≤ 3584) {v3 : Int32} {I : Im} {J : Jm} {R : Rm} (hB0 : Bd I) (hR0 : RI R) (hF0 : Fl R) (h0 : 0 ≤ v3.toInt) (h7 : v3.toInt + 7 ≤ (L : Int)) (hN : ∀ (I : Im) (J : Jm) (R : Rm), Bd I → RI R → Fl R → P 1889 112 [(0, .ref 0), (1, .ref 1), (2, .ref 97), (3, .int v3)] [] I J R) : P 627 112 [(0, .ref 0), (1, .ref 1), (2, .ref 97), (3, .int v3)] [] I J R := by
  have i_v3 := i32 v3
  refine ls_627 hc v3 _ _ _ ?_
  have e1 : ((v3 + 1) : Int32).toInt = (v3.toInt) + (1) := ti_add rfl rfl (by omega)
  refine ⟨vp_of (a := (v3.toInt + 1)) e1 (by omega) (by omega), ?_⟩
  have z2 := i32 (xs (Int32.toNatClampNeg (v3 + 1)))
  refine ⟨⟨hF0, rfl⟩, ?_⟩
  refine sp_X11_many hB0 hR0 (fun x3 y8 I4 J5 hB6 p7 => ?_)
  have i9 := i32 x3
  refine ⟨vp_of (a := (v3.toInt + 1)) e1 (by omega) (by omega), ?_⟩
  have z10 := i32 (xs (Int32.toNatClampNeg (v3 + 1)))
  refine ⟨⟨hF0, rfl⟩, ?_⟩
  refine sp_X12_many hB6 hR0 (fun x11 y16 I12 J13 hB14 p15 => ?_)
  have i17 := i32 x11
  exact hN _ _ R hB14 hR0 hF0
set_option maxHeartbeats 2000000 in
theorem lc_12 {Q : Nat → Qt} {P : Kt} {L : Nat} {xs : Nat → Int32} (hc : Cl (AM 640) false true L xs 2 112 kL_law Q P) (hL : L ≤ 3584) {v3 : Int32} {I : Im} {J : Jm} {R : Rm} (hB0 : Bd I) (hR0 : RI R) (hF0 : Fl R) (h0 : 0 ≤ v3.toInt) (h7 : v3.toInt + 7 ≤ (L : Int)) (hN : ∀ (I : Im) (J : Jm) (R : Rm), Bd I → RI R → Fl R → P 1889 112 [(0, .ref 0), (1, .ref 1), (2, .ref 97), (3, .int v3)] [] I J R) : P 650 112 [(0, .ref 0), (1, .ref 1), (2, .ref 97), (3, .int v3)] [] I J R := by
  have i_v3 := i32 v3
  refine ls_650 hc v3 _ _ _ ?_
  have e1 : ((v3 + 1) : Int32).toInt = (v3.toInt) + (1) := ti_add rfl rfl (by omega)
  refine ⟨vp_of (a := (v3.toInt + 1)) e1 (by omega) (by omega), ?_⟩
  have z2 := i32 (xs (Int32.toNatClampNeg (v3 + 1)))
  refine ⟨⟨hF0, rfl⟩, ?_⟩
  refine sp_X11_store hB0 hR0 (fun x3 y8 I4 J5 hB6 p7 => ?_)
  have i9 := i32 x3
  refine ⟨vp_of (a := (v3.toInt + 1)) e1 (by omega) (by omega), ?_⟩
  have z10 := i32 (xs (Int32.toNatClampNeg (v3 + 1)))
  refine ⟨⟨hF0, rfl⟩, ?_⟩
  refine sp_X12_store hB6 hR0 (fun x11 y16 I12 J13 hB14 p15 => ?_)
  have i17 := i32 x11
  exact hN _ _ R hB14 hR0 hF0
set_option maxHeartbeats 2000000 in
theorem lc_13 {Q : Nat → Qt} {P : Kt} {L : Nat} {xs : Nat → Int32} (hc : Cl (AM 640) false true L xs 2 112 kL_law Q P) (hL : L ≤ 3584) {v3 : Int32} {I : Im} {J : Jm} {R : Rm} (hB0 : Bd I) (hR0 : RI R) (hF0 : Fl R) (h0 : 0 ≤ v3.toInt) (h7 : v3.toInt + 7 ≤ (L : Int)) (hN : ∀ (I : Im) (J : Jm) (R : Rm), Bd I → RI R → Fl R → P 1889 112 [(0, .ref 0), (1, .ref 1), (2, .ref 97), (3, .int v3)] [] I J R) : P 673 112 [(0, .ref 0), (1, .ref 1), (2, .ref 97), (3, .int v3)] [] I J R := by
  have i_v3 := i32 v3
  refine ls_673 hc v3 _ _ _ ?_
  have e1 : ((v3 + 1) : Int32).toInt = (v3.toInt) + (1) := ti_add rfl rfl (by omega)
  refine ⟨vp_of (a := (v3.toInt + 1)) e1 (by omega) (by omega), ?_⟩
  have z2 := i32 (xs (Int32.toNatClampNeg (v3 + 1)))
  have e3 : ((v3 + 2) : Int32).toInt = (v3.toInt) + (2) := ti_add rfl rfl (by omega)
  refine ⟨vp_of (a := (v3.toInt + 2)) e3 (by omega) (by omega), ?_⟩
  have z4 := i32 (xs (Int32.toNatClampNeg (v3 + 2)))
  refine ⟨⟨hF0, rfl⟩, ?_⟩
  refine sp_X11_man hB0 hR0 (fun x5 y10 I6 J7 hB8 p9 => ?_)
  have i11 := i32 x5
  refine ⟨vp_of (a := (v3.toInt + 1)) e1 (by omega) (by omega), ?_⟩
  have z12 := i32 (xs (Int32.toNatClampNeg (v3 + 1)))
  refine ⟨vp_of (a := (v3.toInt + 2)) e3 (by omega) (by omega), ?_⟩
  have z13 := i32 (xs (Int32.toNatClampNeg (v3 + 2)))
  refine ⟨⟨hF0, rfl⟩, ?_⟩
  refine sp_X12_man hB8 hR0 (fun x14 y19 I15 J16 hB17 p18 => ?_)
  have i20 := i32 x14
  exact hN _ _ R hB17 hR0 hF0
set_option maxHeartbeats 2000000 in
theorem lc_14 {Q : Nat → Qt} {P : Kt} {L : Nat} {xs : Nat → Int32} (hc : Cl (AM 640) false true L xs 2 112 kL_law Q P) (hL : L ≤ 3584) {v3 : Int32} {I : Im} {J : Jm} {R : Rm} (hB0 : Bd I) (hR0 : RI R) (hF0 : Fl R) (h0 : 0 ≤ v3.toInt) (h7 : v3.toInt + 7 ≤ (L : Int)) (hN : ∀ (I : Im) (J : Jm) (R : Rm), Bd I → RI R → Fl R → P 1889 112 [(0, .ref 0), (1, .ref 1), (2, .ref 97), (3, .int v3)] [] I J R) : P 706 112 [(0, .ref 0), (1, .ref 1), (2, .ref 97), (3, .int v3)] [] I J R := by
  have i_v3 := i32 v3
  refine ls_706 hc v3 _ _ _ ?_
  have e1 : ((v3 + 1) : Int32).toInt = (v3.toInt) + (1) := ti_add rfl rfl (by omega)
  refine ⟨vp_of (a := (v3.toInt + 1)) e1 (by omega) (by omega), ?_⟩
  have z2 := i32 (xs (Int32.toNatClampNeg (v3 + 1)))
  refine ⟨⟨hF0, rfl⟩, ?_⟩
  refine sp_X11_has hB0 hR0 (fun x3 y8 I4 J5 hB6 p7 => ?_)
  intro o9
  have i10 := i32 x3
  refine ⟨vp_of (a := (v3.toInt + 1)) e1 (by omega) (by omega), ?_⟩
  have z11 := i32 (xs (Int32.toNatClampNeg (v3 + 1)))
  refine ⟨⟨hF0, rfl⟩, ?_⟩
  refine sp_X12_has hB6 hR0 (fun x12 y17 I13 J14 hB15 p16 => ?_)
  intro o18
  have i19 := i32 x12
  exact hN _ _ R hB15 hR0 hF0
set_option maxHeartbeats 2000000 in
theorem lc_15 {Q : Nat → Qt} {P : Kt} {L : Nat} {xs : Nat → Int32} (hc : Cl (AM 640) false true L xs 2 112 kL_law Q P) (hL : L ≤ 3584) {v3 : Int32} {I : Im} {J : Jm} {R : Rm} (hB0 : Bd I) (hR0 : RI R) (hF0 : Fl R) (h0 : 0 ≤ v3.toInt) (h7 : v3.toInt + 7 ≤ (L : Int)) (hN : ∀ (I : Im) (J : Jm) (R : Rm), Bd I → RI R → Fl R → P 1889 112 [(0, .ref 0), (1, .ref 1), (2, .ref 97), (3, .int v3)] [] I J R) : P 729 112 [(0, .ref 0), (1, .ref 1), (2, .ref 97), (3, .int v3)] [] I J R := by
  have i_v3 := i32 v3
  refine ls_729 hc v3 _ _ _ ?_
  have e1 : ((v3 + 1) : Int32).toInt = (v3.toInt) + (1) := ti_add rfl rfl (by omega)
  refine ⟨vp_of (a := (v3.toInt + 1)) e1 (by omega) (by omega), ?_⟩
  have z2 := i32 (xs (Int32.toNatClampNeg (v3 + 1)))
  refine ⟨⟨hF0, rfl⟩, ?_⟩
  refine sp_X11_lacks hB0 hR0 (fun x3 y8 I4 J5 hB6 p7 => ?_)
  intro o9
  have i10 := i32 x3
  refine ⟨vp_of (a := (v3.toInt + 1)) e1 (by omega) (by omega), ?_⟩
  have z11 := i32 (xs (Int32.toNatClampNeg (v3 + 1)))
  refine ⟨⟨hF0, rfl⟩, ?_⟩
  refine sp_X12_lacks hB6 hR0 (fun x12 y17 I13 J14 hB15 p16 => ?_)
  intro o18
  have i19 := i32 x12
  exact hN _ _ R hB15 hR0 hF0
set_option maxHeartbeats 2000000 in
theorem lc_16 {Q : Nat → Qt} {P : Kt} {L : Nat} {xs : Nat → Int32} (hc : Cl (AM 640) false true L xs 2 112 kL_law Q P) (hL : L ≤ 3584) {v3 : Int32} {I : Im} {J : Jm} {R : Rm} (hB0 : Bd I) (hR0 : RI R) (hF0 : Fl R) (h0 : 0 ≤ v3.toInt) (h7 : v3.toInt + 7 ≤ (L : Int)) (hN : ∀ (I : Im) (J : Jm) (R : Rm), Bd I → RI R → Fl R → P 1889 112 [(0, .ref 0), (1, .ref 1), (2, .ref 97), (3, .int v3)] [] I J R) : P 752 112 [(0, .ref 0), (1, .ref 1), (2, .ref 97), (3, .int v3)] [] I J R := by
  have i_v3 := i32 v3
  refine ls_752 hc v3 _ _ _ ?_
  refine ⟨⟨hF0, rfl⟩, ?_⟩
  refine sp_X11_worth hB0 hR0 (fun x1 y6 I2 J3 hB4 p5 => ?_)
  intro o7
  have i8 := i32 x1
  refine ⟨⟨hF0, rfl⟩, ?_⟩
  refine sp_X12_worth hB4 hR0 (fun x9 y14 I10 J11 hB12 p13 => ?_)
  intro o15
  have i16 := i32 x9
  exact hN _ _ R hB12 hR0 hF0
set_option maxHeartbeats 2000000 in
theorem lc_17 {Q : Nat → Qt} {P : Kt} {L : Nat} {xs : Nat → Int32} (hc : Cl (AM 640) false true L xs 2 112 kL_law Q P) (hL : L ≤ 3584) {v3 : Int32} {I : Im} {J : Jm} {R : Rm} (hB0 : Bd I) (hR0 : RI R) (hF0 : Fl R) (h0 : 0 ≤ v3.toInt) (h7 : v3.toInt + 7 ≤ (L : Int)) (hN : ∀ (I : Im) (J : Jm) (R : Rm), Bd I → RI R → Fl R → P 1889 112 [(0, .ref 0), (1, .ref 1), (2, .ref 97), (3, .int v3)] [] I J R) : P 765 112 [(0, .ref 0), (1, .ref 1), (2, .ref 97), (3, .int v3)] [] I J R := by
  have i_v3 := i32 v3
  refine ls_765 hc v3 _ _ _ ?_
  have e1 : ((v3 + 1) : Int32).toInt = (v3.toInt) + (1) := ti_add rfl rfl (by omega)
  refine ⟨vp_of (a := (v3.toInt + 1)) e1 (by omega) (by omega), ?_⟩
  have z2 := i32 (xs (Int32.toNatClampNeg (v3 + 1)))
  have e3 : ((v3 + 2) : Int32).toInt = (v3.toInt) + (2) := ti_add rfl rfl (by omega)
  refine ⟨vp_of (a := (v3.toInt + 2)) e3 (by omega) (by omega), ?_⟩
  have z4 := i32 (xs (Int32.toNatClampNeg (v3 + 2)))
  refine ⟨⟨hF0, rfl⟩, ?_⟩
  refine sp_X11_copyStore hB0 hR0 (fun x5 y10 I6 J7 hB8 p9 => ?_)
  have i11 := i32 x5
  refine ⟨vp_of (a := (v3.toInt + 1)) e1 (by omega) (by omega), ?_⟩
  have z12 := i32 (xs (Int32.toNatClampNeg (v3 + 1)))
  refine ⟨vp_of (a := (v3.toInt + 2)) e3 (by omega) (by omega), ?_⟩
  have z13 := i32 (xs (Int32.toNatClampNeg (v3 + 2)))
  refine ⟨⟨hF0, rfl⟩, ?_⟩
  refine sp_X12_copyStore hB8 hR0 (fun x14 y19 I15 J16 hB17 p18 => ?_)
  have i20 := i32 x14
  exact hN _ _ R hB17 hR0 hF0
set_option maxHeartbeats 2000000 in
theorem lc_18 {Q : Nat → Qt} {P : Kt} {L : Nat} {xs : Nat → Int32} (hc : Cl (AM 640) false true L xs 2 112 kL_law Q P) (hL : L ≤ 3584) {v3 : Int32} {I : Im} {J : Jm} {R : Rm} (hB0 : Bd I) (hR0 : RI R) (hF0 : Fl R) (h0 : 0 ≤ v3.toInt) (h7 : v3.toInt + 7 ≤ (L : Int)) (hN : ∀ (I : Im) (J : Jm) (R : Rm), Bd I → RI R → Fl R → P 1889 112 [(0, .ref 0), (1, .ref 1), (2, .ref 97), (3, .int v3)] [] I J R) : P 798 112 [(0, .ref 0), (1, .ref 1), (2, .ref 97), (3, .int v3)] [] I J R := by
  have i_v3 := i32 v3
  refine ls_798 hc v3 _ _ _ ?_
  have e1 : ((v3 + 1) : Int32).toInt = (v3.toInt) + (1) := ti_add rfl rfl (by omega)
  refine ⟨vp_of (a := (v3.toInt + 1)) e1 (by omega) (by omega), ?_⟩
  have z2 := i32 (xs (Int32.toNatClampNeg (v3 + 1)))
  refine ⟨⟨hF0, rfl⟩, ?_⟩
  refine sp_X11_bake hB0 hR0 (fun x3 y8 I4 J5 hB6 p7 => ?_)
  have i9 := i32 x3
  refine ⟨vp_of (a := (v3.toInt + 1)) e1 (by omega) (by omega), ?_⟩
  have z10 := i32 (xs (Int32.toNatClampNeg (v3 + 1)))
  refine ⟨⟨hF0, rfl⟩, ?_⟩
  refine sp_X12_bake hB6 hR0 (fun x11 y16 I12 J13 hB14 p15 => ?_)
  have i17 := i32 x11
  exact hN _ _ R hB14 hR0 hF0
set_option maxHeartbeats 2000000 in
theorem lc_19 {Q : Nat → Qt} {P : Kt} {L : Nat} {xs : Nat → Int32} (hc : Cl (AM 640) false true L xs 2 112 kL_law Q P) (hL : L ≤ 3584) {v3 : Int32} {I : Im} {J : Jm} {R : Rm} (hB0 : Bd I) (hR0 : RI R) (hF0 : Fl R) (h0 : 0 ≤ v3.toInt) (h7 : v3.toInt + 7 ≤ (L : Int)) (hN : ∀ (I : Im) (J : Jm) (R : Rm), Bd I → RI R → Fl R → P 1889 112 [(0, .ref 0), (1, .ref 1), (2, .ref 97), (3, .int v3)] [] I J R) : P 821 112 [(0, .ref 0), (1, .ref 1), (2, .ref 97), (3, .int v3)] [] I J R := by
  have i_v3 := i32 v3
  refine ls_821 hc v3 _ _ _ ?_
  have e1 : ((v3 + 1) : Int32).toInt = (v3.toInt) + (1) := ti_add rfl rfl (by omega)
  refine ⟨vp_of (a := (v3.toInt + 1)) e1 (by omega) (by omega), ?_⟩
  have z2 := i32 (xs (Int32.toNatClampNeg (v3 + 1)))
  have e3 : ((v3 + 2) : Int32).toInt = (v3.toInt) + (2) := ti_add rfl rfl (by omega)
  refine ⟨vp_of (a := (v3.toInt + 2)) e3 (by omega) (by omega), ?_⟩
  have z4 := i32 (xs (Int32.toNatClampNeg (v3 + 2)))
  have e5 : ((v3 + 3) : Int32).toInt = (v3.toInt) + (3) := ti_add rfl rfl (by omega)
  refine ⟨vp_of (a := (v3.toInt + 3)) e5 (by omega) (by omega), ?_⟩
  have z6 := i32 (xs (Int32.toNatClampNeg (v3 + 3)))
  refine ⟨⟨hF0, rfl⟩, ?_⟩
  refine sp_X11_cut hB0 hR0 (fun x7 y12 I8 J9 hB10 p11 => ?_)
  have i13 := i32 x7
  refine ⟨vp_of (a := (v3.toInt + 1)) e1 (by omega) (by omega), ?_⟩
  have z14 := i32 (xs (Int32.toNatClampNeg (v3 + 1)))
  refine ⟨vp_of (a := (v3.toInt + 2)) e3 (by omega) (by omega), ?_⟩
  have z15 := i32 (xs (Int32.toNatClampNeg (v3 + 2)))
  refine ⟨vp_of (a := (v3.toInt + 3)) e5 (by omega) (by omega), ?_⟩
  have z16 := i32 (xs (Int32.toNatClampNeg (v3 + 3)))
  refine ⟨⟨hF0, rfl⟩, ?_⟩
  refine sp_X12_cut hB10 hR0 (fun x17 y22 I18 J19 hB20 p21 => ?_)
  have i23 := i32 x17
  exact hN _ _ R hB20 hR0 hF0
set_option maxHeartbeats 2000000 in
theorem lc_20 {Q : Nat → Qt} {P : Kt} {L : Nat} {xs : Nat → Int32} (hc : Cl (AM 640) false true L xs 2 112 kL_law Q P) (hL : L ≤ 3584) {v3 : Int32} {I : Im} {J : Jm} {R : Rm} (hB0 : Bd I) (hR0 : RI R) (hF0 : Fl R) (h0 : 0 ≤ v3.toInt) (h7 : v3.toInt + 7 ≤ (L : Int)) (hN : ∀ (I : Im) (J : Jm) (R : Rm), Bd I → RI R → Fl R → P 1889 112 [(0, .ref 0), (1, .ref 1), (2, .ref 97), (3, .int v3)] [] I J R) : P 864 112 [(0, .ref 0), (1, .ref 1), (2, .ref 97), (3, .int v3)] [] I J R := by
  have i_v3 := i32 v3
  refine ls_864 hc v3 _ _ _ ?_
  have e1 : ((v3 + 1) : Int32).toInt = (v3.toInt) + (1) := ti_add rfl rfl (by omega)
  refine ⟨vp_of (a := (v3.toInt + 1)) e1 (by omega) (by omega), ?_⟩
  have z2 := i32 (xs (Int32.toNatClampNeg (v3 + 1)))
  have e3 : ((v3 + 2) : Int32).toInt = (v3.toInt) + (2) := ti_add rfl rfl (by omega)
  refine ⟨vp_of (a := (v3.toInt + 2)) e3 (by omega) (by omega), ?_⟩
  have z4 := i32 (xs (Int32.toNatClampNeg (v3 + 2)))
  refine ⟨⟨hF0, rfl⟩, ?_⟩
  refine sp_X11_split hB0 hR0 (fun x5 y10 I6 J7 hB8 p9 => ?_)
  have i11 := i32 x5
  refine ⟨vp_of (a := (v3.toInt + 1)) e1 (by omega) (by omega), ?_⟩
  have z12 := i32 (xs (Int32.toNatClampNeg (v3 + 1)))
  refine ⟨vp_of (a := (v3.toInt + 2)) e3 (by omega) (by omega), ?_⟩
  have z13 := i32 (xs (Int32.toNatClampNeg (v3 + 2)))
  refine ⟨⟨hF0, rfl⟩, ?_⟩
  refine sp_X12_split hB8 hR0 (fun x14 y19 I15 J16 hB17 p18 => ?_)
  have i20 := i32 x14
  exact hN _ _ R hB17 hR0 hF0
set_option maxHeartbeats 2000000 in
theorem lc_21 {Q : Nat → Qt} {P : Kt} {L : Nat} {xs : Nat → Int32} (hc : Cl (AM 640) false true L xs 2 112 kL_law Q P) (hL : L ≤ 3584) {v3 : Int32} {I : Im} {J : Jm} {R : Rm} (hB0 : Bd I) (hR0 : RI R) (hF0 : Fl R) (h0 : 0 ≤ v3.toInt) (h7 : v3.toInt + 7 ≤ (L : Int)) (hN : ∀ (I : Im) (J : Jm) (R : Rm), Bd I → RI R → Fl R → P 1889 112 [(0, .ref 0), (1, .ref 1), (2, .ref 97), (3, .int v3)] [] I J R) : P 897 112 [(0, .ref 0), (1, .ref 1), (2, .ref 97), (3, .int v3)] [] I J R := by
  have i_v3 := i32 v3
  refine ls_897 hc v3 _ _ _ ?_
  have e1 : ((v3 + 1) : Int32).toInt = (v3.toInt) + (1) := ti_add rfl rfl (by omega)
  refine ⟨vp_of (a := (v3.toInt + 1)) e1 (by omega) (by omega), ?_⟩
  have z2 := i32 (xs (Int32.toNatClampNeg (v3 + 1)))
  have e3 : ((v3 + 2) : Int32).toInt = (v3.toInt) + (2) := ti_add rfl rfl (by omega)
  refine ⟨vp_of (a := (v3.toInt + 2)) e3 (by omega) (by omega), ?_⟩
  have z4 := i32 (xs (Int32.toNatClampNeg (v3 + 2)))
  refine ⟨⟨hF0, rfl⟩, ?_⟩
  refine sp_X11_give hB0 hR0 (fun x5 y10 I6 J7 hB8 p9 => ?_)
  have i11 := i32 x5
  refine ⟨vp_of (a := (v3.toInt + 1)) e1 (by omega) (by omega), ?_⟩
  have z12 := i32 (xs (Int32.toNatClampNeg (v3 + 1)))
  refine ⟨vp_of (a := (v3.toInt + 2)) e3 (by omega) (by omega), ?_⟩
  have z13 := i32 (xs (Int32.toNatClampNeg (v3 + 2)))
  refine ⟨⟨hF0, rfl⟩, ?_⟩
  refine sp_X12_give hB8 hR0 (fun x14 y19 I15 J16 hB17 p18 => ?_)
  have i20 := i32 x14
  exact hN _ _ R hB17 hR0 hF0
set_option maxHeartbeats 2000000 in
theorem lc_22 {Q : Nat → Qt} {P : Kt} {L : Nat} {xs : Nat → Int32} (hc : Cl (AM 640) false true L xs 2 112 kL_law Q P) (hL : L ≤ 3584) {v3 : Int32} {I : Im} {J : Jm} {R : Rm} (hB0 : Bd I) (hR0 : RI R) (hF0 : Fl R) (h0 : 0 ≤ v3.toInt) (h7 : v3.toInt + 7 ≤ (L : Int)) (hN : ∀ (I : Im) (J : Jm) (R : Rm), Bd I → RI R → Fl R → P 1889 112 [(0, .ref 0), (1, .ref 1), (2, .ref 97), (3, .int v3)] [] I J R) : P 930 112 [(0, .ref 0), (1, .ref 1), (2, .ref 97), (3, .int v3)] [] I J R := by
  have i_v3 := i32 v3
  refine ls_930 hc v3 _ _ _ ?_
  have e1 : ((v3 + 1) : Int32).toInt = (v3.toInt) + (1) := ti_add rfl rfl (by omega)
  refine ⟨vp_of (a := (v3.toInt + 1)) e1 (by omega) (by omega), ?_⟩
  have z2 := i32 (xs (Int32.toNatClampNeg (v3 + 1)))
  have e3 : ((v3 + 2) : Int32).toInt = (v3.toInt) + (2) := ti_add rfl rfl (by omega)
  refine ⟨vp_of (a := (v3.toInt + 2)) e3 (by omega) (by omega), ?_⟩
  have z4 := i32 (xs (Int32.toNatClampNeg (v3 + 2)))
  refine ⟨⟨hF0, rfl⟩, ?_⟩
  refine sp_X11_take hB0 hR0 (fun x5 y10 I6 J7 hB8 p9 => ?_)
  have i11 := i32 x5
  refine ⟨vp_of (a := (v3.toInt + 1)) e1 (by omega) (by omega), ?_⟩
  have z12 := i32 (xs (Int32.toNatClampNeg (v3 + 1)))
  refine ⟨vp_of (a := (v3.toInt + 2)) e3 (by omega) (by omega), ?_⟩
  have z13 := i32 (xs (Int32.toNatClampNeg (v3 + 2)))
  refine ⟨⟨hF0, rfl⟩, ?_⟩
  refine sp_X12_take hB8 hR0 (fun x14 y19 I15 J16 hB17 p18 => ?_)
  have i20 := i32 x14
  exact hN _ _ R hB17 hR0 hF0
set_option maxHeartbeats 2000000 in
theorem lc_23 {Q : Nat → Qt} {P : Kt} {L : Nat} {xs : Nat → Int32} (hc : Cl (AM 640) false true L xs 2 112 kL_law Q P) (hL : L ≤ 3584) {v3 : Int32} {I : Im} {J : Jm} {R : Rm} (hB0 : Bd I) (hR0 : RI R) (hF0 : Fl R) (h0 : 0 ≤ v3.toInt) (h7 : v3.toInt + 7 ≤ (L : Int)) (hN : ∀ (I : Im) (J : Jm) (R : Rm), Bd I → RI R → Fl R → P 1889 112 [(0, .ref 0), (1, .ref 1), (2, .ref 97), (3, .int v3)] [] I J R) : P 963 112 [(0, .ref 0), (1, .ref 1), (2, .ref 97), (3, .int v3)] [] I J R := by
  have i_v3 := i32 v3
  refine ls_963 hc v3 _ _ _ ?_
  have e1 : ((v3 + 1) : Int32).toInt = (v3.toInt) + (1) := ti_add rfl rfl (by omega)
  refine ⟨vp_of (a := (v3.toInt + 1)) e1 (by omega) (by omega), ?_⟩
  have z2 := i32 (xs (Int32.toNatClampNeg (v3 + 1)))
  have e3 : ((v3 + 2) : Int32).toInt = (v3.toInt) + (2) := ti_add rfl rfl (by omega)
  refine ⟨vp_of (a := (v3.toInt + 2)) e3 (by omega) (by omega), ?_⟩
  have z4 := i32 (xs (Int32.toNatClampNeg (v3 + 2)))
  have e5 : ((v3 + 3) : Int32).toInt = (v3.toInt) + (3) := ti_add rfl rfl (by omega)
  refine ⟨vp_of (a := (v3.toInt + 3)) e5 (by omega) (by omega), ?_⟩
  have z6 := i32 (xs (Int32.toNatClampNeg (v3 + 3)))
  refine ⟨⟨hF0, rfl⟩, ?_⟩
  refine sp_X11_owe hB0 hR0 (fun x7 y12 I8 J9 hB10 p11 => ?_)
  intro o13
  have i14 := i32 x7
  refine ⟨vp_of (a := (v3.toInt + 1)) e1 (by omega) (by omega), ?_⟩
  have z15 := i32 (xs (Int32.toNatClampNeg (v3 + 1)))
  refine ⟨vp_of (a := (v3.toInt + 2)) e3 (by omega) (by omega), ?_⟩
  have z16 := i32 (xs (Int32.toNatClampNeg (v3 + 2)))
  refine ⟨vp_of (a := (v3.toInt + 3)) e5 (by omega) (by omega), ?_⟩
  have z17 := i32 (xs (Int32.toNatClampNeg (v3 + 3)))
  refine ⟨⟨hF0, rfl⟩, ?_⟩
  refine sp_X12_owe hB10 hR0 (fun x18 y23 I19 J20 hB21 p22 => ?_)
  intro o24
  have i25 := i32 x18
  exact hN _ _ R hB21 hR0 hF0
set_option maxHeartbeats 2000000 in
theorem lc_24 {Q : Nat → Qt} {P : Kt} {L : Nat} {xs : Nat → Int32} (hc : Cl (AM 640) false true L xs 2 112 kL_law Q P) (hL : L ≤ 3584) {v3 : Int32} {I : Im} {J : Jm} {R : Rm} (hB0 : Bd I) (hR0 : RI R) (hF0 : Fl R) (h0 : 0 ≤ v3.toInt) (h7 : v3.toInt + 7 ≤ (L : Int)) (hN : ∀ (I : Im) (J : Jm) (R : Rm), Bd I → RI R → Fl R → P 1889 112 [(0, .ref 0), (1, .ref 1), (2, .ref 97), (3, .int v3)] [] I J R) : P 1006 112 [(0, .ref 0), (1, .ref 1), (2, .ref 97), (3, .int v3)] [] I J R := by
  have i_v3 := i32 v3
  refine ls_1006 hc v3 _ _ _ ?_
  have e1 : ((v3 + 1) : Int32).toInt = (v3.toInt) + (1) := ti_add rfl rfl (by omega)
  refine ⟨vp_of (a := (v3.toInt + 1)) e1 (by omega) (by omega), ?_⟩
  have z2 := i32 (xs (Int32.toNatClampNeg (v3 + 1)))
  have e3 : ((v3 + 2) : Int32).toInt = (v3.toInt) + (2) := ti_add rfl rfl (by omega)
  refine ⟨vp_of (a := (v3.toInt + 2)) e3 (by omega) (by omega), ?_⟩
  have z4 := i32 (xs (Int32.toNatClampNeg (v3 + 2)))
  refine ⟨⟨hF0, rfl⟩, ?_⟩
  refine sp_X11_come hB0 hR0 (fun x5 y10 I6 J7 hB8 p9 => ?_)
  have i11 := i32 x5
  refine ⟨vp_of (a := (v3.toInt + 1)) e1 (by omega) (by omega), ?_⟩
  have z12 := i32 (xs (Int32.toNatClampNeg (v3 + 1)))
  refine ⟨vp_of (a := (v3.toInt + 2)) e3 (by omega) (by omega), ?_⟩
  have z13 := i32 (xs (Int32.toNatClampNeg (v3 + 2)))
  refine ⟨⟨hF0, rfl⟩, ?_⟩
  refine sp_X12_come hB8 hR0 (fun x14 y19 I15 J16 hB17 p18 => ?_)
  have i20 := i32 x14
  exact hN _ _ R hB17 hR0 hF0
set_option maxHeartbeats 2000000 in
theorem lc_25 {Q : Nat → Qt} {P : Kt} {L : Nat} {xs : Nat → Int32} (hc : Cl (AM 640) false true L xs 2 112 kL_law Q P) (hL : L ≤ 3584) {v3 : Int32} {I : Im} {J : Jm} {R : Rm} (hB0 : Bd I) (hR0 : RI R) (hF0 : Fl R) (h0 : 0 ≤ v3.toInt) (h7 : v3.toInt + 7 ≤ (L : Int)) (hN : ∀ (I : Im) (J : Jm) (R : Rm), Bd I → RI R → Fl R → P 1889 112 [(0, .ref 0), (1, .ref 1), (2, .ref 97), (3, .int v3)] [] I J R) : P 1039 112 [(0, .ref 0), (1, .ref 1), (2, .ref 97), (3, .int v3)] [] I J R := by
  have i_v3 := i32 v3
  refine ls_1039 hc v3 _ _ _ ?_
  have e1 : ((v3 + 1) : Int32).toInt = (v3.toInt) + (1) := ti_add rfl rfl (by omega)
  refine ⟨vp_of (a := (v3.toInt + 1)) e1 (by omega) (by omega), ?_⟩
  have z2 := i32 (xs (Int32.toNatClampNeg (v3 + 1)))
  have e3 : ((v3 + 2) : Int32).toInt = (v3.toInt) + (2) := ti_add rfl rfl (by omega)
  refine ⟨vp_of (a := (v3.toInt + 2)) e3 (by omega) (by omega), ?_⟩
  have z4 := i32 (xs (Int32.toNatClampNeg (v3 + 2)))
  refine ⟨fun c5 => ?_, fun c5 => ?_⟩
  · skip
    have d6 : (((xs (Int32.toNatClampNeg (v3 + 2))).toInt) : Int) = (0) := ci_eq rfl rfl c5
    refine ⟨⟨hF0, rfl⟩, ?_⟩
    refine sp_X11_learn hB0 hR0 (fun x7 y12 I8 J9 hB10 p11 => ?_)
    intro o13
    have i14 := i32 x7
    refine ⟨vp_of (a := (v3.toInt + 1)) e1 (by omega) (by omega), ?_⟩
    have z15 := i32 (xs (Int32.toNatClampNeg (v3 + 1)))
    refine ⟨vp_of (a := (v3.toInt + 2)) e3 (by omega) (by omega), ?_⟩
    have z16 := i32 (xs (Int32.toNatClampNeg (v3 + 2)))
    refine ⟨fun c17 => ?_, fun c17 => ?_⟩
    · skip
      have d18 : (((xs (Int32.toNatClampNeg (v3 + 2))).toInt) : Int) = (0) := ci_eq rfl rfl c17
      refine ⟨⟨hF0, rfl⟩, ?_⟩
      refine sp_X12_learn hB10 hR0 (fun x19 y24 I20 J21 hB22 p23 => ?_)
      intro o25
      have i26 := i32 x19
      exact hN _ _ R hB22 hR0 hF0
    · skip
      have d27 : ¬ (((xs (Int32.toNatClampNeg (v3 + 2))).toInt) : Int) = (0) := ci_ne rfl rfl c17
      refine ⟨⟨hF0, rfl⟩, ?_⟩
      refine sp_X12_learn hB10 hR0 (fun x28 y33 I29 J30 hB31 p32 => ?_)
      intro o34
      have i35 := i32 x28
      exact hN _ _ R hB31 hR0 hF0
  · skip
    have d36 : ¬ (((xs (Int32.toNatClampNeg (v3 + 2))).toInt) : Int) = (0) := ci_ne rfl rfl c5
    refine ⟨⟨hF0, rfl⟩, ?_⟩
    refine sp_X11_learn hB0 hR0 (fun x37 y42 I38 J39 hB40 p41 => ?_)
    intro o43
    have i44 := i32 x37
    refine ⟨vp_of (a := (v3.toInt + 1)) e1 (by omega) (by omega), ?_⟩
    have z45 := i32 (xs (Int32.toNatClampNeg (v3 + 1)))
    refine ⟨vp_of (a := (v3.toInt + 2)) e3 (by omega) (by omega), ?_⟩
    have z46 := i32 (xs (Int32.toNatClampNeg (v3 + 2)))
    refine ⟨fun c47 => ?_, fun c47 => ?_⟩
    · skip
      have d48 : (((xs (Int32.toNatClampNeg (v3 + 2))).toInt) : Int) = (0) := ci_eq rfl rfl c47
      refine ⟨⟨hF0, rfl⟩, ?_⟩
      refine sp_X12_learn hB40 hR0 (fun x49 y54 I50 J51 hB52 p53 => ?_)
      intro o55
      have i56 := i32 x49
      exact hN _ _ R hB52 hR0 hF0
    · skip
      have d57 : ¬ (((xs (Int32.toNatClampNeg (v3 + 2))).toInt) : Int) = (0) := ci_ne rfl rfl c47
      refine ⟨⟨hF0, rfl⟩, ?_⟩
      refine sp_X12_learn hB40 hR0 (fun x58 y63 I59 J60 hB61 p62 => ?_)
      intro o64
      have i65 := i32 x58
      exact hN _ _ R hB61 hR0 hF0
set_option maxHeartbeats 2000000 in
theorem lc_26 {Q : Nat → Qt} {P : Kt} {L : Nat} {xs : Nat → Int32} (hc : Cl (AM 640) false true L xs 2 112 kL_law Q P) (hL : L ≤ 3584) {v3 : Int32} {I : Im} {J : Jm} {R : Rm} (hB0 : Bd I) (hR0 : RI R) (hF0 : Fl R) (h0 : 0 ≤ v3.toInt) (h7 : v3.toInt + 7 ≤ (L : Int)) (hN : ∀ (I : Im) (J : Jm) (R : Rm), Bd I → RI R → Fl R → P 1889 112 [(0, .ref 0), (1, .ref 1), (2, .ref 97), (3, .int v3)] [] I J R) : P 1088 112 [(0, .ref 0), (1, .ref 1), (2, .ref 97), (3, .int v3)] [] I J R := by
  have i_v3 := i32 v3
  refine ls_1088 hc v3 _ _ _ ?_
  have e1 : ((v3 + 1) : Int32).toInt = (v3.toInt) + (1) := ti_add rfl rfl (by omega)
  refine ⟨vp_of (a := (v3.toInt + 1)) e1 (by omega) (by omega), ?_⟩
  have z2 := i32 (xs (Int32.toNatClampNeg (v3 + 1)))
  refine ⟨⟨hF0, rfl⟩, ?_⟩
  refine sp_X11_rule hB0 hR0 (fun x3 y8 I4 J5 hB6 p7 => ?_)
  intro o9
  have i10 := i32 x3
  refine ⟨vp_of (a := (v3.toInt + 1)) e1 (by omega) (by omega), ?_⟩
  have z11 := i32 (xs (Int32.toNatClampNeg (v3 + 1)))
  refine ⟨⟨hF0, rfl⟩, ?_⟩
  refine sp_X12_rule hB6 hR0 (fun x12 y17 I13 J14 hB15 p16 => ?_)
  intro o18
  have i19 := i32 x12
  exact hN _ _ R hB15 hR0 hF0
set_option maxHeartbeats 2000000 in
theorem lc_27 {Q : Nat → Qt} {P : Kt} {L : Nat} {xs : Nat → Int32} (hc : Cl (AM 640) false true L xs 2 112 kL_law Q P) (hL : L ≤ 3584) {v3 : Int32} {I : Im} {J : Jm} {R : Rm} (hB0 : Bd I) (hR0 : RI R) (hF0 : Fl R) (h0 : 0 ≤ v3.toInt) (h7 : v3.toInt + 7 ≤ (L : Int)) (hN : ∀ (I : Im) (J : Jm) (R : Rm), Bd I → RI R → Fl R → P 1889 112 [(0, .ref 0), (1, .ref 1), (2, .ref 97), (3, .int v3)] [] I J R) : P 1111 112 [(0, .ref 0), (1, .ref 1), (2, .ref 97), (3, .int v3)] [] I J R := by
  have i_v3 := i32 v3
  refine ls_1111 hc v3 _ _ _ ?_
  have e1 : ((v3 + 1) : Int32).toInt = (v3.toInt) + (1) := ti_add rfl rfl (by omega)
  refine ⟨vp_of (a := (v3.toInt + 1)) e1 (by omega) (by omega), ?_⟩
  have z2 := i32 (xs (Int32.toNatClampNeg (v3 + 1)))
  have e3 : ((v3 + 2) : Int32).toInt = (v3.toInt) + (2) := ti_add rfl rfl (by omega)
  refine ⟨vp_of (a := (v3.toInt + 2)) e3 (by omega) (by omega), ?_⟩
  have z4 := i32 (xs (Int32.toNatClampNeg (v3 + 2)))
  refine ⟨⟨hF0, rfl⟩, ?_⟩
  refine sp_X11_fewest hB0 hR0 (fun x5 y10 I6 J7 hB8 p9 => ?_)
  have i11 := i32 x5
  refine ⟨vp_of (a := (v3.toInt + 1)) e1 (by omega) (by omega), ?_⟩
  have z12 := i32 (xs (Int32.toNatClampNeg (v3 + 1)))
  refine ⟨vp_of (a := (v3.toInt + 2)) e3 (by omega) (by omega), ?_⟩
  have z13 := i32 (xs (Int32.toNatClampNeg (v3 + 2)))
  refine ⟨⟨hF0, rfl⟩, ?_⟩
  refine sp_X12_fewest hB8 hR0 (fun x14 y19 I15 J16 hB17 p18 => ?_)
  have i20 := i32 x14
  exact hN _ _ R hB17 hR0 hF0
set_option maxHeartbeats 2000000 in
theorem lc_28 {Q : Nat → Qt} {P : Kt} {L : Nat} {xs : Nat → Int32} (hc : Cl (AM 640) false true L xs 2 112 kL_law Q P) (hL : L ≤ 3584) {v3 : Int32} {I : Im} {J : Jm} {R : Rm} (hB0 : Bd I) (hR0 : RI R) (hF0 : Fl R) (h0 : 0 ≤ v3.toInt) (h7 : v3.toInt + 7 ≤ (L : Int)) (hN : ∀ (I : Im) (J : Jm) (R : Rm), Bd I → RI R → Fl R → P 1889 112 [(0, .ref 0), (1, .ref 1), (2, .ref 97), (3, .int v3)] [] I J R) : P 1144 112 [(0, .ref 0), (1, .ref 1), (2, .ref 97), (3, .int v3)] [] I J R := by
  have i_v3 := i32 v3
  refine ls_1144 hc v3 _ _ _ ?_
  have e1 : ((v3 + 1) : Int32).toInt = (v3.toInt) + (1) := ti_add rfl rfl (by omega)
  refine ⟨vp_of (a := (v3.toInt + 1)) e1 (by omega) (by omega), ?_⟩
  have z2 := i32 (xs (Int32.toNatClampNeg (v3 + 1)))
  have e3 : ((v3 + 2) : Int32).toInt = (v3.toInt) + (2) := ti_add rfl rfl (by omega)
  refine ⟨vp_of (a := (v3.toInt + 2)) e3 (by omega) (by omega), ?_⟩
  have z4 := i32 (xs (Int32.toNatClampNeg (v3 + 2)))
  have e5 : ((v3 + 3) : Int32).toInt = (v3.toInt) + (3) := ti_add rfl rfl (by omega)
  refine ⟨vp_of (a := (v3.toInt + 3)) e5 (by omega) (by omega), ?_⟩
  have z6 := i32 (xs (Int32.toNatClampNeg (v3 + 3)))
  refine ⟨⟨hF0, rfl⟩, ?_⟩
  refine sp_X11_fewestAt hB0 hR0 (fun x7 y12 I8 J9 hB10 p11 => ?_)
  have i13 := i32 x7
  refine ⟨vp_of (a := (v3.toInt + 1)) e1 (by omega) (by omega), ?_⟩
  have z14 := i32 (xs (Int32.toNatClampNeg (v3 + 1)))
  refine ⟨vp_of (a := (v3.toInt + 2)) e3 (by omega) (by omega), ?_⟩
  have z15 := i32 (xs (Int32.toNatClampNeg (v3 + 2)))
  refine ⟨vp_of (a := (v3.toInt + 3)) e5 (by omega) (by omega), ?_⟩
  have z16 := i32 (xs (Int32.toNatClampNeg (v3 + 3)))
  refine ⟨⟨hF0, rfl⟩, ?_⟩
  refine sp_X12_fewestAt hB10 hR0 (fun x17 y22 I18 J19 hB20 p21 => ?_)
  have i23 := i32 x17
  exact hN _ _ R hB20 hR0 hF0
set_option maxHeartbeats 2000000 in
theorem lc_29 {Q : Nat → Qt} {P : Kt} {L : Nat} {xs : Nat → Int32} (hc : Cl (AM 640) false true L xs 2 112 kL_law Q P) (hL : L ≤ 3584) {v3 : Int32} {I : Im} {J : Jm} {R : Rm} (hB0 : Bd I) (hR0 : RI R) (hF0 : Fl R) (h0 : 0 ≤ v3.toInt) (h7 : v3.toInt + 7 ≤ (L : Int)) (hN : ∀ (I : Im) (J : Jm) (R : Rm), Bd I → RI R → Fl R → P 1889 112 [(0, .ref 0), (1, .ref 1), (2, .ref 97), (3, .int v3)] [] I J R) : P 1187 112 [(0, .ref 0), (1, .ref 1), (2, .ref 97), (3, .int v3)] [] I J R := by
  have i_v3 := i32 v3
  refine ls_1187 hc v3 _ _ _ ?_
  have e1 : ((v3 + 1) : Int32).toInt = (v3.toInt) + (1) := ti_add rfl rfl (by omega)
  refine ⟨vp_of (a := (v3.toInt + 1)) e1 (by omega) (by omega), ?_⟩
  have z2 := i32 (xs (Int32.toNatClampNeg (v3 + 1)))
  have e3 : ((v3 + 2) : Int32).toInt = (v3.toInt) + (2) := ti_add rfl rfl (by omega)
  refine ⟨vp_of (a := (v3.toInt + 2)) e3 (by omega) (by omega), ?_⟩
  have z4 := i32 (xs (Int32.toNatClampNeg (v3 + 2)))
  have e5 : ((v3 + 3) : Int32).toInt = (v3.toInt) + (3) := ti_add rfl rfl (by omega)
  refine ⟨vp_of (a := (v3.toInt + 3)) e5 (by omega) (by omega), ?_⟩
  have z6 := i32 (xs (Int32.toNatClampNeg (v3 + 3)))
  refine ⟨⟨hF0, rfl⟩, ?_⟩
  refine sp_X11_ways hB0 hR0 (fun x7 y12 I8 J9 hB10 p11 => ?_)
  have i13 := i32 x7
  refine ⟨vp_of (a := (v3.toInt + 1)) e1 (by omega) (by omega), ?_⟩
  have z14 := i32 (xs (Int32.toNatClampNeg (v3 + 1)))
  refine ⟨vp_of (a := (v3.toInt + 2)) e3 (by omega) (by omega), ?_⟩
  have z15 := i32 (xs (Int32.toNatClampNeg (v3 + 2)))
  refine ⟨vp_of (a := (v3.toInt + 3)) e5 (by omega) (by omega), ?_⟩
  have z16 := i32 (xs (Int32.toNatClampNeg (v3 + 3)))
  refine ⟨⟨hF0, rfl⟩, ?_⟩
  refine sp_X12_ways hB10 hR0 (fun x17 y22 I18 J19 hB20 p21 => ?_)
  have i23 := i32 x17
  exact hN _ _ R hB20 hR0 hF0
set_option maxHeartbeats 2000000 in
theorem lc_30 {Q : Nat → Qt} {P : Kt} {L : Nat} {xs : Nat → Int32} (hc : Cl (AM 640) false true L xs 2 112 kL_law Q P) (hL : L ≤ 3584) {v3 : Int32} {I : Im} {J : Jm} {R : Rm} (hB0 : Bd I) (hR0 : RI R) (hF0 : Fl R) (h0 : 0 ≤ v3.toInt) (h7 : v3.toInt + 7 ≤ (L : Int)) (hN : ∀ (I : Im) (J : Jm) (R : Rm), Bd I → RI R → Fl R → P 1889 112 [(0, .ref 0), (1, .ref 1), (2, .ref 97), (3, .int v3)] [] I J R) : P 1230 112 [(0, .ref 0), (1, .ref 1), (2, .ref 97), (3, .int v3)] [] I J R := by
  have i_v3 := i32 v3
  refine ls_1230 hc v3 _ _ _ ?_
  have e1 : ((v3 + 1) : Int32).toInt = (v3.toInt) + (1) := ti_add rfl rfl (by omega)
  refine ⟨vp_of (a := (v3.toInt + 1)) e1 (by omega) (by omega), ?_⟩
  have z2 := i32 (xs (Int32.toNatClampNeg (v3 + 1)))
  have e3 : ((v3 + 2) : Int32).toInt = (v3.toInt) + (2) := ti_add rfl rfl (by omega)
  refine ⟨vp_of (a := (v3.toInt + 2)) e3 (by omega) (by omega), ?_⟩
  have z4 := i32 (xs (Int32.toNatClampNeg (v3 + 2)))
  have e5 : ((v3 + 3) : Int32).toInt = (v3.toInt) + (3) := ti_add rfl rfl (by omega)
  refine ⟨vp_of (a := (v3.toInt + 3)) e5 (by omega) (by omega), ?_⟩
  have z6 := i32 (xs (Int32.toNatClampNeg (v3 + 3)))
  have e7 : ((v3 + 4) : Int32).toInt = (v3.toInt) + (4) := ti_add rfl rfl (by omega)
  refine ⟨vp_of (a := (v3.toInt + 4)) e7 (by omega) (by omega), ?_⟩
  have z8 := i32 (xs (Int32.toNatClampNeg (v3 + 4)))
  refine ⟨⟨hF0, rfl⟩, ?_⟩
  refine sp_X11_oddsThat hB0 hR0 (fun x9 y14 I10 J11 hB12 p13 => ?_)
  intro o15
  have i16 := i32 x9
  refine ⟨vp_of (a := (v3.toInt + 1)) e1 (by omega) (by omega), ?_⟩
  have z17 := i32 (xs (Int32.toNatClampNeg (v3 + 1)))
  refine ⟨vp_of (a := (v3.toInt + 2)) e3 (by omega) (by omega), ?_⟩
  have z18 := i32 (xs (Int32.toNatClampNeg (v3 + 2)))
  refine ⟨vp_of (a := (v3.toInt + 3)) e5 (by omega) (by omega), ?_⟩
  have z19 := i32 (xs (Int32.toNatClampNeg (v3 + 3)))
  refine ⟨vp_of (a := (v3.toInt + 4)) e7 (by omega) (by omega), ?_⟩
  have z20 := i32 (xs (Int32.toNatClampNeg (v3 + 4)))
  refine ⟨⟨hF0, rfl⟩, ?_⟩
  refine sp_X12_oddsThat hB12 hR0 (fun x21 y26 I22 J23 hB24 p25 => ?_)
  intro o27
  have i28 := i32 x21
  exact hN _ _ R hB24 hR0 hF0
set_option maxHeartbeats 2000000 in
theorem lc_31 {Q : Nat → Qt} {P : Kt} {L : Nat} {xs : Nat → Int32} (hc : Cl (AM 640) false true L xs 2 112 kL_law Q P) (hL : L ≤ 3584) {v3 : Int32} {I : Im} {J : Jm} {R : Rm} (hB0 : Bd I) (hR0 : RI R) (hF0 : Fl R) (h0 : 0 ≤ v3.toInt) (h7 : v3.toInt + 7 ≤ (L : Int)) (hN : ∀ (I : Im) (J : Jm) (R : Rm), Bd I → RI R → Fl R → P 1889 112 [(0, .ref 0), (1, .ref 1), (2, .ref 97), (3, .int v3)] [] I J R) : P 1283 112 [(0, .ref 0), (1, .ref 1), (2, .ref 97), (3, .int v3)] [] I J R := by
  have i_v3 := i32 v3
  refine ls_1283 hc v3 _ _ _ ?_
  have e1 : ((v3 + 1) : Int32).toInt = (v3.toInt) + (1) := ti_add rfl rfl (by omega)
  refine ⟨vp_of (a := (v3.toInt + 1)) e1 (by omega) (by omega), ?_⟩
  have z2 := i32 (xs (Int32.toNatClampNeg (v3 + 1)))
  have e3 : ((v3 + 2) : Int32).toInt = (v3.toInt) + (2) := ti_add rfl rfl (by omega)
  refine ⟨vp_of (a := (v3.toInt + 2)) e3 (by omega) (by omega), ?_⟩
  have z4 := i32 (xs (Int32.toNatClampNeg (v3 + 2)))
  have e5 : ((v3 + 3) : Int32).toInt = (v3.toInt) + (3) := ti_add rfl rfl (by omega)
  refine ⟨vp_of (a := (v3.toInt + 3)) e5 (by omega) (by omega), ?_⟩
  have z6 := i32 (xs (Int32.toNatClampNeg (v3 + 3)))
  refine ⟨⟨hF0, rfl⟩, ?_⟩
  refine sp_X11_ask hB0 hR0 (fun x7 y12 I8 J9 hB10 p11 => ?_)
  have i13 := i32 x7
  refine ⟨vp_of (a := (v3.toInt + 1)) e1 (by omega) (by omega), ?_⟩
  have z14 := i32 (xs (Int32.toNatClampNeg (v3 + 1)))
  refine ⟨vp_of (a := (v3.toInt + 2)) e3 (by omega) (by omega), ?_⟩
  have z15 := i32 (xs (Int32.toNatClampNeg (v3 + 2)))
  refine ⟨vp_of (a := (v3.toInt + 3)) e5 (by omega) (by omega), ?_⟩
  have z16 := i32 (xs (Int32.toNatClampNeg (v3 + 3)))
  refine ⟨⟨hF0, rfl⟩, ?_⟩
  refine sp_X12_ask hB10 hR0 (fun x17 y22 I18 J19 hB20 p21 => ?_)
  have i23 := i32 x17
  exact hN _ _ R hB20 hR0 hF0
set_option maxHeartbeats 2000000 in
theorem lc_32 {Q : Nat → Qt} {P : Kt} {L : Nat} {xs : Nat → Int32} (hc : Cl (AM 640) false true L xs 2 112 kL_law Q P) (hL : L ≤ 3584) {v3 : Int32} {I : Im} {J : Jm} {R : Rm} (hB0 : Bd I) (hR0 : RI R) (hF0 : Fl R) (h0 : 0 ≤ v3.toInt) (h7 : v3.toInt + 7 ≤ (L : Int)) (hN : ∀ (I : Im) (J : Jm) (R : Rm), Bd I → RI R → Fl R → P 1889 112 [(0, .ref 0), (1, .ref 1), (2, .ref 97), (3, .int v3)] [] I J R) : P 1326 112 [(0, .ref 0), (1, .ref 1), (2, .ref 97), (3, .int v3)] [] I J R := by
  have i_v3 := i32 v3
  refine ls_1326 hc v3 _ _ _ ?_
  have e1 : ((v3 + 1) : Int32).toInt = (v3.toInt) + (1) := ti_add rfl rfl (by omega)
  refine ⟨vp_of (a := (v3.toInt + 1)) e1 (by omega) (by omega), ?_⟩
  have z2 := i32 (xs (Int32.toNatClampNeg (v3 + 1)))
  have e3 : ((v3 + 2) : Int32).toInt = (v3.toInt) + (2) := ti_add rfl rfl (by omega)
  refine ⟨vp_of (a := (v3.toInt + 2)) e3 (by omega) (by omega), ?_⟩
  have z4 := i32 (xs (Int32.toNatClampNeg (v3 + 2)))
  have e5 : ((v3 + 3) : Int32).toInt = (v3.toInt) + (3) := ti_add rfl rfl (by omega)
  refine ⟨vp_of (a := (v3.toInt + 3)) e5 (by omega) (by omega), ?_⟩
  have z6 := i32 (xs (Int32.toNatClampNeg (v3 + 3)))
  refine ⟨⟨hF0, rfl⟩, ?_⟩
  refine sp_X11_kindestAt hB0 hR0 (fun x7 y12 I8 J9 hB10 p11 => ?_)
  have i13 := i32 x7
  refine ⟨vp_of (a := (v3.toInt + 1)) e1 (by omega) (by omega), ?_⟩
  have z14 := i32 (xs (Int32.toNatClampNeg (v3 + 1)))
  refine ⟨vp_of (a := (v3.toInt + 2)) e3 (by omega) (by omega), ?_⟩
  have z15 := i32 (xs (Int32.toNatClampNeg (v3 + 2)))
  refine ⟨vp_of (a := (v3.toInt + 3)) e5 (by omega) (by omega), ?_⟩
  have z16 := i32 (xs (Int32.toNatClampNeg (v3 + 3)))
  refine ⟨⟨hF0, rfl⟩, ?_⟩
  refine sp_X12_kindestAt hB10 hR0 (fun x17 y22 I18 J19 hB20 p21 => ?_)
  have i23 := i32 x17
  exact hN _ _ R hB20 hR0 hF0
set_option maxHeartbeats 2000000 in
theorem lc_33 {Q : Nat → Qt} {P : Kt} {L : Nat} {xs : Nat → Int32} (hc : Cl (AM 640) false true L xs 2 112 kL_law Q P) (hL : L ≤ 3584) {v3 : Int32} {I : Im} {J : Jm} {R : Rm} (hB0 : Bd I) (hR0 : RI R) (hF0 : Fl R) (h0 : 0 ≤ v3.toInt) (h7 : v3.toInt + 7 ≤ (L : Int)) (hN : ∀ (I : Im) (J : Jm) (R : Rm), Bd I → RI R → Fl R → P 1889 112 [(0, .ref 0), (1, .ref 1), (2, .ref 97), (3, .int v3)] [] I J R) : P 1369 112 [(0, .ref 0), (1, .ref 1), (2, .ref 97), (3, .int v3)] [] I J R := by
  have i_v3 := i32 v3
  refine ls_1369 hc v3 _ _ _ ?_
  have e1 : ((v3 + 1) : Int32).toInt = (v3.toInt) + (1) := ti_add rfl rfl (by omega)
  refine ⟨vp_of (a := (v3.toInt + 1)) e1 (by omega) (by omega), ?_⟩
  have z2 := i32 (xs (Int32.toNatClampNeg (v3 + 1)))
  have e3 : ((v3 + 2) : Int32).toInt = (v3.toInt) + (2) := ti_add rfl rfl (by omega)
  refine ⟨vp_of (a := (v3.toInt + 2)) e3 (by omega) (by omega), ?_⟩
  have z4 := i32 (xs (Int32.toNatClampNeg (v3 + 2)))
  have e5 : ((v3 + 3) : Int32).toInt = (v3.toInt) + (3) := ti_add rfl rfl (by omega)
  refine ⟨vp_of (a := (v3.toInt + 3)) e5 (by omega) (by omega), ?_⟩
  have z6 := i32 (xs (Int32.toNatClampNeg (v3 + 3)))
  refine ⟨⟨hF0, rfl⟩, ?_⟩
  refine sp_X11_greedyAt hB0 hR0 (fun x7 y12 I8 J9 hB10 p11 => ?_)
  have i13 := i32 x7
  refine ⟨vp_of (a := (v3.toInt + 1)) e1 (by omega) (by omega), ?_⟩
  have z14 := i32 (xs (Int32.toNatClampNeg (v3 + 1)))
  refine ⟨vp_of (a := (v3.toInt + 2)) e3 (by omega) (by omega), ?_⟩
  have z15 := i32 (xs (Int32.toNatClampNeg (v3 + 2)))
  refine ⟨vp_of (a := (v3.toInt + 3)) e5 (by omega) (by omega), ?_⟩
  have z16 := i32 (xs (Int32.toNatClampNeg (v3 + 3)))
  refine ⟨⟨hF0, rfl⟩, ?_⟩
  refine sp_X12_greedyAt hB10 hR0 (fun x17 y22 I18 J19 hB20 p21 => ?_)
  have i23 := i32 x17
  exact hN _ _ R hB20 hR0 hF0
set_option maxHeartbeats 2000000 in
theorem lc_34 {Q : Nat → Qt} {P : Kt} {L : Nat} {xs : Nat → Int32} (hc : Cl (AM 640) false true L xs 2 112 kL_law Q P) (hL : L ≤ 3584) {v3 : Int32} {I : Im} {J : Jm} {R : Rm} (hB0 : Bd I) (hR0 : RI R) (hF0 : Fl R) (h0 : 0 ≤ v3.toInt) (h7 : v3.toInt + 7 ≤ (L : Int)) (hN : ∀ (I : Im) (J : Jm) (R : Rm), Bd I → RI R → Fl R → P 1889 112 [(0, .ref 0), (1, .ref 1), (2, .ref 97), (3, .int v3)] [] I J R) : P 1412 112 [(0, .ref 0), (1, .ref 1), (2, .ref 97), (3, .int v3)] [] I J R := by
  have i_v3 := i32 v3
  refine ls_1412 hc v3 _ _ _ ?_
  have e1 : ((v3 + 1) : Int32).toInt = (v3.toInt) + (1) := ti_add rfl rfl (by omega)
  refine ⟨vp_of (a := (v3.toInt + 1)) e1 (by omega) (by omega), ?_⟩
  have z2 := i32 (xs (Int32.toNatClampNeg (v3 + 1)))
  have e3 : ((v3 + 2) : Int32).toInt = (v3.toInt) + (2) := ti_add rfl rfl (by omega)
  refine ⟨vp_of (a := (v3.toInt + 2)) e3 (by omega) (by omega), ?_⟩
  have z4 := i32 (xs (Int32.toNatClampNeg (v3 + 2)))
  have e5 : ((v3 + 3) : Int32).toInt = (v3.toInt) + (3) := ti_add rfl rfl (by omega)
  refine ⟨vp_of (a := (v3.toInt + 3)) e5 (by omega) (by omega), ?_⟩
  have z6 := i32 (xs (Int32.toNatClampNeg (v3 + 3)))
  have e7 : ((v3 + 4) : Int32).toInt = (v3.toInt) + (4) := ti_add rfl rfl (by omega)
  refine ⟨vp_of (a := (v3.toInt + 4)) e7 (by omega) (by omega), ?_⟩
  have z8 := i32 (xs (Int32.toNatClampNeg (v3 + 4)))
  refine ⟨⟨hF0, rfl⟩, ?_⟩
  refine sp_X11_slips hB0 hR0 (fun x9 y14 I10 J11 hB12 p13 => ?_)
  have i15 := i32 x9
  refine ⟨vp_of (a := (v3.toInt + 1)) e1 (by omega) (by omega), ?_⟩
  have z16 := i32 (xs (Int32.toNatClampNeg (v3 + 1)))
  refine ⟨vp_of (a := (v3.toInt + 2)) e3 (by omega) (by omega), ?_⟩
  have z17 := i32 (xs (Int32.toNatClampNeg (v3 + 2)))
  refine ⟨vp_of (a := (v3.toInt + 3)) e5 (by omega) (by omega), ?_⟩
  have z18 := i32 (xs (Int32.toNatClampNeg (v3 + 3)))
  refine ⟨vp_of (a := (v3.toInt + 4)) e7 (by omega) (by omega), ?_⟩
  have z19 := i32 (xs (Int32.toNatClampNeg (v3 + 4)))
  refine ⟨⟨hF0, rfl⟩, ?_⟩
  refine sp_X12_slips hB12 hR0 (fun x20 y25 I21 J22 hB23 p24 => ?_)
  have i26 := i32 x20
  exact hN _ _ R hB23 hR0 hF0
set_option maxHeartbeats 2000000 in
theorem lc_35 {Q : Nat → Qt} {P : Kt} {L : Nat} {xs : Nat → Int32} (hc : Cl (AM 640) false true L xs 2 112 kL_law Q P) (hL : L ≤ 3584) {v3 : Int32} {I : Im} {J : Jm} {R : Rm} (hB0 : Bd I) (hR0 : RI R) (hF0 : Fl R) (h0 : 0 ≤ v3.toInt) (h7 : v3.toInt + 7 ≤ (L : Int)) (hN : ∀ (I : Im) (J : Jm) (R : Rm), Bd I → RI R → Fl R → P 1889 112 [(0, .ref 0), (1, .ref 1), (2, .ref 97), (3, .int v3)] [] I J R) : P 1465 112 [(0, .ref 0), (1, .ref 1), (2, .ref 97), (3, .int v3)] [] I J R := by
  have i_v3 := i32 v3
  refine ls_1465 hc v3 _ _ _ ?_
  have e1 : ((v3 + 1) : Int32).toInt = (v3.toInt) + (1) := ti_add rfl rfl (by omega)
  refine ⟨vp_of (a := (v3.toInt + 1)) e1 (by omega) (by omega), ?_⟩
  have z2 := i32 (xs (Int32.toNatClampNeg (v3 + 1)))
  have e3 : ((v3 + 2) : Int32).toInt = (v3.toInt) + (2) := ti_add rfl rfl (by omega)
  refine ⟨vp_of (a := (v3.toInt + 2)) e3 (by omega) (by omega), ?_⟩
  have z4 := i32 (xs (Int32.toNatClampNeg (v3 + 2)))
  have e5 : ((v3 + 3) : Int32).toInt = (v3.toInt) + (3) := ti_add rfl rfl (by omega)
  refine ⟨vp_of (a := (v3.toInt + 3)) e5 (by omega) (by omega), ?_⟩
  have z6 := i32 (xs (Int32.toNatClampNeg (v3 + 3)))
  have e7 : ((v3 + 4) : Int32).toInt = (v3.toInt) + (4) := ti_add rfl rfl (by omega)
  refine ⟨vp_of (a := (v3.toInt + 4)) e7 (by omega) (by omega), ?_⟩
  have z8 := i32 (xs (Int32.toNatClampNeg (v3 + 4)))
  have e9 : ((v3 + 5) : Int32).toInt = (v3.toInt) + (5) := ti_add rfl rfl (by omega)
  refine ⟨vp_of (a := (v3.toInt + 5)) e9 (by omega) (by omega), ?_⟩
  have z10 := i32 (xs (Int32.toNatClampNeg (v3 + 5)))
  have e11 : ((v3 + 6) : Int32).toInt = (v3.toInt) + (6) := ti_add rfl rfl (by omega)
  refine ⟨vp_of (a := (v3.toInt + 6)) e11 (by omega) (by omega), ?_⟩
  have z12 := i32 (xs (Int32.toNatClampNeg (v3 + 6)))
  refine ⟨⟨hF0, rfl⟩, ?_⟩
  refine sp_X11_slipAt hB0 hR0 (fun x13 y18 I14 J15 hB16 p17 => ?_)
  have i19 := i32 x13
  refine ⟨vp_of (a := (v3.toInt + 1)) e1 (by omega) (by omega), ?_⟩
  have z20 := i32 (xs (Int32.toNatClampNeg (v3 + 1)))
  refine ⟨vp_of (a := (v3.toInt + 2)) e3 (by omega) (by omega), ?_⟩
  have z21 := i32 (xs (Int32.toNatClampNeg (v3 + 2)))
  refine ⟨vp_of (a := (v3.toInt + 3)) e5 (by omega) (by omega), ?_⟩
  have z22 := i32 (xs (Int32.toNatClampNeg (v3 + 3)))
  refine ⟨vp_of (a := (v3.toInt + 4)) e7 (by omega) (by omega), ?_⟩
  have z23 := i32 (xs (Int32.toNatClampNeg (v3 + 4)))
  refine ⟨vp_of (a := (v3.toInt + 5)) e9 (by omega) (by omega), ?_⟩
  have z24 := i32 (xs (Int32.toNatClampNeg (v3 + 5)))
  refine ⟨vp_of (a := (v3.toInt + 6)) e11 (by omega) (by omega), ?_⟩
  have z25 := i32 (xs (Int32.toNatClampNeg (v3 + 6)))
  refine ⟨⟨hF0, rfl⟩, ?_⟩
  refine sp_X12_slipAt hB16 hR0 (fun x26 y31 I27 J28 hB29 p30 => ?_)
  have i32 := i32 x26
  exact hN _ _ R hB29 hR0 hF0
set_option maxHeartbeats 2000000 in
theorem lc_36 {Q : Nat → Qt} {P : Kt} {L : Nat} {xs : Nat → Int32} (hc : Cl (AM 640) false true L xs 2 112 kL_law Q P) (hL : L ≤ 3584) {v3 : Int32} {I : Im} {J : Jm} {R : Rm} (hB0 : Bd I) (hR0 : RI R) (hF0 : Fl R) (h0 : 0 ≤ v3.toInt) (h7 : v3.toInt + 7 ≤ (L : Int)) (hN : ∀ (I : Im) (J : Jm) (R : Rm), Bd I → RI R → Fl R → P 1889 112 [(0, .ref 0), (1, .ref 1), (2, .ref 97), (3, .int v3)] [] I J R) : P 1540 112 [(0, .ref 0), (1, .ref 1), (2, .ref 97), (3, .int v3)] [] I J R := by
  have i_v3 := i32 v3
  refine ls_1540 hc v3 _ _ _ ?_
  have e1 : ((v3 + 1) : Int32).toInt = (v3.toInt) + (1) := ti_add rfl rfl (by omega)
  refine ⟨vp_of (a := (v3.toInt + 1)) e1 (by omega) (by omega), ?_⟩
  have z2 := i32 (xs (Int32.toNatClampNeg (v3 + 1)))
  refine ⟨⟨hF0, rfl⟩, ?_⟩
  refine sp_X11_reach hB0 hR0 (fun x3 y8 I4 J5 hB6 p7 => ?_)
  have i9 := i32 x3
  refine ⟨vp_of (a := (v3.toInt + 1)) e1 (by omega) (by omega), ?_⟩
  have z10 := i32 (xs (Int32.toNatClampNeg (v3 + 1)))
  refine ⟨⟨hF0, rfl⟩, ?_⟩
  refine sp_X12_reach hB6 hR0 (fun x11 y16 I12 J13 hB14 p15 => ?_)
  have i17 := i32 x11
  exact hN _ _ R hB14 hR0 hF0
set_option maxHeartbeats 2000000 in
theorem lc_37 {Q : Nat → Qt} {P : Kt} {L : Nat} {xs : Nat → Int32} (hc : Cl (AM 640) false true L xs 2 112 kL_law Q P) (hL : L ≤ 3584) {v3 : Int32} {I : Im} {J : Jm} {R : Rm} (hB0 : Bd I) (hR0 : RI R) (hF0 : Fl R) (h0 : 0 ≤ v3.toInt) (h7 : v3.toInt + 7 ≤ (L : Int)) (hN : ∀ (I : Im) (J : Jm) (R : Rm), Bd I → RI R → Fl R → P 1889 112 [(0, .ref 0), (1, .ref 1), (2, .ref 97), (3, .int v3)] [] I J R) : P 1563 112 [(0, .ref 0), (1, .ref 1), (2, .ref 97), (3, .int v3)] [] I J R := by
  have i_v3 := i32 v3
  refine ls_1563 hc v3 _ _ _ ?_
  have e1 : ((v3 + 1) : Int32).toInt = (v3.toInt) + (1) := ti_add rfl rfl (by omega)
  refine ⟨vp_of (a := (v3.toInt + 1)) e1 (by omega) (by omega), ?_⟩
  have z2 := i32 (xs (Int32.toNatClampNeg (v3 + 1)))
  have e3 : ((v3 + 2) : Int32).toInt = (v3.toInt) + (2) := ti_add rfl rfl (by omega)
  refine ⟨vp_of (a := (v3.toInt + 2)) e3 (by omega) (by omega), ?_⟩
  have z4 := i32 (xs (Int32.toNatClampNeg (v3 + 2)))
  refine ⟨⟨hF0, rfl⟩, ?_⟩
  refine sp_X11_reachAt hB0 hR0 (fun x5 y10 I6 J7 hB8 p9 => ?_)
  have i11 := i32 x5
  refine ⟨vp_of (a := (v3.toInt + 1)) e1 (by omega) (by omega), ?_⟩
  have z12 := i32 (xs (Int32.toNatClampNeg (v3 + 1)))
  refine ⟨vp_of (a := (v3.toInt + 2)) e3 (by omega) (by omega), ?_⟩
  have z13 := i32 (xs (Int32.toNatClampNeg (v3 + 2)))
  refine ⟨⟨hF0, rfl⟩, ?_⟩
  refine sp_X12_reachAt hB8 hR0 (fun x14 y19 I15 J16 hB17 p18 => ?_)
  have i20 := i32 x14
  exact hN _ _ R hB17 hR0 hF0
set_option maxHeartbeats 2000000 in
theorem lc_38 {Q : Nat → Qt} {P : Kt} {L : Nat} {xs : Nat → Int32} (hc : Cl (AM 640) false true L xs 2 112 kL_law Q P) (hL : L ≤ 3584) {v3 : Int32} {I : Im} {J : Jm} {R : Rm} (hB0 : Bd I) (hR0 : RI R) (hF0 : Fl R) (h0 : 0 ≤ v3.toInt) (h7 : v3.toInt + 7 ≤ (L : Int)) (hN : ∀ (I : Im) (J : Jm) (R : Rm), Bd I → RI R → Fl R → P 1889 112 [(0, .ref 0), (1, .ref 1), (2, .ref 97), (3, .int v3)] [] I J R) : P 1596 112 [(0, .ref 0), (1, .ref 1), (2, .ref 97), (3, .int v3)] [] I J R := by
  have i_v3 := i32 v3
  refine ls_1596 hc v3 _ _ _ ?_
  have e1 : ((v3 + 1) : Int32).toInt = (v3.toInt) + (1) := ti_add rfl rfl (by omega)
  refine ⟨vp_of (a := (v3.toInt + 1)) e1 (by omega) (by omega), ?_⟩
  have z2 := i32 (xs (Int32.toNatClampNeg (v3 + 1)))
  refine ⟨⟨hF0, rfl⟩, ?_⟩
  refine sp_X11_fill hB0 hR0 (fun x3 y8 I4 J5 hB6 p7 => ?_)
  have i9 := i32 x3
  refine ⟨vp_of (a := (v3.toInt + 1)) e1 (by omega) (by omega), ?_⟩
  have z10 := i32 (xs (Int32.toNatClampNeg (v3 + 1)))
  refine ⟨⟨hF0, rfl⟩, ?_⟩
  refine sp_X12_fill hB6 hR0 (fun x11 y16 I12 J13 hB14 p15 => ?_)
  have i17 := i32 x11
  exact hN _ _ R hB14 hR0 hF0
set_option maxHeartbeats 2000000 in
theorem lc_39 {Q : Nat → Qt} {P : Kt} {L : Nat} {xs : Nat → Int32} (hc : Cl (AM 640) false true L xs 2 112 kL_law Q P) (hL : L ≤ 3584) {v3 : Int32} {I : Im} {J : Jm} {R : Rm} (hB0 : Bd I) (hR0 : RI R) (hF0 : Fl R) (h0 : 0 ≤ v3.toInt) (h7 : v3.toInt + 7 ≤ (L : Int)) (hN : ∀ (I : Im) (J : Jm) (R : Rm), Bd I → RI R → Fl R → P 1889 112 [(0, .ref 0), (1, .ref 1), (2, .ref 97), (3, .int v3)] [] I J R) : P 1619 112 [(0, .ref 0), (1, .ref 1), (2, .ref 97), (3, .int v3)] [] I J R := by
  have i_v3 := i32 v3
  refine ls_1619 hc v3 _ _ _ ?_
  have e1 : ((v3 + 1) : Int32).toInt = (v3.toInt) + (1) := ti_add rfl rfl (by omega)
  refine ⟨vp_of (a := (v3.toInt + 1)) e1 (by omega) (by omega), ?_⟩
  have z2 := i32 (xs (Int32.toNatClampNeg (v3 + 1)))
  have e3 : ((v3 + 2) : Int32).toInt = (v3.toInt) + (2) := ti_add rfl rfl (by omega)
  refine ⟨vp_of (a := (v3.toInt + 2)) e3 (by omega) (by omega), ?_⟩
  have z4 := i32 (xs (Int32.toNatClampNeg (v3 + 2)))
  refine ⟨⟨hF0, rfl⟩, ?_⟩
  refine sp_X11_fillAt hB0 hR0 (fun x5 y10 I6 J7 hB8 p9 => ?_)
  have i11 := i32 x5
  refine ⟨vp_of (a := (v3.toInt + 1)) e1 (by omega) (by omega), ?_⟩
  have z12 := i32 (xs (Int32.toNatClampNeg (v3 + 1)))
  refine ⟨vp_of (a := (v3.toInt + 2)) e3 (by omega) (by omega), ?_⟩
  have z13 := i32 (xs (Int32.toNatClampNeg (v3 + 2)))
  refine ⟨⟨hF0, rfl⟩, ?_⟩
  refine sp_X12_fillAt hB8 hR0 (fun x14 y19 I15 J16 hB17 p18 => ?_)
  have i20 := i32 x14
  exact hN _ _ R hB17 hR0 hF0
set_option maxHeartbeats 2000000 in
theorem lc_40 {Q : Nat → Qt} {P : Kt} {L : Nat} {xs : Nat → Int32} (hc : Cl (AM 640) false true L xs 2 112 kL_law Q P) (hL : L ≤ 3584) {v3 : Int32} {I : Im} {J : Jm} {R : Rm} (hB0 : Bd I) (hR0 : RI R) (hF0 : Fl R) (h0 : 0 ≤ v3.toInt) (h7 : v3.toInt + 7 ≤ (L : Int)) (hN : ∀ (I : Im) (J : Jm) (R : Rm), Bd I → RI R → Fl R → P 1889 112 [(0, .ref 0), (1, .ref 1), (2, .ref 97), (3, .int v3)] [] I J R) : P 1652 112 [(0, .ref 0), (1, .ref 1), (2, .ref 97), (3, .int v3)] [] I J R := by
  have i_v3 := i32 v3
  refine ls_1652 hc v3 _ _ _ ?_
  have e1 : ((v3 + 1) : Int32).toInt = (v3.toInt) + (1) := ti_add rfl rfl (by omega)
  refine ⟨vp_of (a := (v3.toInt + 1)) e1 (by omega) (by omega), ?_⟩
  have z2 := i32 (xs (Int32.toNatClampNeg (v3 + 1)))
  refine ⟨⟨hF0, rfl⟩, ?_⟩
  refine sp_X11_plate hB0 hR0 (fun x3 y8 I4 J5 hB6 p7 => ?_)
  have i9 := i32 x3
  refine ⟨vp_of (a := (v3.toInt + 1)) e1 (by omega) (by omega), ?_⟩
  have z10 := i32 (xs (Int32.toNatClampNeg (v3 + 1)))
  refine ⟨⟨hF0, rfl⟩, ?_⟩
  refine sp_X12_plate hB6 hR0 (fun x11 y16 I12 J13 hB14 p15 => ?_)
  have i17 := i32 x11
  exact hN _ _ R hB14 hR0 hF0
set_option maxHeartbeats 2000000 in
theorem lc_41 {Q : Nat → Qt} {P : Kt} {L : Nat} {xs : Nat → Int32} (hc : Cl (AM 640) false true L xs 2 112 kL_law Q P) (hL : L ≤ 3584) {v3 : Int32} {I : Im} {J : Jm} {R : Rm} (hB0 : Bd I) (hR0 : RI R) (hF0 : Fl R) (h0 : 0 ≤ v3.toInt) (h7 : v3.toInt + 7 ≤ (L : Int)) (hN : ∀ (I : Im) (J : Jm) (R : Rm), Bd I → RI R → Fl R → P 1889 112 [(0, .ref 0), (1, .ref 1), (2, .ref 97), (3, .int v3)] [] I J R) : P 1675 112 [(0, .ref 0), (1, .ref 1), (2, .ref 97), (3, .int v3)] [] I J R := by
  have i_v3 := i32 v3
  refine ls_1675 hc v3 _ _ _ ?_
  have e1 : ((v3 + 1) : Int32).toInt = (v3.toInt) + (1) := ti_add rfl rfl (by omega)
  refine ⟨vp_of (a := (v3.toInt + 1)) e1 (by omega) (by omega), ?_⟩
  have z2 := i32 (xs (Int32.toNatClampNeg (v3 + 1)))
  refine ⟨⟨hF0, rfl⟩, ?_⟩
  refine sp_X11_plateMove hB0 hR0 (fun x3 y8 I4 J5 hB6 p7 => ?_)
  have i9 := i32 x3
  refine ⟨vp_of (a := (v3.toInt + 1)) e1 (by omega) (by omega), ?_⟩
  have z10 := i32 (xs (Int32.toNatClampNeg (v3 + 1)))
  refine ⟨⟨hF0, rfl⟩, ?_⟩
  refine sp_X12_plateMove hB6 hR0 (fun x11 y16 I12 J13 hB14 p15 => ?_)
  have i17 := i32 x11
  exact hN _ _ R hB14 hR0 hF0
set_option maxHeartbeats 2000000 in
theorem lc_42 {Q : Nat → Qt} {P : Kt} {L : Nat} {xs : Nat → Int32} (hc : Cl (AM 640) false true L xs 2 112 kL_law Q P) (hL : L ≤ 3584) {v3 : Int32} {I : Im} {J : Jm} {R : Rm} (hB0 : Bd I) (hR0 : RI R) (hF0 : Fl R) (h0 : 0 ≤ v3.toInt) (h7 : v3.toInt + 7 ≤ (L : Int)) (hN : ∀ (I : Im) (J : Jm) (R : Rm), Bd I → RI R → Fl R → P 1889 112 [(0, .ref 0), (1, .ref 1), (2, .ref 97), (3, .int v3)] [] I J R) : P 1698 112 [(0, .ref 0), (1, .ref 1), (2, .ref 97), (3, .int v3)] [] I J R := by
  have i_v3 := i32 v3
  refine ls_1698 hc v3 _ _ _ ?_
  have e1 : ((v3 + 1) : Int32).toInt = (v3.toInt) + (1) := ti_add rfl rfl (by omega)
  refine ⟨vp_of (a := (v3.toInt + 1)) e1 (by omega) (by omega), ?_⟩
  have z2 := i32 (xs (Int32.toNatClampNeg (v3 + 1)))
  have e3 : ((v3 + 2) : Int32).toInt = (v3.toInt) + (2) := ti_add rfl rfl (by omega)
  refine ⟨vp_of (a := (v3.toInt + 2)) e3 (by omega) (by omega), ?_⟩
  have z4 := i32 (xs (Int32.toNatClampNeg (v3 + 2)))
  have e5 : ((v3 + 3) : Int32).toInt = (v3.toInt) + (3) := ti_add rfl rfl (by omega)
  refine ⟨vp_of (a := (v3.toInt + 3)) e5 (by omega) (by omega), ?_⟩
  have z6 := i32 (xs (Int32.toNatClampNeg (v3 + 3)))
  have e7 : ((v3 + 4) : Int32).toInt = (v3.toInt) + (4) := ti_add rfl rfl (by omega)
  refine ⟨vp_of (a := (v3.toInt + 4)) e7 (by omega) (by omega), ?_⟩
  have z8 := i32 (xs (Int32.toNatClampNeg (v3 + 4)))
  refine ⟨⟨hF0, rfl⟩, ?_⟩
  refine sp_X11_luck hB0 hR0 (fun x9 y14 I10 J11 hB12 p13 => ?_)
  intro o15
  have i16 := i32 x9
  refine ⟨vp_of (a := (v3.toInt + 1)) e1 (by omega) (by omega), ?_⟩
  have z17 := i32 (xs (Int32.toNatClampNeg (v3 + 1)))
  refine ⟨vp_of (a := (v3.toInt + 2)) e3 (by omega) (by omega), ?_⟩
  have z18 := i32 (xs (Int32.toNatClampNeg (v3 + 2)))
  refine ⟨vp_of (a := (v3.toInt + 3)) e5 (by omega) (by omega), ?_⟩
  have z19 := i32 (xs (Int32.toNatClampNeg (v3 + 3)))
  refine ⟨vp_of (a := (v3.toInt + 4)) e7 (by omega) (by omega), ?_⟩
  have z20 := i32 (xs (Int32.toNatClampNeg (v3 + 4)))
  refine ⟨⟨hF0, rfl⟩, ?_⟩
  refine sp_X12_luck hB12 hR0 (fun x21 y26 I22 J23 hB24 p25 => ?_)
  intro o27
  have i28 := i32 x21
  exact hN _ _ R hB24 hR0 hF0
set_option maxHeartbeats 2000000 in
theorem lc_43 {Q : Nat → Qt} {P : Kt} {L : Nat} {xs : Nat → Int32} (hc : Cl (AM 640) false true L xs 2 112 kL_law Q P) (hL : L ≤ 3584) {v3 : Int32} {I : Im} {J : Jm} {R : Rm} (hB0 : Bd I) (hR0 : RI R) (hF0 : Fl R) (h0 : 0 ≤ v3.toInt) (h7 : v3.toInt + 7 ≤ (L : Int)) (hN : ∀ (I : Im) (J : Jm) (R : Rm), Bd I → RI R → Fl R → P 1889 112 [(0, .ref 0), (1, .ref 1), (2, .ref 97), (3, .int v3)] [] I J R) : P 1751 112 [(0, .ref 0), (1, .ref 1), (2, .ref 97), (3, .int v3)] [] I J R := by
  have i_v3 := i32 v3
  refine ls_1751 hc v3 _ _ _ ?_
  have e1 : ((v3 + 1) : Int32).toInt = (v3.toInt) + (1) := ti_add rfl rfl (by omega)
  refine ⟨vp_of (a := (v3.toInt + 1)) e1 (by omega) (by omega), ?_⟩
  have z2 := i32 (xs (Int32.toNatClampNeg (v3 + 1)))
  have e3 : ((v3 + 2) : Int32).toInt = (v3.toInt) + (2) := ti_add rfl rfl (by omega)
  refine ⟨vp_of (a := (v3.toInt + 2)) e3 (by omega) (by omega), ?_⟩
  have z4 := i32 (xs (Int32.toNatClampNeg (v3 + 2)))
  refine ⟨⟨hF0, rfl⟩, ?_⟩
  refine sp_X11_burnt hB0 hR0 (fun x5 y10 I6 J7 hB8 p9 => ?_)
  intro o11
  have i12 := i32 x5
  refine ⟨vp_of (a := (v3.toInt + 1)) e1 (by omega) (by omega), ?_⟩
  have z13 := i32 (xs (Int32.toNatClampNeg (v3 + 1)))
  refine ⟨vp_of (a := (v3.toInt + 2)) e3 (by omega) (by omega), ?_⟩
  have z14 := i32 (xs (Int32.toNatClampNeg (v3 + 2)))
  refine ⟨⟨hF0, rfl⟩, ?_⟩
  refine sp_X12_burnt hB8 hR0 (fun x15 y20 I16 J17 hB18 p19 => ?_)
  intro o21
  have i22 := i32 x15
  refine ⟨fun c23 => ?_, fun c23 => ?_⟩
  · skip
    have d24 : ((x5.toInt) : Int) = (x15.toInt) := ci_eq rfl rfl c23
    exact hN _ _ R hB18 hR0 hF0
  · skip
    have d25 : ¬ ((x5.toInt) : Int) = (x15.toInt) := ci_ne rfl rfl c23
    exfalso
    omega
set_option maxHeartbeats 2000000 in
theorem lc_44 {Q : Nat → Qt} {P : Kt} {L : Nat} {xs : Nat → Int32} (hc : Cl (AM 640) false true L xs 2 112 kL_law Q P) (hL : L ≤ 3584) {v3 : Int32} {I : Im} {J : Jm} {R : Rm} (hB0 : Bd I) (hR0 : RI R) (hF0 : Fl R) (h0 : 0 ≤ v3.toInt) (h7 : v3.toInt + 7 ≤ (L : Int)) (hN : ∀ (I : Im) (J : Jm) (R : Rm), Bd I → RI R → Fl R → P 1889 112 [(0, .ref 0), (1, .ref 1), (2, .ref 97), (3, .int v3)] [] I J R) : P 1784 112 [(0, .ref 0), (1, .ref 1), (2, .ref 97), (3, .int v3)] [] I J R := by
  have i_v3 := i32 v3
  refine ls_1784 hc v3 _ _ _ ?_
  have e1 : ((v3 + 1) : Int32).toInt = (v3.toInt) + (1) := ti_add rfl rfl (by omega)
  refine ⟨vp_of (a := (v3.toInt + 1)) e1 (by omega) (by omega), ?_⟩
  have z2 := i32 (xs (Int32.toNatClampNeg (v3 + 1)))
  refine ⟨⟨hF0, rfl⟩, ?_⟩
  refine sp_X11_live hB0 hR0 (fun x3 y8 I4 J5 hB6 p7 => ?_)
  have i9 := i32 x3
  refine ⟨vp_of (a := (v3.toInt + 1)) e1 (by omega) (by omega), ?_⟩
  have z10 := i32 (xs (Int32.toNatClampNeg (v3 + 1)))
  refine ⟨⟨hF0, rfl⟩, ?_⟩
  refine sp_X12_live hB6 hR0 (fun x11 y16 I12 J13 hB14 p15 => ?_)
  have i17 := i32 x11
  exact hN _ _ R hB14 hR0 hF0
set_option maxHeartbeats 2000000 in
theorem lc_45 {Q : Nat → Qt} {P : Kt} {L : Nat} {xs : Nat → Int32} (hc : Cl (AM 640) false true L xs 2 112 kL_law Q P) (hL : L ≤ 3584) {v3 : Int32} {I : Im} {J : Jm} {R : Rm} (hB0 : Bd I) (hR0 : RI R) (hF0 : Fl R) (h0 : 0 ≤ v3.toInt) (h7 : v3.toInt + 7 ≤ (L : Int)) (hN : ∀ (I : Im) (J : Jm) (R : Rm), Bd I → RI R → Fl R → P 1889 112 [(0, .ref 0), (1, .ref 1), (2, .ref 97), (3, .int v3)] [] I J R) : P 1807 112 [(0, .ref 0), (1, .ref 1), (2, .ref 97), (3, .int v3)] [] I J R := by
  have i_v3 := i32 v3
  refine ls_1807 hc v3 _ _ _ ?_
  have e1 : ((v3 + 1) : Int32).toInt = (v3.toInt) + (1) := ti_add rfl rfl (by omega)
  refine ⟨vp_of (a := (v3.toInt + 1)) e1 (by omega) (by omega), ?_⟩
  have z2 := i32 (xs (Int32.toNatClampNeg (v3 + 1)))
  refine ⟨⟨hF0, rfl⟩, ?_⟩
  refine sp_X11_lived hB0 hR0 (fun x3 y8 I4 J5 hB6 p7 => ?_)
  have i9 := i32 x3
  refine ⟨vp_of (a := (v3.toInt + 1)) e1 (by omega) (by omega), ?_⟩
  have z10 := i32 (xs (Int32.toNatClampNeg (v3 + 1)))
  refine ⟨⟨hF0, rfl⟩, ?_⟩
  refine sp_X12_lived hB6 hR0 (fun x11 y16 I12 J13 hB14 p15 => ?_)
  have i17 := i32 x11
  exact hN _ _ R hB14 hR0 hF0
set_option maxHeartbeats 2000000 in
theorem lc_46 {Q : Nat → Qt} {P : Kt} {L : Nat} {xs : Nat → Int32} (hc : Cl (AM 640) false true L xs 2 112 kL_law Q P) (hL : L ≤ 3584) {v3 : Int32} {I : Im} {J : Jm} {R : Rm} (hB0 : Bd I) (hR0 : RI R) (hF0 : Fl R) (h0 : 0 ≤ v3.toInt) (h7 : v3.toInt + 7 ≤ (L : Int)) (hN : ∀ (I : Im) (J : Jm) (R : Rm), Bd I → RI R → Fl R → P 1889 112 [(0, .ref 0), (1, .ref 1), (2, .ref 97), (3, .int v3)] [] I J R) : P 1830 112 [(0, .ref 0), (1, .ref 1), (2, .ref 97), (3, .int v3)] [] I J R := by
  have i_v3 := i32 v3
  refine ls_1830 hc v3 _ _ _ ?_
  have e1 : ((v3 + 1) : Int32).toInt = (v3.toInt) + (1) := ti_add rfl rfl (by omega)
  refine ⟨vp_of (a := (v3.toInt + 1)) e1 (by omega) (by omega), ?_⟩
  have z2 := i32 (xs (Int32.toNatClampNeg (v3 + 1)))
  have e3 : ((v3 + 2) : Int32).toInt = (v3.toInt) + (2) := ti_add rfl rfl (by omega)
  refine ⟨vp_of (a := (v3.toInt + 2)) e3 (by omega) (by omega), ?_⟩
  have z4 := i32 (xs (Int32.toNatClampNeg (v3 + 2)))
  refine ⟨⟨hF0, rfl⟩, ?_⟩
  refine sp_X11_mean hB0 hR0 (fun x5 y10 I6 J7 hB8 p9 => ?_)
  intro o11
  have i12 := i32 x5
  refine ⟨vp_of (a := (v3.toInt + 1)) e1 (by omega) (by omega), ?_⟩
  have z13 := i32 (xs (Int32.toNatClampNeg (v3 + 1)))
  refine ⟨vp_of (a := (v3.toInt + 2)) e3 (by omega) (by omega), ?_⟩
  have z14 := i32 (xs (Int32.toNatClampNeg (v3 + 2)))
  refine ⟨⟨hF0, rfl⟩, ?_⟩
  refine sp_X12_mean hB8 hR0 (fun x15 y20 I16 J17 hB18 p19 => ?_)
  intro o21
  have i22 := i32 x15
  exact hN _ _ R hB18 hR0 hF0
set_option maxHeartbeats 2000000 in
theorem lc_47 {Q : Nat → Qt} {P : Kt} {L : Nat} {xs : Nat → Int32} (hc : Cl (AM 640) false true L xs 2 112 kL_law Q P) (hL : L ≤ 3584) {v3 : Int32} {I : Im} {J : Jm} {R : Rm} (hB0 : Bd I) (hR0 : RI R) (hF0 : Fl R) (h0 : 0 ≤ v3.toInt) (h7 : v3.toInt + 7 ≤ (L : Int)) (hN : ∀ (I : Im) (J : Jm) (R : Rm), Bd I → RI R → Fl R → P 1889 112 [(0, .ref 0), (1, .ref 1), (2, .ref 97), (3, .int v3)] [] I J R) : P 1863 112 [(0, .ref 0), (1, .ref 1), (2, .ref 97), (3, .int v3)] [] I J R := by
  have i_v3 := i32 v3
  refine ls_1863 hc v3 _ _ _ ?_
  refine ⟨⟨hF0, rfl⟩, ?_⟩
  refine sp_X11_mark hB0 hR0 (fun x1 y6 I2 J3 hB4 p5 => ?_)
  have i7 := i32 x1
  refine ⟨⟨hF0, rfl⟩, ?_⟩
  refine sp_X12_mark hB4 hR0 (fun x8 y13 I9 J10 hB11 p12 => ?_)
  have i14 := i32 x8
  exact hN _ _ R hB11 hR0 hF0
set_option maxHeartbeats 2000000 in
theorem lc_48 {Q : Nat → Qt} {P : Kt} {L : Nat} {xs : Nat → Int32} (hc : Cl (AM 640) false true L xs 2 112 kL_law Q P) (hL : L ≤ 3584) {v3 : Int32} {I : Im} {J : Jm} {R : Rm} (hB0 : Bd I) (hR0 : RI R) (hF0 : Fl R) (h0 : 0 ≤ v3.toInt) (h7 : v3.toInt + 7 ≤ (L : Int)) (hN : ∀ (I : Im) (J : Jm) (R : Rm), Bd I → RI R → Fl R → P 1889 112 [(0, .ref 0), (1, .ref 1), (2, .ref 97), (3, .int v3)] [] I J R) : P 1876 112 [(0, .ref 0), (1, .ref 1), (2, .ref 97), (3, .int v3)] [] I J R := by
  have i_v3 := i32 v3
  refine ls_1876 hc v3 _ _ _ ?_
  refine ⟨⟨hF0, rfl⟩, ?_⟩
  refine sp_X11_back hB0 hR0 (fun x1 y6 I2 J3 hB4 p5 => ?_)
  have i7 := i32 x1
  refine ⟨⟨hF0, rfl⟩, ?_⟩
  refine sp_X12_back hB4 hR0 (fun x8 y13 I9 J10 hB11 p12 => ?_)
  have i14 := i32 x8
  exact hN _ _ R hB11 hR0 hF0
