noncomputable def zk_X0_init_85 : List (Nat × Nat × Int32) := []
noncomputable def lk_X0_init_85 : List (Nat × Nat × Nat) := (85, 8, 90) :: ((85, 7, 89) :: ((85, 6, 88) :: ((85, 5, 87) :: ((85, 0, 86) :: ([])))))
set_option maxHeartbeats 4000000 in
set_option maxRecDepth 100000 in
theorem ct_X0_init_85 {d : Nat} {Q : Qt} {I : Im} {J : Jm} {R : Rm} (hB : BZ I) (hQ : ∀ (I2 : Im) (J2 : Jm) (R2 : Rm), BZ I2 → FR 85 R R2 → RK lk_X0_init_85 R2 → FI 85 I I2 → KI zk_X0_init_85 I2 → FJ 85 J J2 → True → Q 0 0 I2 J2 R2) : AM (d + 1) 0 85 [.ref 85] I J R Q := by
  refine amc_of (k := kX0_init) rfl rfl rfl rfl rfl rfl (Nat.le_of_ble_eq_true rfl) (fun P hc => ?_)
  refine cs_X0_init_85_0_85 hc _ _ _ ?_
  refine ⟨rfl, ?_⟩
  have hB1 : BZ (zI I 86) := hB.z
  have hZ2 : KI ([]) (zI I 86) := (KI.nil (I := I)).z rfl
  have hI3 : FI 85 I (zI I 86) := (FI.refl 85 I).z rfl
  have hJ4 : FJ 85 J (zJ J 86) := (FJ.refl 85 J).z rfl
  have hK5 : RK ([]) (zR R 86) := (RK.nil (R := R)).z rfl
  have hF6 : FR 85 R (zR R 86) := (FR.refl 85 R).z rfl
  have hK7 : RK ((85, 0, 86) :: ([])) (uR (zR R 86) 85 0 86) := hK5.u rfl
  have hF8 : FR 85 R (uR (zR R 86) 85 0 86) := hF6.u rfl
  have hB9 : BZ (uI (zI I 86) 85 1 4) := hB1.kw rfl rfl rfl
  have hZ10 : KI ([]) (uI (zI I 86) 85 1 4) := hZ2.w rfl
  have hI11 : FI 85 I (uI (zI I 86) 85 1 4) := hI3.w rfl
  have hB12 : BZ (uI (uI (zI I 86) 85 1 4) 85 2 1073741823) := hB9.kw rfl rfl rfl
  have hZ13 : KI ([]) (uI (uI (zI I 86) 85 1 4) 85 2 1073741823) := hZ10.w rfl
  have hI14 : FI 85 I (uI (uI (zI I 86) 85 1 4) 85 2 1073741823) := hI11.w rfl
  have hB15 : BZ (uI (uI (uI (zI I 86) 85 1 4) 85 2 1073741823) 85 3 0) := hB12.kw rfl rfl rfl
  have hZ16 : KI ([]) (uI (uI (uI (zI I 86) 85 1 4) 85 2 1073741823) 85 3 0) := hZ13.w rfl
  have hI17 : FI 85 I (uI (uI (uI (zI I 86) 85 1 4) 85 2 1073741823) 85 3 0) := hI14.w rfl
  have hB18 : BZ (uI (uI (uI (uI (zI I 86) 85 1 4) 85 2 1073741823) 85 3 0) 85 4 0) := hB15.kw rfl rfl rfl
  have hZ19 : KI ([]) (uI (uI (uI (uI (zI I 86) 85 1 4) 85 2 1073741823) 85 3 0) 85 4 0) := hZ16.w rfl
  have hI20 : FI 85 I (uI (uI (uI (uI (zI I 86) 85 1 4) 85 2 1073741823) 85 3 0) 85 4 0) := hI17.w rfl
  refine ⟨rfl, ?_⟩
  have hB21 : BZ (zI (uI (uI (uI (uI (zI I 86) 85 1 4) 85 2 1073741823) 85 3 0) 85 4 0) 87) := hB18.z
  have hZ22 : KI ([]) (zI (uI (uI (uI (uI (zI I 86) 85 1 4) 85 2 1073741823) 85 3 0) 85 4 0) 87) := hZ19.z rfl
  have hI23 : FI 85 I (zI (uI (uI (uI (uI (zI I 86) 85 1 4) 85 2 1073741823) 85 3 0) 85 4 0) 87) := hI20.z rfl
  have hJ24 : FJ 85 J (zJ (zJ J 86) 87) := hJ4.z rfl
  have hK25 : RK ((85, 0, 86) :: ([])) (zR (uR (zR R 86) 85 0 86) 87) := hK7.z rfl
  have hF26 : FR 85 R (zR (uR (zR R 86) 85 0 86) 87) := hF8.z rfl
  have hK27 : RK ((85, 5, 87) :: ((85, 0, 86) :: ([]))) (uR (zR (uR (zR R 86) 85 0 86) 87) 85 5 87) := hK25.u rfl
  have hF28 : FR 85 R (uR (zR (uR (zR R 86) 85 0 86) 87) 85 5 87) := hF26.u rfl
  refine ⟨rfl, ?_⟩
  have hB29 : BZ (zI (zI (uI (uI (uI (uI (zI I 86) 85 1 4) 85 2 1073741823) 85 3 0) 85 4 0) 87) 88) := hB21.z
  have hZ30 : KI ([]) (zI (zI (uI (uI (uI (uI (zI I 86) 85 1 4) 85 2 1073741823) 85 3 0) 85 4 0) 87) 88) := hZ22.z rfl
  have hI31 : FI 85 I (zI (zI (uI (uI (uI (uI (zI I 86) 85 1 4) 85 2 1073741823) 85 3 0) 85 4 0) 87) 88) := hI23.z rfl
  have hJ32 : FJ 85 J (zJ (zJ (zJ J 86) 87) 88) := hJ24.z rfl
  have hK33 : RK ((85, 5, 87) :: ((85, 0, 86) :: ([]))) (zR (uR (zR (uR (zR R 86) 85 0 86) 87) 85 5 87) 88) := hK27.z rfl
  have hF34 : FR 85 R (zR (uR (zR (uR (zR R 86) 85 0 86) 87) 85 5 87) 88) := hF28.z rfl
  have hK35 : RK ((85, 6, 88) :: ((85, 5, 87) :: ((85, 0, 86) :: ([])))) (uR (zR (uR (zR (uR (zR R 86) 85 0 86) 87) 85 5 87) 88) 85 6 88) := hK33.u rfl
  have hF36 : FR 85 R (uR (zR (uR (zR (uR (zR R 86) 85 0 86) 87) 85 5 87) 88) 85 6 88) := hF34.u rfl
  refine ⟨rfl, ?_⟩
  have hB37 : BZ (zI (zI (zI (uI (uI (uI (uI (zI I 86) 85 1 4) 85 2 1073741823) 85 3 0) 85 4 0) 87) 88) 89) := hB29.z
  have hZ38 : KI ([]) (zI (zI (zI (uI (uI (uI (uI (zI I 86) 85 1 4) 85 2 1073741823) 85 3 0) 85 4 0) 87) 88) 89) := hZ30.z rfl
  have hI39 : FI 85 I (zI (zI (zI (uI (uI (uI (uI (zI I 86) 85 1 4) 85 2 1073741823) 85 3 0) 85 4 0) 87) 88) 89) := hI31.z rfl
  have hJ40 : FJ 85 J (zJ (zJ (zJ (zJ J 86) 87) 88) 89) := hJ32.z rfl
  have hK41 : RK ((85, 6, 88) :: ((85, 5, 87) :: ((85, 0, 86) :: ([])))) (zR (uR (zR (uR (zR (uR (zR R 86) 85 0 86) 87) 85 5 87) 88) 85 6 88) 89) := hK35.z rfl
  have hF42 : FR 85 R (zR (uR (zR (uR (zR (uR (zR R 86) 85 0 86) 87) 85 5 87) 88) 85 6 88) 89) := hF36.z rfl
  have hK43 : RK ((85, 7, 89) :: ((85, 6, 88) :: ((85, 5, 87) :: ((85, 0, 86) :: ([]))))) (uR (zR (uR (zR (uR (zR (uR (zR R 86) 85 0 86) 87) 85 5 87) 88) 85 6 88) 89) 85 7 89) := hK41.u rfl
  have hF44 : FR 85 R (uR (zR (uR (zR (uR (zR (uR (zR R 86) 85 0 86) 87) 85 5 87) 88) 85 6 88) 89) 85 7 89) := hF42.u rfl
  refine ⟨rfl, ?_⟩
  have hB45 : BZ (zI (zI (zI (zI (uI (uI (uI (uI (zI I 86) 85 1 4) 85 2 1073741823) 85 3 0) 85 4 0) 87) 88) 89) 90) := hB37.z
  have hZ46 : KI ([]) (zI (zI (zI (zI (uI (uI (uI (uI (zI I 86) 85 1 4) 85 2 1073741823) 85 3 0) 85 4 0) 87) 88) 89) 90) := hZ38.z rfl
  have hI47 : FI 85 I (zI (zI (zI (zI (uI (uI (uI (uI (zI I 86) 85 1 4) 85 2 1073741823) 85 3 0) 85 4 0) 87) 88) 89) 90) := hI39.z rfl
  have hJ48 : FJ 85 J (zJ (zJ (zJ (zJ (zJ J 86) 87) 88) 89) 90) := hJ40.z rfl
  have hK49 : RK ((85, 7, 89) :: ((85, 6, 88) :: ((85, 5, 87) :: ((85, 0, 86) :: ([]))))) (zR (uR (zR (uR (zR (uR (zR (uR (zR R 86) 85 0 86) 87) 85 5 87) 88) 85 6 88) 89) 85 7 89) 90) := hK43.z rfl
  have hF50 : FR 85 R (zR (uR (zR (uR (zR (uR (zR (uR (zR R 86) 85 0 86) 87) 85 5 87) 88) 85 6 88) 89) 85 7 89) 90) := hF44.z rfl
  have hK51 : RK ((85, 8, 90) :: ((85, 7, 89) :: ((85, 6, 88) :: ((85, 5, 87) :: ((85, 0, 86) :: ([])))))) (uR (zR (uR (zR (uR (zR (uR (zR (uR (zR R 86) 85 0 86) 87) 85 5 87) 88) 85 6 88) 89) 85 7 89) 90) 85 8 90) := hK49.u rfl
  have hF52 : FR 85 R (uR (zR (uR (zR (uR (zR (uR (zR (uR (zR R 86) 85 0 86) 87) 85 5 87) 88) 85 6 88) 89) 85 7 89) 90) 85 8 90) := hF50.u rfl
  exact ⟨rfl, fun z => absurd z (by decide), hQ _ _ _ hB45 hF52 hK51 hI47 hZ46 hJ48 trivial⟩
noncomputable def zk_X2_init_91 : List (Nat × Nat × Int32) := []
noncomputable def lk_X2_init_91 : List (Nat × Nat × Nat) := (91, 7, 96) :: ((91, 6, 95) :: ((91, 5, 94) :: ((91, 4, 93) :: ((91, 3, 92) :: ([])))))
set_option maxHeartbeats 4000000 in
set_option maxRecDepth 100000 in
theorem ct_X2_init_91 {d : Nat} {Q : Qt} {I : Im} {J : Jm} {R : Rm} (hB : BZ I) (hQ : ∀ (I2 : Im) (J2 : Jm) (R2 : Rm), BZ I2 → FR 91 R R2 → RK lk_X2_init_91 R2 → FI 91 I I2 → KI zk_X2_init_91 I2 → FJ 91 J J2 → True → Q 0 0 I2 J2 R2) : AM (d + 1) 27 91 [.ref 91] I J R Q := by
  refine amc_of (k := kX2_init) rfl rfl rfl rfl rfl rfl (Nat.le_of_ble_eq_true rfl) (fun P hc => ?_)
  refine cs_X2_init_91_0_91 hc _ _ _ ?_
  refine ⟨Or.inl rfl, ?_⟩
  have hB1 : BZ (uI I 91 0 0) := hB.kw rfl rfl rfl
  have hZ2 : KI ([]) (uI I 91 0 0) := (KI.nil (I := I)).w rfl
  have hI3 : FI 91 I (uI I 91 0 0) := (FI.refl 91 I).w rfl
  have hB4 : BZ (uI (uI I 91 0 0) 91 1 0) := hB1.kw rfl rfl rfl
  have hZ5 : KI ([]) (uI (uI I 91 0 0) 91 1 0) := hZ2.w rfl
  have hI6 : FI 91 I (uI (uI I 91 0 0) 91 1 0) := hI3.w rfl
  have hB7 : BZ (uI (uI (uI I 91 0 0) 91 1 0) 91 2 0) := hB4.kw rfl rfl rfl
  have hZ8 : KI ([]) (uI (uI (uI I 91 0 0) 91 1 0) 91 2 0) := hZ5.w rfl
  have hI9 : FI 91 I (uI (uI (uI I 91 0 0) 91 1 0) 91 2 0) := hI6.w rfl
  refine ⟨rfl, ?_⟩
  have hB10 : BZ (zI (uI (uI (uI I 91 0 0) 91 1 0) 91 2 0) 92) := hB7.z
  have hZ11 : KI ([]) (zI (uI (uI (uI I 91 0 0) 91 1 0) 91 2 0) 92) := hZ8.z rfl
  have hI12 : FI 91 I (zI (uI (uI (uI I 91 0 0) 91 1 0) 91 2 0) 92) := hI9.z rfl
  have hJ13 : FJ 91 J (zJ J 92) := (FJ.refl 91 J).z rfl
  have hK14 : RK ([]) (zR R 92) := (RK.nil (R := R)).z rfl
  have hF15 : FR 91 R (zR R 92) := (FR.refl 91 R).z rfl
  have hK16 : RK ((91, 3, 92) :: ([])) (uR (zR R 92) 91 3 92) := hK14.u rfl
  have hF17 : FR 91 R (uR (zR R 92) 91 3 92) := hF15.u rfl
  refine ⟨rfl, ?_⟩
  have hB18 : BZ (zI (zI (uI (uI (uI I 91 0 0) 91 1 0) 91 2 0) 92) 93) := hB10.z
  have hZ19 : KI ([]) (zI (zI (uI (uI (uI I 91 0 0) 91 1 0) 91 2 0) 92) 93) := hZ11.z rfl
  have hI20 : FI 91 I (zI (zI (uI (uI (uI I 91 0 0) 91 1 0) 91 2 0) 92) 93) := hI12.z rfl
  have hJ21 : FJ 91 J (zJ (zJ J 92) 93) := hJ13.z rfl
  have hK22 : RK ((91, 3, 92) :: ([])) (zR (uR (zR R 92) 91 3 92) 93) := hK16.z rfl
  have hF23 : FR 91 R (zR (uR (zR R 92) 91 3 92) 93) := hF17.z rfl
  have hK24 : RK ((91, 4, 93) :: ((91, 3, 92) :: ([]))) (uR (zR (uR (zR R 92) 91 3 92) 93) 91 4 93) := hK22.u rfl
  have hF25 : FR 91 R (uR (zR (uR (zR R 92) 91 3 92) 93) 91 4 93) := hF23.u rfl
  refine ⟨rfl, ?_⟩
  have hB26 : BZ (zI (zI (zI (uI (uI (uI I 91 0 0) 91 1 0) 91 2 0) 92) 93) 94) := hB18.z
  have hZ27 : KI ([]) (zI (zI (zI (uI (uI (uI I 91 0 0) 91 1 0) 91 2 0) 92) 93) 94) := hZ19.z rfl
  have hI28 : FI 91 I (zI (zI (zI (uI (uI (uI I 91 0 0) 91 1 0) 91 2 0) 92) 93) 94) := hI20.z rfl
  have hJ29 : FJ 91 J (zJ (zJ (zJ J 92) 93) 94) := hJ21.z rfl
  have hK30 : RK ((91, 4, 93) :: ((91, 3, 92) :: ([]))) (zR (uR (zR (uR (zR R 92) 91 3 92) 93) 91 4 93) 94) := hK24.z rfl
  have hF31 : FR 91 R (zR (uR (zR (uR (zR R 92) 91 3 92) 93) 91 4 93) 94) := hF25.z rfl
  have hK32 : RK ((91, 5, 94) :: ((91, 4, 93) :: ((91, 3, 92) :: ([])))) (uR (zR (uR (zR (uR (zR R 92) 91 3 92) 93) 91 4 93) 94) 91 5 94) := hK30.u rfl
  have hF33 : FR 91 R (uR (zR (uR (zR (uR (zR R 92) 91 3 92) 93) 91 4 93) 94) 91 5 94) := hF31.u rfl
  refine ⟨rfl, ?_⟩
  have hB34 : BZ (zI (zI (zI (zI (uI (uI (uI I 91 0 0) 91 1 0) 91 2 0) 92) 93) 94) 95) := hB26.z
  have hZ35 : KI ([]) (zI (zI (zI (zI (uI (uI (uI I 91 0 0) 91 1 0) 91 2 0) 92) 93) 94) 95) := hZ27.z rfl
  have hI36 : FI 91 I (zI (zI (zI (zI (uI (uI (uI I 91 0 0) 91 1 0) 91 2 0) 92) 93) 94) 95) := hI28.z rfl
  have hJ37 : FJ 91 J (zJ (zJ (zJ (zJ J 92) 93) 94) 95) := hJ29.z rfl
  have hK38 : RK ((91, 5, 94) :: ((91, 4, 93) :: ((91, 3, 92) :: ([])))) (zR (uR (zR (uR (zR (uR (zR R 92) 91 3 92) 93) 91 4 93) 94) 91 5 94) 95) := hK32.z rfl
  have hF39 : FR 91 R (zR (uR (zR (uR (zR (uR (zR R 92) 91 3 92) 93) 91 4 93) 94) 91 5 94) 95) := hF33.z rfl
  have hK40 : RK ((91, 6, 95) :: ((91, 5, 94) :: ((91, 4, 93) :: ((91, 3, 92) :: ([]))))) (uR (zR (uR (zR (uR (zR (uR (zR R 92) 91 3 92) 93) 91 4 93) 94) 91 5 94) 95) 91 6 95) := hK38.u rfl
  have hF41 : FR 91 R (uR (zR (uR (zR (uR (zR (uR (zR R 92) 91 3 92) 93) 91 4 93) 94) 91 5 94) 95) 91 6 95) := hF39.u rfl
  refine ⟨rfl, ?_⟩
  have hB42 : BZ (zI (zI (zI (zI (zI (uI (uI (uI I 91 0 0) 91 1 0) 91 2 0) 92) 93) 94) 95) 96) := hB34.z
  have hZ43 : KI ([]) (zI (zI (zI (zI (zI (uI (uI (uI I 91 0 0) 91 1 0) 91 2 0) 92) 93) 94) 95) 96) := hZ35.z rfl
  have hI44 : FI 91 I (zI (zI (zI (zI (zI (uI (uI (uI I 91 0 0) 91 1 0) 91 2 0) 92) 93) 94) 95) 96) := hI36.z rfl
  have hJ45 : FJ 91 J (zJ (zJ (zJ (zJ (zJ J 92) 93) 94) 95) 96) := hJ37.z rfl
  have hK46 : RK ((91, 6, 95) :: ((91, 5, 94) :: ((91, 4, 93) :: ((91, 3, 92) :: ([]))))) (zR (uR (zR (uR (zR (uR (zR (uR (zR R 92) 91 3 92) 93) 91 4 93) 94) 91 5 94) 95) 91 6 95) 96) := hK40.z rfl
  have hF47 : FR 91 R (zR (uR (zR (uR (zR (uR (zR (uR (zR R 92) 91 3 92) 93) 91 4 93) 94) 91 5 94) 95) 91 6 95) 96) := hF41.z rfl
  have hK48 : RK ((91, 7, 96) :: ((91, 6, 95) :: ((91, 5, 94) :: ((91, 4, 93) :: ((91, 3, 92) :: ([])))))) (uR (zR (uR (zR (uR (zR (uR (zR (uR (zR R 92) 91 3 92) 93) 91 4 93) 94) 91 5 94) 95) 91 6 95) 96) 91 7 96) := hK46.u rfl
  have hF49 : FR 91 R (uR (zR (uR (zR (uR (zR (uR (zR (uR (zR R 92) 91 3 92) 93) 91 4 93) 94) 91 5 94) 95) 91 6 95) 96) 91 7 96) := hF47.u rfl
  exact ⟨rfl, fun z => absurd z (by decide), hQ _ _ _ hB42 hF49 hK48 hI44 hZ43 hJ45 trivial⟩
noncomputable def zk_X11_init_1 : List (Nat × Nat × Int32) := zk_X2_init_91 ++ (zk_X0_init_85 ++ (zk_X2_init_79 ++ (zk_X0_init_73 ++ (zk_X2_init_67 ++ (zk_X0_init_61 ++ (zk_X10_init_59 ++ (zk_X10_init_57 ++ (zk_X10_init_55 ++ (zk_X10_init_53 ++ (zk_X4_init_51 ++ (zk_X4_init_49 ++ (zk_X9_init_45 ++ (zk_X5_init_42 ++ (zk_X8_init_39 ++ (zk_X7_init_35 ++ (zk_X2_init_27 ++ (zk_X2_init_21 ++ (zk_X0_init_15 ++ (zk_X0_init_9 ++ (zk_X3_init_7 ++ (zk_X1_init_6 ++ (zk_X6_init_3 ++ ([])))))))))))))))))))))))
noncomputable def lk_X11_init_1 : List (Nat × Nat × Nat) := (34, 2, 91) :: (lk_X2_init_91 ++ ((33, 2, 85) :: (lk_X0_init_85 ++ ((34, 1, 79) :: (lk_X2_init_79 ++ ((33, 1, 73) :: (lk_X0_init_73 ++ ((34, 0, 67) :: (lk_X2_init_67 ++ ((33, 0, 61) :: (lk_X0_init_61 ++ ((2, 3, 59) :: (lk_X10_init_59 ++ ((2, 2, 57) :: (lk_X10_init_57 ++ ((2, 1, 55) :: (lk_X10_init_55 ++ ((2, 0, 53) :: (lk_X10_init_53 ++ ((1, 19, 51) :: (lk_X4_init_51 ++ ((1, 18, 49) :: (lk_X4_init_49 ++ ((1, 17, 45) :: (lk_X9_init_45 ++ ((1, 16, 42) :: (lk_X5_init_42 ++ ((1, 15, 39) :: (lk_X8_init_39 ++ ((1, 14, 35) :: (lk_X7_init_35 ++ ((1, 12, 34) :: ((1, 11, 33) :: ((1, 10, 27) :: (lk_X2_init_27 ++ ((1, 9, 21) :: (lk_X2_init_21 ++ ((1, 8, 15) :: (lk_X0_init_15 ++ ((1, 7, 9) :: (lk_X0_init_9 ++ ((1, 6, 7) :: (lk_X3_init_7 ++ ((1, 5, 6) :: ((1, 4, 3) :: (lk_X6_init_3 ++ ((1, 3, 2) :: ([]))))))))))))))))))))))))))))))))))))))))))))))))
set_option maxHeartbeats 4000000 in
set_option maxRecDepth 100000 in
theorem ct_X11_init_1 {d : Nat} {Q : Qt} {I : Im} {J : Jm} {R : Rm} (hB : BZ I) (hQ : ∀ (I2 : Im) (J2 : Jm) (R2 : Rm), BZ I2 → FR 1 R R2 → RK lk_X11_init_1 R2 → FI 1 I I2 → KI zk_X11_init_1 I2 → FJ 1 J J2 → (J2 47 0 = 0 ∧ ∀ k, k < 22 → J2 5 k = rsv.getD k 0) → Q 0 0 I2 J2 R2) : AM (d + 7) 99 1 [.ref 1] I J R Q := by
  refine amc_of (k := kX11_init) rfl rfl rfl rfl rfl rfl (Nat.le_of_ble_eq_true rfl) (fun P hc => ?_)
  refine cs_X11_init_1_0_1 hc _ _ _ ?_
  have hB1 : BZ (uI I 1 0 0) := hB.kw rfl rfl rfl
  have hZ2 : KI ([]) (uI I 1 0 0) := (KI.nil (I := I)).w rfl
  have hI3 : FI 1 I (uI I 1 0 0) := (FI.refl 1 I).w rfl
  have hJ4 : FJ 1 J (uJ J 1 1 0) := (FJ.refl 1 J).w rfl
  have hJ5 : FJ 1 J (uJ (uJ J 1 1 0) 1 2 1) := hJ4.w rfl
  refine ⟨rfl, ?_⟩
  have hB6 : BZ (zI (uI I 1 0 0) 2) := hB1.z
  have hZ7 : KI ([]) (zI (uI I 1 0 0) 2) := hZ2.z rfl
  have hI8 : FI 1 I (zI (uI I 1 0 0) 2) := hI3.z rfl
  have hJ9 : FJ 1 J (zJ (uJ (uJ J 1 1 0) 1 2 1) 2) := hJ5.z rfl
  have hK10 : RK ([]) (zR R 2) := (RK.nil (R := R)).z rfl
  have hF11 : FR 1 R (zR R 2) := (FR.refl 1 R).z rfl
  have hK12 : RK ((1, 3, 2) :: ([])) (uR (zR R 2) 1 3 2) := hK10.u rfl
  have hF13 : FR 1 R (uR (zR R 2) 1 3 2) := hF11.u rfl
  have hB14 : BZ (zI (zI (uI I 1 0 0) 2) 3) := hB6.z
  have hZ15 : KI ([]) (zI (zI (uI I 1 0 0) 2) 3) := hZ7.z rfl
  have hI16 : FI 1 I (zI (zI (uI I 1 0 0) 2) 3) := hI8.z rfl
  have hJ17 : FJ 1 J (zJ (zJ (uJ (uJ J 1 1 0) 1 2 1) 2) 3) := hJ9.z rfl
  have hK18 : RK ((1, 3, 2) :: ([])) (zR (uR (zR R 2) 1 3 2) 3) := hK12.z rfl
  have hF19 : FR 1 R (zR (uR (zR R 2) 1 3 2) 3) := hF13.z rfl
  refine ct_X6_init_3 hB14 (fun I20 J21 R22 hB23 hF24 hK25 hI26 hZ27 hJ28 jz29 => ?_)
  have hZ30 : KI (zk_X6_init_3 ++ ([])) I20 := hZ27.app (hZ15.fr hI26 rfl)
  have hI31 : FI 1 I I20 := fun o ho => (hI26 o (by omega)).trans (hI16 o ho)
  have hJ32 : FJ 1 J J21 := fun o ho => (hJ28 o (by omega)).trans (hJ17 o ho)
  have hK33 : RK (lk_X6_init_3 ++ ((1, 3, 2) :: ([]))) R22 := hK25.app (hK18.fr hF24 rfl)
  have hF34 : FR 1 R R22 := fun o ho => (hF24 o (by omega)).trans (hF19 o ho)
  have hK35 : RK ((1, 4, 3) :: (lk_X6_init_3 ++ ((1, 3, 2) :: ([])))) (uR R22 1 4 3) := hK33.u rfl
  have hF36 : FR 1 R (uR R22 1 4 3) := hF34.u rfl
  have hB37 : BZ (zI I20 6) := hB23.z
  have hZ38 : KI (zk_X6_init_3 ++ ([])) (zI I20 6) := hZ30.z rfl
  have hI39 : FI 1 I (zI I20 6) := hI31.z rfl
  have hJ40 : FJ 1 J (zJ J21 6) := hJ32.z rfl
  have jf41 : ∀ k, k < 22 → (zJ J21 6) 5 k = rsv.getD k 0 := J5.z jz29 rfl
  have hK42 : RK ((1, 4, 3) :: (lk_X6_init_3 ++ ((1, 3, 2) :: ([])))) (zR (uR R22 1 4 3) 6) := hK35.z rfl
  have hF43 : FR 1 R (zR (uR R22 1 4 3) 6) := hF36.z rfl
  refine ct_X1_init_6 hB37 (fun I44 J45 R46 hB47 hF48 hK49 hI50 hZ51 hJ52 jz53 => ?_)
  have hZ54 : KI (zk_X1_init_6 ++ (zk_X6_init_3 ++ ([]))) I44 := hZ51.app (hZ38.fr hI50 rfl)
  have hI55 : FI 1 I I44 := fun o ho => (hI50 o (by omega)).trans (hI39 o ho)
  have hJ56 : FJ 1 J J45 := fun o ho => (hJ52 o (by omega)).trans (hJ40 o ho)
  have jf57 : ∀ k, k < 22 → J45 5 k = rsv.getD k 0 := fun k hk => (congrFun (hJ52 5 (by decide)) k).trans (jf41 k hk)
  subst hF48
  have hK58 : RK ((1, 5, 6) :: ((1, 4, 3) :: (lk_X6_init_3 ++ ((1, 3, 2) :: ([]))))) (uR (zR (uR R22 1 4 3) 6) 1 5 6) := hK42.u rfl
  have hF59 : FR 1 R (uR (zR (uR R22 1 4 3) 6) 1 5 6) := hF43.u rfl
  have hB60 : BZ (zI I44 7) := hB47.z
  have hZ61 : KI (zk_X1_init_6 ++ (zk_X6_init_3 ++ ([]))) (zI I44 7) := hZ54.z rfl
  have hI62 : FI 1 I (zI I44 7) := hI55.z rfl
  have hJ63 : FJ 1 J (zJ J45 7) := hJ56.z rfl
  have jf64 : ∀ k, k < 22 → (zJ J45 7) 5 k = rsv.getD k 0 := J5.z jf57 rfl
  have hK65 : RK ((1, 5, 6) :: ((1, 4, 3) :: (lk_X6_init_3 ++ ((1, 3, 2) :: ([]))))) (zR (uR (zR (uR R22 1 4 3) 6) 1 5 6) 7) := hK58.z rfl
  have hF66 : FR 1 R (zR (uR (zR (uR R22 1 4 3) 6) 1 5 6) 7) := hF59.z rfl
  refine ct_X3_init_7 hB60 (fun I67 J68 R69 hB70 hF71 hK72 hI73 hZ74 hJ75 jz76 => ?_)
  have hZ77 : KI (zk_X3_init_7 ++ (zk_X1_init_6 ++ (zk_X6_init_3 ++ ([])))) I67 := hZ74.app (hZ61.fr hI73 rfl)
  have hI78 : FI 1 I I67 := fun o ho => (hI73 o (by omega)).trans (hI62 o ho)
  have hJ79 : FJ 1 J J68 := fun o ho => (hJ75 o (by omega)).trans (hJ63 o ho)
  have jf80 : ∀ k, k < 22 → J68 5 k = rsv.getD k 0 := fun k hk => (congrFun (hJ75 5 (by decide)) k).trans (jf64 k hk)
  have hK81 : RK (lk_X3_init_7 ++ ((1, 5, 6) :: ((1, 4, 3) :: (lk_X6_init_3 ++ ((1, 3, 2) :: ([])))))) R69 := hK72.app (hK65.fr hF71 rfl)
  have hF82 : FR 1 R R69 := fun o ho => (hF71 o (by omega)).trans (hF66 o ho)
  have hK83 : RK ((1, 6, 7) :: (lk_X3_init_7 ++ ((1, 5, 6) :: ((1, 4, 3) :: (lk_X6_init_3 ++ ((1, 3, 2) :: ([]))))))) (uR R69 1 6 7) := hK81.u rfl
  have hF84 : FR 1 R (uR R69 1 6 7) := hF82.u rfl
  have hB85 : BZ (zI I67 9) := hB70.z
  have hZ86 : KI (zk_X3_init_7 ++ (zk_X1_init_6 ++ (zk_X6_init_3 ++ ([])))) (zI I67 9) := hZ77.z rfl
  have hI87 : FI 1 I (zI I67 9) := hI78.z rfl
  have hJ88 : FJ 1 J (zJ J68 9) := hJ79.z rfl
  have jf89 : ∀ k, k < 22 → (zJ J68 9) 5 k = rsv.getD k 0 := J5.z jf80 rfl
  have hK90 : RK ((1, 6, 7) :: (lk_X3_init_7 ++ ((1, 5, 6) :: ((1, 4, 3) :: (lk_X6_init_3 ++ ((1, 3, 2) :: ([]))))))) (zR (uR R69 1 6 7) 9) := hK83.z rfl
  have hF91 : FR 1 R (zR (uR R69 1 6 7) 9) := hF84.z rfl
  refine ct_X0_init_9 hB85 (fun I92 J93 R94 hB95 hF96 hK97 hI98 hZ99 hJ100 jz101 => ?_)
  have hZ102 : KI (zk_X0_init_9 ++ (zk_X3_init_7 ++ (zk_X1_init_6 ++ (zk_X6_init_3 ++ ([]))))) I92 := hZ99.app (hZ86.fr hI98 rfl)
  have hI103 : FI 1 I I92 := fun o ho => (hI98 o (by omega)).trans (hI87 o ho)
  have hJ104 : FJ 1 J J93 := fun o ho => (hJ100 o (by omega)).trans (hJ88 o ho)
  have jf105 : ∀ k, k < 22 → J93 5 k = rsv.getD k 0 := fun k hk => (congrFun (hJ100 5 (by decide)) k).trans (jf89 k hk)
  have hK106 : RK (lk_X0_init_9 ++ ((1, 6, 7) :: (lk_X3_init_7 ++ ((1, 5, 6) :: ((1, 4, 3) :: (lk_X6_init_3 ++ ((1, 3, 2) :: ([])))))))) R94 := hK97.app (hK90.fr hF96 rfl)
  have hF107 : FR 1 R R94 := fun o ho => (hF96 o (by omega)).trans (hF91 o ho)
  refine ⟨by decide, ?_⟩
  have hK108 : RK ((1, 7, 9) :: (lk_X0_init_9 ++ ((1, 6, 7) :: (lk_X3_init_7 ++ ((1, 5, 6) :: ((1, 4, 3) :: (lk_X6_init_3 ++ ((1, 3, 2) :: ([]))))))))) (uR R94 1 7 9) := hK106.u rfl
  have hF109 : FR 1 R (uR R94 1 7 9) := hF107.u rfl
  have hB110 : BZ (zI I92 15) := hB95.z
  have hZ111 : KI (zk_X0_init_9 ++ (zk_X3_init_7 ++ (zk_X1_init_6 ++ (zk_X6_init_3 ++ ([]))))) (zI I92 15) := hZ102.z rfl
  have hI112 : FI 1 I (zI I92 15) := hI103.z rfl
  have hJ113 : FJ 1 J (zJ J93 15) := hJ104.z rfl
  have jf114 : ∀ k, k < 22 → (zJ J93 15) 5 k = rsv.getD k 0 := J5.z jf105 rfl
  have hK115 : RK ((1, 7, 9) :: (lk_X0_init_9 ++ ((1, 6, 7) :: (lk_X3_init_7 ++ ((1, 5, 6) :: ((1, 4, 3) :: (lk_X6_init_3 ++ ((1, 3, 2) :: ([]))))))))) (zR (uR R94 1 7 9) 15) := hK108.z rfl
  have hF116 : FR 1 R (zR (uR R94 1 7 9) 15) := hF109.z rfl
  refine ct_X0_init_15 hB110 (fun I117 J118 R119 hB120 hF121 hK122 hI123 hZ124 hJ125 jz126 => ?_)
  have hZ127 : KI (zk_X0_init_15 ++ (zk_X0_init_9 ++ (zk_X3_init_7 ++ (zk_X1_init_6 ++ (zk_X6_init_3 ++ ([])))))) I117 := hZ124.app (hZ111.fr hI123 rfl)
  have hI128 : FI 1 I I117 := fun o ho => (hI123 o (by omega)).trans (hI112 o ho)
  have hJ129 : FJ 1 J J118 := fun o ho => (hJ125 o (by omega)).trans (hJ113 o ho)
  have jf130 : ∀ k, k < 22 → J118 5 k = rsv.getD k 0 := fun k hk => (congrFun (hJ125 5 (by decide)) k).trans (jf114 k hk)
  have hK131 : RK (lk_X0_init_15 ++ ((1, 7, 9) :: (lk_X0_init_9 ++ ((1, 6, 7) :: (lk_X3_init_7 ++ ((1, 5, 6) :: ((1, 4, 3) :: (lk_X6_init_3 ++ ((1, 3, 2) :: ([])))))))))) R119 := hK122.app (hK115.fr hF121 rfl)
  have hF132 : FR 1 R R119 := fun o ho => (hF121 o (by omega)).trans (hF116 o ho)
  refine ⟨by decide, ?_⟩
  have hK133 : RK ((1, 8, 15) :: (lk_X0_init_15 ++ ((1, 7, 9) :: (lk_X0_init_9 ++ ((1, 6, 7) :: (lk_X3_init_7 ++ ((1, 5, 6) :: ((1, 4, 3) :: (lk_X6_init_3 ++ ((1, 3, 2) :: ([]))))))))))) (uR R119 1 8 15) := hK131.u rfl
  have hF134 : FR 1 R (uR R119 1 8 15) := hF132.u rfl
  have hB135 : BZ (zI I117 21) := hB120.z
  have hZ136 : KI (zk_X0_init_15 ++ (zk_X0_init_9 ++ (zk_X3_init_7 ++ (zk_X1_init_6 ++ (zk_X6_init_3 ++ ([])))))) (zI I117 21) := hZ127.z rfl
  have hI137 : FI 1 I (zI I117 21) := hI128.z rfl
  have hJ138 : FJ 1 J (zJ J118 21) := hJ129.z rfl
  have jf139 : ∀ k, k < 22 → (zJ J118 21) 5 k = rsv.getD k 0 := J5.z jf130 rfl
  have hK140 : RK ((1, 8, 15) :: (lk_X0_init_15 ++ ((1, 7, 9) :: (lk_X0_init_9 ++ ((1, 6, 7) :: (lk_X3_init_7 ++ ((1, 5, 6) :: ((1, 4, 3) :: (lk_X6_init_3 ++ ((1, 3, 2) :: ([]))))))))))) (zR (uR R119 1 8 15) 21) := hK133.z rfl
  have hF141 : FR 1 R (zR (uR R119 1 8 15) 21) := hF134.z rfl
  refine ct_X2_init_21 hB135 (fun I142 J143 R144 hB145 hF146 hK147 hI148 hZ149 hJ150 jz151 => ?_)
  have hZ152 : KI (zk_X2_init_21 ++ (zk_X0_init_15 ++ (zk_X0_init_9 ++ (zk_X3_init_7 ++ (zk_X1_init_6 ++ (zk_X6_init_3 ++ ([]))))))) I142 := hZ149.app (hZ136.fr hI148 rfl)
  have hI153 : FI 1 I I142 := fun o ho => (hI148 o (by omega)).trans (hI137 o ho)
  have hJ154 : FJ 1 J J143 := fun o ho => (hJ150 o (by omega)).trans (hJ138 o ho)
  have jf155 : ∀ k, k < 22 → J143 5 k = rsv.getD k 0 := fun k hk => (congrFun (hJ150 5 (by decide)) k).trans (jf139 k hk)
  have hK156 : RK (lk_X2_init_21 ++ ((1, 8, 15) :: (lk_X0_init_15 ++ ((1, 7, 9) :: (lk_X0_init_9 ++ ((1, 6, 7) :: (lk_X3_init_7 ++ ((1, 5, 6) :: ((1, 4, 3) :: (lk_X6_init_3 ++ ((1, 3, 2) :: ([])))))))))))) R144 := hK147.app (hK140.fr hF146 rfl)
  have hF157 : FR 1 R R144 := fun o ho => (hF146 o (by omega)).trans (hF141 o ho)
  refine ⟨by decide, ?_⟩
  have hK158 : RK ((1, 9, 21) :: (lk_X2_init_21 ++ ((1, 8, 15) :: (lk_X0_init_15 ++ ((1, 7, 9) :: (lk_X0_init_9 ++ ((1, 6, 7) :: (lk_X3_init_7 ++ ((1, 5, 6) :: ((1, 4, 3) :: (lk_X6_init_3 ++ ((1, 3, 2) :: ([]))))))))))))) (uR R144 1 9 21) := hK156.u rfl
  have hF159 : FR 1 R (uR R144 1 9 21) := hF157.u rfl
  have hB160 : BZ (zI I142 27) := hB145.z
  have hZ161 : KI (zk_X2_init_21 ++ (zk_X0_init_15 ++ (zk_X0_init_9 ++ (zk_X3_init_7 ++ (zk_X1_init_6 ++ (zk_X6_init_3 ++ ([]))))))) (zI I142 27) := hZ152.z rfl
  have hI162 : FI 1 I (zI I142 27) := hI153.z rfl
  have hJ163 : FJ 1 J (zJ J143 27) := hJ154.z rfl
  have jf164 : ∀ k, k < 22 → (zJ J143 27) 5 k = rsv.getD k 0 := J5.z jf155 rfl
  have hK165 : RK ((1, 9, 21) :: (lk_X2_init_21 ++ ((1, 8, 15) :: (lk_X0_init_15 ++ ((1, 7, 9) :: (lk_X0_init_9 ++ ((1, 6, 7) :: (lk_X3_init_7 ++ ((1, 5, 6) :: ((1, 4, 3) :: (lk_X6_init_3 ++ ((1, 3, 2) :: ([]))))))))))))) (zR (uR R144 1 9 21) 27) := hK158.z rfl
  have hF166 : FR 1 R (zR (uR R144 1 9 21) 27) := hF159.z rfl
  refine ct_X2_init_27 hB160 (fun I167 J168 R169 hB170 hF171 hK172 hI173 hZ174 hJ175 jz176 => ?_)
  have hZ177 : KI (zk_X2_init_27 ++ (zk_X2_init_21 ++ (zk_X0_init_15 ++ (zk_X0_init_9 ++ (zk_X3_init_7 ++ (zk_X1_init_6 ++ (zk_X6_init_3 ++ ([])))))))) I167 := hZ174.app (hZ161.fr hI173 rfl)
  have hI178 : FI 1 I I167 := fun o ho => (hI173 o (by omega)).trans (hI162 o ho)
  have hJ179 : FJ 1 J J168 := fun o ho => (hJ175 o (by omega)).trans (hJ163 o ho)
  have jf180 : ∀ k, k < 22 → J168 5 k = rsv.getD k 0 := fun k hk => (congrFun (hJ175 5 (by decide)) k).trans (jf164 k hk)
  have hK181 : RK (lk_X2_init_27 ++ ((1, 9, 21) :: (lk_X2_init_21 ++ ((1, 8, 15) :: (lk_X0_init_15 ++ ((1, 7, 9) :: (lk_X0_init_9 ++ ((1, 6, 7) :: (lk_X3_init_7 ++ ((1, 5, 6) :: ((1, 4, 3) :: (lk_X6_init_3 ++ ((1, 3, 2) :: ([])))))))))))))) R169 := hK172.app (hK165.fr hF171 rfl)
  have hF182 : FR 1 R R169 := fun o ho => (hF171 o (by omega)).trans (hF166 o ho)
  refine ⟨by decide, ?_⟩
  have hK183 : RK ((1, 10, 27) :: (lk_X2_init_27 ++ ((1, 9, 21) :: (lk_X2_init_21 ++ ((1, 8, 15) :: (lk_X0_init_15 ++ ((1, 7, 9) :: (lk_X0_init_9 ++ ((1, 6, 7) :: (lk_X3_init_7 ++ ((1, 5, 6) :: ((1, 4, 3) :: (lk_X6_init_3 ++ ((1, 3, 2) :: ([]))))))))))))))) (uR R169 1 10 27) := hK181.u rfl
  have hF184 : FR 1 R (uR R169 1 10 27) := hF182.u rfl
  refine ⟨rfl, ?_⟩
  have hB185 : BZ (zI I167 33) := hB170.z
  have hZ186 : KI (zk_X2_init_27 ++ (zk_X2_init_21 ++ (zk_X0_init_15 ++ (zk_X0_init_9 ++ (zk_X3_init_7 ++ (zk_X1_init_6 ++ (zk_X6_init_3 ++ ([])))))))) (zI I167 33) := hZ177.z rfl
  have hI187 : FI 1 I (zI I167 33) := hI178.z rfl
  have hJ188 : FJ 1 J (zJ J168 33) := hJ179.z rfl
  have jf189 : ∀ k, k < 22 → (zJ J168 33) 5 k = rsv.getD k 0 := J5.z jf180 rfl
  have hK190 : RK ((1, 10, 27) :: (lk_X2_init_27 ++ ((1, 9, 21) :: (lk_X2_init_21 ++ ((1, 8, 15) :: (lk_X0_init_15 ++ ((1, 7, 9) :: (lk_X0_init_9 ++ ((1, 6, 7) :: (lk_X3_init_7 ++ ((1, 5, 6) :: ((1, 4, 3) :: (lk_X6_init_3 ++ ((1, 3, 2) :: ([]))))))))))))))) (zR (uR R169 1 10 27) 33) := hK183.z rfl
  have hF191 : FR 1 R (zR (uR R169 1 10 27) 33) := hF184.z rfl
  have hK192 : RK ((1, 11, 33) :: ((1, 10, 27) :: (lk_X2_init_27 ++ ((1, 9, 21) :: (lk_X2_init_21 ++ ((1, 8, 15) :: (lk_X0_init_15 ++ ((1, 7, 9) :: (lk_X0_init_9 ++ ((1, 6, 7) :: (lk_X3_init_7 ++ ((1, 5, 6) :: ((1, 4, 3) :: (lk_X6_init_3 ++ ((1, 3, 2) :: ([])))))))))))))))) (uR (zR (uR R169 1 10 27) 33) 1 11 33) := hK190.u rfl
  have hF193 : FR 1 R (uR (zR (uR R169 1 10 27) 33) 1 11 33) := hF191.u rfl
  refine ⟨rfl, ?_⟩
  have hB194 : BZ (zI (zI I167 33) 34) := hB185.z
  have hZ195 : KI (zk_X2_init_27 ++ (zk_X2_init_21 ++ (zk_X0_init_15 ++ (zk_X0_init_9 ++ (zk_X3_init_7 ++ (zk_X1_init_6 ++ (zk_X6_init_3 ++ ([])))))))) (zI (zI I167 33) 34) := hZ186.z rfl
  have hI196 : FI 1 I (zI (zI I167 33) 34) := hI187.z rfl
  have hJ197 : FJ 1 J (zJ (zJ J168 33) 34) := hJ188.z rfl
  have jf198 : ∀ k, k < 22 → (zJ (zJ J168 33) 34) 5 k = rsv.getD k 0 := J5.z jf189 rfl
  have hK199 : RK ((1, 11, 33) :: ((1, 10, 27) :: (lk_X2_init_27 ++ ((1, 9, 21) :: (lk_X2_init_21 ++ ((1, 8, 15) :: (lk_X0_init_15 ++ ((1, 7, 9) :: (lk_X0_init_9 ++ ((1, 6, 7) :: (lk_X3_init_7 ++ ((1, 5, 6) :: ((1, 4, 3) :: (lk_X6_init_3 ++ ((1, 3, 2) :: ([])))))))))))))))) (zR (uR (zR (uR R169 1 10 27) 33) 1 11 33) 34) := hK192.z rfl
  have hF200 : FR 1 R (zR (uR (zR (uR R169 1 10 27) 33) 1 11 33) 34) := hF193.z rfl
  have hK201 : RK ((1, 12, 34) :: ((1, 11, 33) :: ((1, 10, 27) :: (lk_X2_init_27 ++ ((1, 9, 21) :: (lk_X2_init_21 ++ ((1, 8, 15) :: (lk_X0_init_15 ++ ((1, 7, 9) :: (lk_X0_init_9 ++ ((1, 6, 7) :: (lk_X3_init_7 ++ ((1, 5, 6) :: ((1, 4, 3) :: (lk_X6_init_3 ++ ((1, 3, 2) :: ([]))))))))))))))))) (uR (zR (uR (zR (uR R169 1 10 27) 33) 1 11 33) 34) 1 12 34) := hK199.u rfl
  have hF202 : FR 1 R (uR (zR (uR (zR (uR R169 1 10 27) 33) 1 11 33) 34) 1 12 34) := hF200.u rfl
  have hB203 : BZ (uI (zI (zI I167 33) 34) 1 13 0) := hB194.kw rfl rfl rfl
  have hZ204 : KI (zk_X2_init_27 ++ (zk_X2_init_21 ++ (zk_X0_init_15 ++ (zk_X0_init_9 ++ (zk_X3_init_7 ++ (zk_X1_init_6 ++ (zk_X6_init_3 ++ ([])))))))) (uI (zI (zI I167 33) 34) 1 13 0) := hZ195.w rfl
  have hI205 : FI 1 I (uI (zI (zI I167 33) 34) 1 13 0) := hI196.w rfl
  have hB206 : BZ (zI (uI (zI (zI I167 33) 34) 1 13 0) 35) := hB203.z
  have hZ207 : KI (zk_X2_init_27 ++ (zk_X2_init_21 ++ (zk_X0_init_15 ++ (zk_X0_init_9 ++ (zk_X3_init_7 ++ (zk_X1_init_6 ++ (zk_X6_init_3 ++ ([])))))))) (zI (uI (zI (zI I167 33) 34) 1 13 0) 35) := hZ204.z rfl
  have hI208 : FI 1 I (zI (uI (zI (zI I167 33) 34) 1 13 0) 35) := hI205.z rfl
  have hJ209 : FJ 1 J (zJ (zJ (zJ J168 33) 34) 35) := hJ197.z rfl
  have jf210 : ∀ k, k < 22 → (zJ (zJ (zJ J168 33) 34) 35) 5 k = rsv.getD k 0 := J5.z jf198 rfl
  have hK211 : RK ((1, 12, 34) :: ((1, 11, 33) :: ((1, 10, 27) :: (lk_X2_init_27 ++ ((1, 9, 21) :: (lk_X2_init_21 ++ ((1, 8, 15) :: (lk_X0_init_15 ++ ((1, 7, 9) :: (lk_X0_init_9 ++ ((1, 6, 7) :: (lk_X3_init_7 ++ ((1, 5, 6) :: ((1, 4, 3) :: (lk_X6_init_3 ++ ((1, 3, 2) :: ([]))))))))))))))))) (zR (uR (zR (uR (zR (uR R169 1 10 27) 33) 1 11 33) 34) 1 12 34) 35) := hK201.z rfl
  have hF212 : FR 1 R (zR (uR (zR (uR (zR (uR R169 1 10 27) 33) 1 11 33) 34) 1 12 34) 35) := hF202.z rfl
  refine ct_X7_init_35 hB206 (fun I213 J214 R215 hB216 hF217 hK218 hI219 hZ220 hJ221 jz222 => ?_)
  have hZ223 : KI (zk_X7_init_35 ++ (zk_X2_init_27 ++ (zk_X2_init_21 ++ (zk_X0_init_15 ++ (zk_X0_init_9 ++ (zk_X3_init_7 ++ (zk_X1_init_6 ++ (zk_X6_init_3 ++ ([]))))))))) I213 := hZ220.app (hZ207.fr hI219 rfl)
  have hI224 : FI 1 I I213 := fun o ho => (hI219 o (by omega)).trans (hI208 o ho)
  have hJ225 : FJ 1 J J214 := fun o ho => (hJ221 o (by omega)).trans (hJ209 o ho)
  have jf226 : ∀ k, k < 22 → J214 5 k = rsv.getD k 0 := fun k hk => (congrFun (hJ221 5 (by decide)) k).trans (jf210 k hk)
  have hK227 : RK (lk_X7_init_35 ++ ((1, 12, 34) :: ((1, 11, 33) :: ((1, 10, 27) :: (lk_X2_init_27 ++ ((1, 9, 21) :: (lk_X2_init_21 ++ ((1, 8, 15) :: (lk_X0_init_15 ++ ((1, 7, 9) :: (lk_X0_init_9 ++ ((1, 6, 7) :: (lk_X3_init_7 ++ ((1, 5, 6) :: ((1, 4, 3) :: (lk_X6_init_3 ++ ((1, 3, 2) :: ([])))))))))))))))))) R215 := hK218.app (hK211.fr hF217 rfl)
  have hF228 : FR 1 R R215 := fun o ho => (hF217 o (by omega)).trans (hF212 o ho)
  have hK229 : RK ((1, 14, 35) :: (lk_X7_init_35 ++ ((1, 12, 34) :: ((1, 11, 33) :: ((1, 10, 27) :: (lk_X2_init_27 ++ ((1, 9, 21) :: (lk_X2_init_21 ++ ((1, 8, 15) :: (lk_X0_init_15 ++ ((1, 7, 9) :: (lk_X0_init_9 ++ ((1, 6, 7) :: (lk_X3_init_7 ++ ((1, 5, 6) :: ((1, 4, 3) :: (lk_X6_init_3 ++ ((1, 3, 2) :: ([]))))))))))))))))))) (uR R215 1 14 35) := hK227.u rfl
  have hF230 : FR 1 R (uR R215 1 14 35) := hF228.u rfl
  have hB231 : BZ (zI I213 39) := hB216.z
  have hZ232 : KI (zk_X7_init_35 ++ (zk_X2_init_27 ++ (zk_X2_init_21 ++ (zk_X0_init_15 ++ (zk_X0_init_9 ++ (zk_X3_init_7 ++ (zk_X1_init_6 ++ (zk_X6_init_3 ++ ([]))))))))) (zI I213 39) := hZ223.z rfl
  have hI233 : FI 1 I (zI I213 39) := hI224.z rfl
  have hJ234 : FJ 1 J (zJ J214 39) := hJ225.z rfl
  have jf235 : ∀ k, k < 22 → (zJ J214 39) 5 k = rsv.getD k 0 := J5.z jf226 rfl
  have hK236 : RK ((1, 14, 35) :: (lk_X7_init_35 ++ ((1, 12, 34) :: ((1, 11, 33) :: ((1, 10, 27) :: (lk_X2_init_27 ++ ((1, 9, 21) :: (lk_X2_init_21 ++ ((1, 8, 15) :: (lk_X0_init_15 ++ ((1, 7, 9) :: (lk_X0_init_9 ++ ((1, 6, 7) :: (lk_X3_init_7 ++ ((1, 5, 6) :: ((1, 4, 3) :: (lk_X6_init_3 ++ ((1, 3, 2) :: ([]))))))))))))))))))) (zR (uR R215 1 14 35) 39) := hK229.z rfl
  have hF237 : FR 1 R (zR (uR R215 1 14 35) 39) := hF230.z rfl
  refine ct_X8_init_39 hB231 (fun I238 J239 R240 hB241 hF242 hK243 hI244 hZ245 hJ246 jz247 => ?_)
  have hZ248 : KI (zk_X8_init_39 ++ (zk_X7_init_35 ++ (zk_X2_init_27 ++ (zk_X2_init_21 ++ (zk_X0_init_15 ++ (zk_X0_init_9 ++ (zk_X3_init_7 ++ (zk_X1_init_6 ++ (zk_X6_init_3 ++ ([])))))))))) I238 := hZ245.app (hZ232.fr hI244 rfl)
  have hI249 : FI 1 I I238 := fun o ho => (hI244 o (by omega)).trans (hI233 o ho)
  have hJ250 : FJ 1 J J239 := fun o ho => (hJ246 o (by omega)).trans (hJ234 o ho)
  have jf251 : ∀ k, k < 22 → J239 5 k = rsv.getD k 0 := fun k hk => (congrFun (hJ246 5 (by decide)) k).trans (jf235 k hk)
  have hK252 : RK (lk_X8_init_39 ++ ((1, 14, 35) :: (lk_X7_init_35 ++ ((1, 12, 34) :: ((1, 11, 33) :: ((1, 10, 27) :: (lk_X2_init_27 ++ ((1, 9, 21) :: (lk_X2_init_21 ++ ((1, 8, 15) :: (lk_X0_init_15 ++ ((1, 7, 9) :: (lk_X0_init_9 ++ ((1, 6, 7) :: (lk_X3_init_7 ++ ((1, 5, 6) :: ((1, 4, 3) :: (lk_X6_init_3 ++ ((1, 3, 2) :: ([])))))))))))))))))))) R240 := hK243.app (hK236.fr hF242 rfl)
  have hF253 : FR 1 R R240 := fun o ho => (hF242 o (by omega)).trans (hF237 o ho)
  have hK254 : RK ((1, 15, 39) :: (lk_X8_init_39 ++ ((1, 14, 35) :: (lk_X7_init_35 ++ ((1, 12, 34) :: ((1, 11, 33) :: ((1, 10, 27) :: (lk_X2_init_27 ++ ((1, 9, 21) :: (lk_X2_init_21 ++ ((1, 8, 15) :: (lk_X0_init_15 ++ ((1, 7, 9) :: (lk_X0_init_9 ++ ((1, 6, 7) :: (lk_X3_init_7 ++ ((1, 5, 6) :: ((1, 4, 3) :: (lk_X6_init_3 ++ ((1, 3, 2) :: ([]))))))))))))))))))))) (uR R240 1 15 39) := hK252.u rfl
  have hF255 : FR 1 R (uR R240 1 15 39) := hF253.u rfl
  have hB256 : BZ (zI I238 42) := hB241.z
  have hZ257 : KI (zk_X8_init_39 ++ (zk_X7_init_35 ++ (zk_X2_init_27 ++ (zk_X2_init_21 ++ (zk_X0_init_15 ++ (zk_X0_init_9 ++ (zk_X3_init_7 ++ (zk_X1_init_6 ++ (zk_X6_init_3 ++ ([])))))))))) (zI I238 42) := hZ248.z rfl
  have hI258 : FI 1 I (zI I238 42) := hI249.z rfl
  have hJ259 : FJ 1 J (zJ J239 42) := hJ250.z rfl
  have jf260 : ∀ k, k < 22 → (zJ J239 42) 5 k = rsv.getD k 0 := J5.z jf251 rfl
  have hK261 : RK ((1, 15, 39) :: (lk_X8_init_39 ++ ((1, 14, 35) :: (lk_X7_init_35 ++ ((1, 12, 34) :: ((1, 11, 33) :: ((1, 10, 27) :: (lk_X2_init_27 ++ ((1, 9, 21) :: (lk_X2_init_21 ++ ((1, 8, 15) :: (lk_X0_init_15 ++ ((1, 7, 9) :: (lk_X0_init_9 ++ ((1, 6, 7) :: (lk_X3_init_7 ++ ((1, 5, 6) :: ((1, 4, 3) :: (lk_X6_init_3 ++ ((1, 3, 2) :: ([]))))))))))))))))))))) (zR (uR R240 1 15 39) 42) := hK254.z rfl
  have hF262 : FR 1 R (zR (uR R240 1 15 39) 42) := hF255.z rfl
  refine ct_X5_init_42 hB256 (fun I263 J264 R265 hB266 hF267 hK268 hI269 hZ270 hJ271 jz272 => ?_)
  have hZ273 : KI (zk_X5_init_42 ++ (zk_X8_init_39 ++ (zk_X7_init_35 ++ (zk_X2_init_27 ++ (zk_X2_init_21 ++ (zk_X0_init_15 ++ (zk_X0_init_9 ++ (zk_X3_init_7 ++ (zk_X1_init_6 ++ (zk_X6_init_3 ++ ([]))))))))))) I263 := hZ270.app (hZ257.fr hI269 rfl)
  have hI274 : FI 1 I I263 := fun o ho => (hI269 o (by omega)).trans (hI258 o ho)
  have hJ275 : FJ 1 J J264 := fun o ho => (hJ271 o (by omega)).trans (hJ259 o ho)
  have jf276 : ∀ k, k < 22 → J264 5 k = rsv.getD k 0 := fun k hk => (congrFun (hJ271 5 (by decide)) k).trans (jf260 k hk)
  have hK277 : RK (lk_X5_init_42 ++ ((1, 15, 39) :: (lk_X8_init_39 ++ ((1, 14, 35) :: (lk_X7_init_35 ++ ((1, 12, 34) :: ((1, 11, 33) :: ((1, 10, 27) :: (lk_X2_init_27 ++ ((1, 9, 21) :: (lk_X2_init_21 ++ ((1, 8, 15) :: (lk_X0_init_15 ++ ((1, 7, 9) :: (lk_X0_init_9 ++ ((1, 6, 7) :: (lk_X3_init_7 ++ ((1, 5, 6) :: ((1, 4, 3) :: (lk_X6_init_3 ++ ((1, 3, 2) :: ([])))))))))))))))))))))) R265 := hK268.app (hK261.fr hF267 rfl)
  have hF278 : FR 1 R R265 := fun o ho => (hF267 o (by omega)).trans (hF262 o ho)
  have hK279 : RK ((1, 16, 42) :: (lk_X5_init_42 ++ ((1, 15, 39) :: (lk_X8_init_39 ++ ((1, 14, 35) :: (lk_X7_init_35 ++ ((1, 12, 34) :: ((1, 11, 33) :: ((1, 10, 27) :: (lk_X2_init_27 ++ ((1, 9, 21) :: (lk_X2_init_21 ++ ((1, 8, 15) :: (lk_X0_init_15 ++ ((1, 7, 9) :: (lk_X0_init_9 ++ ((1, 6, 7) :: (lk_X3_init_7 ++ ((1, 5, 6) :: ((1, 4, 3) :: (lk_X6_init_3 ++ ((1, 3, 2) :: ([]))))))))))))))))))))))) (uR R265 1 16 42) := hK277.u rfl
  have hF280 : FR 1 R (uR R265 1 16 42) := hF278.u rfl
  have hB281 : BZ (zI I263 45) := hB266.z
  have hZ282 : KI (zk_X5_init_42 ++ (zk_X8_init_39 ++ (zk_X7_init_35 ++ (zk_X2_init_27 ++ (zk_X2_init_21 ++ (zk_X0_init_15 ++ (zk_X0_init_9 ++ (zk_X3_init_7 ++ (zk_X1_init_6 ++ (zk_X6_init_3 ++ ([]))))))))))) (zI I263 45) := hZ273.z rfl
  have hI283 : FI 1 I (zI I263 45) := hI274.z rfl
  have hJ284 : FJ 1 J (zJ J264 45) := hJ275.z rfl
  have jf285 : ∀ k, k < 22 → (zJ J264 45) 5 k = rsv.getD k 0 := J5.z jf276 rfl
  have hK286 : RK ((1, 16, 42) :: (lk_X5_init_42 ++ ((1, 15, 39) :: (lk_X8_init_39 ++ ((1, 14, 35) :: (lk_X7_init_35 ++ ((1, 12, 34) :: ((1, 11, 33) :: ((1, 10, 27) :: (lk_X2_init_27 ++ ((1, 9, 21) :: (lk_X2_init_21 ++ ((1, 8, 15) :: (lk_X0_init_15 ++ ((1, 7, 9) :: (lk_X0_init_9 ++ ((1, 6, 7) :: (lk_X3_init_7 ++ ((1, 5, 6) :: ((1, 4, 3) :: (lk_X6_init_3 ++ ((1, 3, 2) :: ([]))))))))))))))))))))))) (zR (uR R265 1 16 42) 45) := hK279.z rfl
  have hF287 : FR 1 R (zR (uR R265 1 16 42) 45) := hF280.z rfl
  refine ct_X9_init_45 hB281 (fun I288 J289 R290 hB291 hF292 hK293 hI294 hZ295 hJ296 jz297 => ?_)
  have hZ298 : KI (zk_X9_init_45 ++ (zk_X5_init_42 ++ (zk_X8_init_39 ++ (zk_X7_init_35 ++ (zk_X2_init_27 ++ (zk_X2_init_21 ++ (zk_X0_init_15 ++ (zk_X0_init_9 ++ (zk_X3_init_7 ++ (zk_X1_init_6 ++ (zk_X6_init_3 ++ ([])))))))))))) I288 := hZ295.app (hZ282.fr hI294 rfl)
  have hI299 : FI 1 I I288 := fun o ho => (hI294 o (by omega)).trans (hI283 o ho)
  have hJ300 : FJ 1 J J289 := fun o ho => (hJ296 o (by omega)).trans (hJ284 o ho)
  have jf301 : ∀ k, k < 22 → J289 5 k = rsv.getD k 0 := fun k hk => (congrFun (hJ296 5 (by decide)) k).trans (jf285 k hk)
  have hK302 : RK (lk_X9_init_45 ++ ((1, 16, 42) :: (lk_X5_init_42 ++ ((1, 15, 39) :: (lk_X8_init_39 ++ ((1, 14, 35) :: (lk_X7_init_35 ++ ((1, 12, 34) :: ((1, 11, 33) :: ((1, 10, 27) :: (lk_X2_init_27 ++ ((1, 9, 21) :: (lk_X2_init_21 ++ ((1, 8, 15) :: (lk_X0_init_15 ++ ((1, 7, 9) :: (lk_X0_init_9 ++ ((1, 6, 7) :: (lk_X3_init_7 ++ ((1, 5, 6) :: ((1, 4, 3) :: (lk_X6_init_3 ++ ((1, 3, 2) :: ([])))))))))))))))))))))))) R290 := hK293.app (hK286.fr hF292 rfl)
  have hF303 : FR 1 R R290 := fun o ho => (hF292 o (by omega)).trans (hF287 o ho)
  have hK304 : RK ((1, 17, 45) :: (lk_X9_init_45 ++ ((1, 16, 42) :: (lk_X5_init_42 ++ ((1, 15, 39) :: (lk_X8_init_39 ++ ((1, 14, 35) :: (lk_X7_init_35 ++ ((1, 12, 34) :: ((1, 11, 33) :: ((1, 10, 27) :: (lk_X2_init_27 ++ ((1, 9, 21) :: (lk_X2_init_21 ++ ((1, 8, 15) :: (lk_X0_init_15 ++ ((1, 7, 9) :: (lk_X0_init_9 ++ ((1, 6, 7) :: (lk_X3_init_7 ++ ((1, 5, 6) :: ((1, 4, 3) :: (lk_X6_init_3 ++ ((1, 3, 2) :: ([]))))))))))))))))))))))))) (uR R290 1 17 45) := hK302.u rfl
  have hF305 : FR 1 R (uR R290 1 17 45) := hF303.u rfl
  have hB306 : BZ (zI I288 49) := hB291.z
  have hZ307 : KI (zk_X9_init_45 ++ (zk_X5_init_42 ++ (zk_X8_init_39 ++ (zk_X7_init_35 ++ (zk_X2_init_27 ++ (zk_X2_init_21 ++ (zk_X0_init_15 ++ (zk_X0_init_9 ++ (zk_X3_init_7 ++ (zk_X1_init_6 ++ (zk_X6_init_3 ++ ([])))))))))))) (zI I288 49) := hZ298.z rfl
  have hI308 : FI 1 I (zI I288 49) := hI299.z rfl
  have hJ309 : FJ 1 J (zJ J289 49) := hJ300.z rfl
  have jz310 : (zJ J289 49) 47 0 = 0 := JZ.z jz297 rfl
  have jf311 : ∀ k, k < 22 → (zJ J289 49) 5 k = rsv.getD k 0 := J5.z jf301 rfl
  have hK312 : RK ((1, 17, 45) :: (lk_X9_init_45 ++ ((1, 16, 42) :: (lk_X5_init_42 ++ ((1, 15, 39) :: (lk_X8_init_39 ++ ((1, 14, 35) :: (lk_X7_init_35 ++ ((1, 12, 34) :: ((1, 11, 33) :: ((1, 10, 27) :: (lk_X2_init_27 ++ ((1, 9, 21) :: (lk_X2_init_21 ++ ((1, 8, 15) :: (lk_X0_init_15 ++ ((1, 7, 9) :: (lk_X0_init_9 ++ ((1, 6, 7) :: (lk_X3_init_7 ++ ((1, 5, 6) :: ((1, 4, 3) :: (lk_X6_init_3 ++ ((1, 3, 2) :: ([]))))))))))))))))))))))))) (zR (uR R290 1 17 45) 49) := hK304.z rfl
  have hF313 : FR 1 R (zR (uR R290 1 17 45) 49) := hF305.z rfl
  refine ct_X4_init_49 hB306 (fun I314 J315 R316 hB317 hF318 hK319 hI320 hZ321 hJ322 jz323 => ?_)
  have hZ324 : KI (zk_X4_init_49 ++ (zk_X9_init_45 ++ (zk_X5_init_42 ++ (zk_X8_init_39 ++ (zk_X7_init_35 ++ (zk_X2_init_27 ++ (zk_X2_init_21 ++ (zk_X0_init_15 ++ (zk_X0_init_9 ++ (zk_X3_init_7 ++ (zk_X1_init_6 ++ (zk_X6_init_3 ++ ([]))))))))))))) I314 := hZ321.app (hZ307.fr hI320 rfl)
  have hI325 : FI 1 I I314 := fun o ho => (hI320 o (by omega)).trans (hI308 o ho)
  have hJ326 : FJ 1 J J315 := fun o ho => (hJ322 o (by omega)).trans (hJ309 o ho)
  have jf327 : ∀ k, k < 22 → J315 5 k = rsv.getD k 0 := fun k hk => (congrFun (hJ322 5 (by decide)) k).trans (jf311 k hk)
  have jz328 : J315 47 0 = 0 := (congrFun (hJ322 47 (by decide)) 0).trans jz310
  have hK329 : RK (lk_X4_init_49 ++ ((1, 17, 45) :: (lk_X9_init_45 ++ ((1, 16, 42) :: (lk_X5_init_42 ++ ((1, 15, 39) :: (lk_X8_init_39 ++ ((1, 14, 35) :: (lk_X7_init_35 ++ ((1, 12, 34) :: ((1, 11, 33) :: ((1, 10, 27) :: (lk_X2_init_27 ++ ((1, 9, 21) :: (lk_X2_init_21 ++ ((1, 8, 15) :: (lk_X0_init_15 ++ ((1, 7, 9) :: (lk_X0_init_9 ++ ((1, 6, 7) :: (lk_X3_init_7 ++ ((1, 5, 6) :: ((1, 4, 3) :: (lk_X6_init_3 ++ ((1, 3, 2) :: ([])))))))))))))))))))))))))) R316 := hK319.app (hK312.fr hF318 rfl)
  have hF330 : FR 1 R R316 := fun o ho => (hF318 o (by omega)).trans (hF313 o ho)
  have hK331 : RK ((1, 18, 49) :: (lk_X4_init_49 ++ ((1, 17, 45) :: (lk_X9_init_45 ++ ((1, 16, 42) :: (lk_X5_init_42 ++ ((1, 15, 39) :: (lk_X8_init_39 ++ ((1, 14, 35) :: (lk_X7_init_35 ++ ((1, 12, 34) :: ((1, 11, 33) :: ((1, 10, 27) :: (lk_X2_init_27 ++ ((1, 9, 21) :: (lk_X2_init_21 ++ ((1, 8, 15) :: (lk_X0_init_15 ++ ((1, 7, 9) :: (lk_X0_init_9 ++ ((1, 6, 7) :: (lk_X3_init_7 ++ ((1, 5, 6) :: ((1, 4, 3) :: (lk_X6_init_3 ++ ((1, 3, 2) :: ([]))))))))))))))))))))))))))) (uR R316 1 18 49) := hK329.u rfl
  have hF332 : FR 1 R (uR R316 1 18 49) := hF330.u rfl
  have hB333 : BZ (zI I314 51) := hB317.z
  have hZ334 : KI (zk_X4_init_49 ++ (zk_X9_init_45 ++ (zk_X5_init_42 ++ (zk_X8_init_39 ++ (zk_X7_init_35 ++ (zk_X2_init_27 ++ (zk_X2_init_21 ++ (zk_X0_init_15 ++ (zk_X0_init_9 ++ (zk_X3_init_7 ++ (zk_X1_init_6 ++ (zk_X6_init_3 ++ ([]))))))))))))) (zI I314 51) := hZ324.z rfl
  have hI335 : FI 1 I (zI I314 51) := hI325.z rfl
  have hJ336 : FJ 1 J (zJ J315 51) := hJ326.z rfl
  have jz337 : (zJ J315 51) 47 0 = 0 := JZ.z jz328 rfl
  have jf338 : ∀ k, k < 22 → (zJ J315 51) 5 k = rsv.getD k 0 := J5.z jf327 rfl
  have hK339 : RK ((1, 18, 49) :: (lk_X4_init_49 ++ ((1, 17, 45) :: (lk_X9_init_45 ++ ((1, 16, 42) :: (lk_X5_init_42 ++ ((1, 15, 39) :: (lk_X8_init_39 ++ ((1, 14, 35) :: (lk_X7_init_35 ++ ((1, 12, 34) :: ((1, 11, 33) :: ((1, 10, 27) :: (lk_X2_init_27 ++ ((1, 9, 21) :: (lk_X2_init_21 ++ ((1, 8, 15) :: (lk_X0_init_15 ++ ((1, 7, 9) :: (lk_X0_init_9 ++ ((1, 6, 7) :: (lk_X3_init_7 ++ ((1, 5, 6) :: ((1, 4, 3) :: (lk_X6_init_3 ++ ((1, 3, 2) :: ([]))))))))))))))))))))))))))) (zR (uR R316 1 18 49) 51) := hK331.z rfl
  have hF340 : FR 1 R (zR (uR R316 1 18 49) 51) := hF332.z rfl
  refine ct_X4_init_51 hB333 (fun I341 J342 R343 hB344 hF345 hK346 hI347 hZ348 hJ349 jz350 => ?_)
  have hZ351 : KI (zk_X4_init_51 ++ (zk_X4_init_49 ++ (zk_X9_init_45 ++ (zk_X5_init_42 ++ (zk_X8_init_39 ++ (zk_X7_init_35 ++ (zk_X2_init_27 ++ (zk_X2_init_21 ++ (zk_X0_init_15 ++ (zk_X0_init_9 ++ (zk_X3_init_7 ++ (zk_X1_init_6 ++ (zk_X6_init_3 ++ ([])))))))))))))) I341 := hZ348.app (hZ334.fr hI347 rfl)
  have hI352 : FI 1 I I341 := fun o ho => (hI347 o (by omega)).trans (hI335 o ho)
  have hJ353 : FJ 1 J J342 := fun o ho => (hJ349 o (by omega)).trans (hJ336 o ho)
  have jf354 : ∀ k, k < 22 → J342 5 k = rsv.getD k 0 := fun k hk => (congrFun (hJ349 5 (by decide)) k).trans (jf338 k hk)
  have jz355 : J342 47 0 = 0 := (congrFun (hJ349 47 (by decide)) 0).trans jz337
  have hK356 : RK (lk_X4_init_51 ++ ((1, 18, 49) :: (lk_X4_init_49 ++ ((1, 17, 45) :: (lk_X9_init_45 ++ ((1, 16, 42) :: (lk_X5_init_42 ++ ((1, 15, 39) :: (lk_X8_init_39 ++ ((1, 14, 35) :: (lk_X7_init_35 ++ ((1, 12, 34) :: ((1, 11, 33) :: ((1, 10, 27) :: (lk_X2_init_27 ++ ((1, 9, 21) :: (lk_X2_init_21 ++ ((1, 8, 15) :: (lk_X0_init_15 ++ ((1, 7, 9) :: (lk_X0_init_9 ++ ((1, 6, 7) :: (lk_X3_init_7 ++ ((1, 5, 6) :: ((1, 4, 3) :: (lk_X6_init_3 ++ ((1, 3, 2) :: ([])))))))))))))))))))))))))))) R343 := hK346.app (hK339.fr hF345 rfl)
  have hF357 : FR 1 R R343 := fun o ho => (hF345 o (by omega)).trans (hF340 o ho)
  have hK358 : RK ((1, 19, 51) :: (lk_X4_init_51 ++ ((1, 18, 49) :: (lk_X4_init_49 ++ ((1, 17, 45) :: (lk_X9_init_45 ++ ((1, 16, 42) :: (lk_X5_init_42 ++ ((1, 15, 39) :: (lk_X8_init_39 ++ ((1, 14, 35) :: (lk_X7_init_35 ++ ((1, 12, 34) :: ((1, 11, 33) :: ((1, 10, 27) :: (lk_X2_init_27 ++ ((1, 9, 21) :: (lk_X2_init_21 ++ ((1, 8, 15) :: (lk_X0_init_15 ++ ((1, 7, 9) :: (lk_X0_init_9 ++ ((1, 6, 7) :: (lk_X3_init_7 ++ ((1, 5, 6) :: ((1, 4, 3) :: (lk_X6_init_3 ++ ((1, 3, 2) :: ([]))))))))))))))))))))))))))))) (uR R343 1 19 51) := hK356.u rfl
  have hF359 : FR 1 R (uR R343 1 19 51) := hF357.u rfl
  refine cs_X11_init_1_193_52 hc _ _ _ ?_
  refine ⟨fun c => absurd c (by decide), fun _ => ?_⟩
  refine ⟨hK358.ne (show lkq ((1, 19, 51) :: (lk_X4_init_51 ++ ((1, 18, 49) :: (lk_X4_init_49 ++ ((1, 17, 45) :: (lk_X9_init_45 ++ ((1, 16, 42) :: (lk_X5_init_42 ++ ((1, 15, 39) :: (lk_X8_init_39 ++ ((1, 14, 35) :: (lk_X7_init_35 ++ ((1, 12, 34) :: ((1, 11, 33) :: ((1, 10, 27) :: (lk_X2_init_27 ++ ((1, 9, 21) :: (lk_X2_init_21 ++ ((1, 8, 15) :: (lk_X0_init_15 ++ ((1, 7, 9) :: (lk_X0_init_9 ++ ((1, 6, 7) :: (lk_X3_init_7 ++ ((1, 5, 6) :: ((1, 4, 3) :: (lk_X6_init_3 ++ ((1, 3, 2) :: ([]))))))))))))))))))))))))))))) 1 3 = true from rfl), ?_⟩
  have hB360 : BZ (zI I341 53) := hB344.z
  have hZ361 : KI (zk_X4_init_51 ++ (zk_X4_init_49 ++ (zk_X9_init_45 ++ (zk_X5_init_42 ++ (zk_X8_init_39 ++ (zk_X7_init_35 ++ (zk_X2_init_27 ++ (zk_X2_init_21 ++ (zk_X0_init_15 ++ (zk_X0_init_9 ++ (zk_X3_init_7 ++ (zk_X1_init_6 ++ (zk_X6_init_3 ++ ([])))))))))))))) (zI I341 53) := hZ351.z rfl
  have hI362 : FI 1 I (zI I341 53) := hI352.z rfl
  have hJ363 : FJ 1 J (zJ J342 53) := hJ353.z rfl
  have jz364 : (zJ J342 53) 47 0 = 0 := JZ.z jz355 rfl
  have jf365 : ∀ k, k < 22 → (zJ J342 53) 5 k = rsv.getD k 0 := J5.z jf354 rfl
  have hK366 : RK ((1, 19, 51) :: (lk_X4_init_51 ++ ((1, 18, 49) :: (lk_X4_init_49 ++ ((1, 17, 45) :: (lk_X9_init_45 ++ ((1, 16, 42) :: (lk_X5_init_42 ++ ((1, 15, 39) :: (lk_X8_init_39 ++ ((1, 14, 35) :: (lk_X7_init_35 ++ ((1, 12, 34) :: ((1, 11, 33) :: ((1, 10, 27) :: (lk_X2_init_27 ++ ((1, 9, 21) :: (lk_X2_init_21 ++ ((1, 8, 15) :: (lk_X0_init_15 ++ ((1, 7, 9) :: (lk_X0_init_9 ++ ((1, 6, 7) :: (lk_X3_init_7 ++ ((1, 5, 6) :: ((1, 4, 3) :: (lk_X6_init_3 ++ ((1, 3, 2) :: ([]))))))))))))))))))))))))))))) (zR (uR R343 1 19 51) 53) := hK358.z rfl
  have hF367 : FR 1 R (zR (uR R343 1 19 51) 53) := hF359.z rfl
  refine ct_X10_init_53 hB360 (fun I368 J369 R370 hB371 hF372 hK373 hI374 hZ375 hJ376 jz377 => ?_)
  have hZ378 : KI (zk_X10_init_53 ++ (zk_X4_init_51 ++ (zk_X4_init_49 ++ (zk_X9_init_45 ++ (zk_X5_init_42 ++ (zk_X8_init_39 ++ (zk_X7_init_35 ++ (zk_X2_init_27 ++ (zk_X2_init_21 ++ (zk_X0_init_15 ++ (zk_X0_init_9 ++ (zk_X3_init_7 ++ (zk_X1_init_6 ++ (zk_X6_init_3 ++ ([]))))))))))))))) I368 := hZ375.app (hZ361.fr hI374 rfl)
  have hI379 : FI 1 I I368 := fun o ho => (hI374 o (by omega)).trans (hI362 o ho)
  have hJ380 : FJ 1 J J369 := fun o ho => (hJ376 o (by omega)).trans (hJ363 o ho)
  have jf381 : ∀ k, k < 22 → J369 5 k = rsv.getD k 0 := fun k hk => (congrFun (hJ376 5 (by decide)) k).trans (jf365 k hk)
  have jz382 : J369 47 0 = 0 := (congrFun (hJ376 47 (by decide)) 0).trans jz364
  have hK383 : RK (lk_X10_init_53 ++ ((1, 19, 51) :: (lk_X4_init_51 ++ ((1, 18, 49) :: (lk_X4_init_49 ++ ((1, 17, 45) :: (lk_X9_init_45 ++ ((1, 16, 42) :: (lk_X5_init_42 ++ ((1, 15, 39) :: (lk_X8_init_39 ++ ((1, 14, 35) :: (lk_X7_init_35 ++ ((1, 12, 34) :: ((1, 11, 33) :: ((1, 10, 27) :: (lk_X2_init_27 ++ ((1, 9, 21) :: (lk_X2_init_21 ++ ((1, 8, 15) :: (lk_X0_init_15 ++ ((1, 7, 9) :: (lk_X0_init_9 ++ ((1, 6, 7) :: (lk_X3_init_7 ++ ((1, 5, 6) :: ((1, 4, 3) :: (lk_X6_init_3 ++ ((1, 3, 2) :: ([])))))))))))))))))))))))))))))) R370 := hK373.app (hK366.fr hF372 rfl)
  have hF384 : FR 1 R R370 := fun o ho => (hF372 o (by omega)).trans (hF367 o ho)
  refine ⟨vp_of rfl (by decide) (by decide), ?_⟩
  have hK385 : RK ((2, 0, 53) :: (lk_X10_init_53 ++ ((1, 19, 51) :: (lk_X4_init_51 ++ ((1, 18, 49) :: (lk_X4_init_49 ++ ((1, 17, 45) :: (lk_X9_init_45 ++ ((1, 16, 42) :: (lk_X5_init_42 ++ ((1, 15, 39) :: (lk_X8_init_39 ++ ((1, 14, 35) :: (lk_X7_init_35 ++ ((1, 12, 34) :: ((1, 11, 33) :: ((1, 10, 27) :: (lk_X2_init_27 ++ ((1, 9, 21) :: (lk_X2_init_21 ++ ((1, 8, 15) :: (lk_X0_init_15 ++ ((1, 7, 9) :: (lk_X0_init_9 ++ ((1, 6, 7) :: (lk_X3_init_7 ++ ((1, 5, 6) :: ((1, 4, 3) :: (lk_X6_init_3 ++ ((1, 3, 2) :: ([]))))))))))))))))))))))))))))))) (uR R370 2 (Int32.toNatClampNeg 0) 53) := hK383.u rfl
  have hF386 : FR 1 R (uR R370 2 (Int32.toNatClampNeg 0) 53) := hF384.u rfl
  refine cs_X11_init_1_193_54 hc _ _ _ ?_
  refine ⟨fun c => absurd c (by decide), fun _ => ?_⟩
  refine ⟨hK385.ne (show lkq ((2, 0, 53) :: (lk_X10_init_53 ++ ((1, 19, 51) :: (lk_X4_init_51 ++ ((1, 18, 49) :: (lk_X4_init_49 ++ ((1, 17, 45) :: (lk_X9_init_45 ++ ((1, 16, 42) :: (lk_X5_init_42 ++ ((1, 15, 39) :: (lk_X8_init_39 ++ ((1, 14, 35) :: (lk_X7_init_35 ++ ((1, 12, 34) :: ((1, 11, 33) :: ((1, 10, 27) :: (lk_X2_init_27 ++ ((1, 9, 21) :: (lk_X2_init_21 ++ ((1, 8, 15) :: (lk_X0_init_15 ++ ((1, 7, 9) :: (lk_X0_init_9 ++ ((1, 6, 7) :: (lk_X3_init_7 ++ ((1, 5, 6) :: ((1, 4, 3) :: (lk_X6_init_3 ++ ((1, 3, 2) :: ([]))))))))))))))))))))))))))))))) 1 3 = true from rfl), ?_⟩
  have hB387 : BZ (zI I368 55) := hB371.z
  have hZ388 : KI (zk_X10_init_53 ++ (zk_X4_init_51 ++ (zk_X4_init_49 ++ (zk_X9_init_45 ++ (zk_X5_init_42 ++ (zk_X8_init_39 ++ (zk_X7_init_35 ++ (zk_X2_init_27 ++ (zk_X2_init_21 ++ (zk_X0_init_15 ++ (zk_X0_init_9 ++ (zk_X3_init_7 ++ (zk_X1_init_6 ++ (zk_X6_init_3 ++ ([]))))))))))))))) (zI I368 55) := hZ378.z rfl
  have hI389 : FI 1 I (zI I368 55) := hI379.z rfl
  have hJ390 : FJ 1 J (zJ J369 55) := hJ380.z rfl
  have jz391 : (zJ J369 55) 47 0 = 0 := JZ.z jz382 rfl
  have jf392 : ∀ k, k < 22 → (zJ J369 55) 5 k = rsv.getD k 0 := J5.z jf381 rfl
  have hK393 : RK ((2, 0, 53) :: (lk_X10_init_53 ++ ((1, 19, 51) :: (lk_X4_init_51 ++ ((1, 18, 49) :: (lk_X4_init_49 ++ ((1, 17, 45) :: (lk_X9_init_45 ++ ((1, 16, 42) :: (lk_X5_init_42 ++ ((1, 15, 39) :: (lk_X8_init_39 ++ ((1, 14, 35) :: (lk_X7_init_35 ++ ((1, 12, 34) :: ((1, 11, 33) :: ((1, 10, 27) :: (lk_X2_init_27 ++ ((1, 9, 21) :: (lk_X2_init_21 ++ ((1, 8, 15) :: (lk_X0_init_15 ++ ((1, 7, 9) :: (lk_X0_init_9 ++ ((1, 6, 7) :: (lk_X3_init_7 ++ ((1, 5, 6) :: ((1, 4, 3) :: (lk_X6_init_3 ++ ((1, 3, 2) :: ([]))))))))))))))))))))))))))))))) (zR (uR R370 2 (Int32.toNatClampNeg 0) 53) 55) := hK385.z rfl
  have hF394 : FR 1 R (zR (uR R370 2 (Int32.toNatClampNeg 0) 53) 55) := hF386.z rfl
  refine ct_X10_init_55 hB387 (fun I395 J396 R397 hB398 hF399 hK400 hI401 hZ402 hJ403 jz404 => ?_)
  have hZ405 : KI (zk_X10_init_55 ++ (zk_X10_init_53 ++ (zk_X4_init_51 ++ (zk_X4_init_49 ++ (zk_X9_init_45 ++ (zk_X5_init_42 ++ (zk_X8_init_39 ++ (zk_X7_init_35 ++ (zk_X2_init_27 ++ (zk_X2_init_21 ++ (zk_X0_init_15 ++ (zk_X0_init_9 ++ (zk_X3_init_7 ++ (zk_X1_init_6 ++ (zk_X6_init_3 ++ ([])))))))))))))))) I395 := hZ402.app (hZ388.fr hI401 rfl)
  have hI406 : FI 1 I I395 := fun o ho => (hI401 o (by omega)).trans (hI389 o ho)
  have hJ407 : FJ 1 J J396 := fun o ho => (hJ403 o (by omega)).trans (hJ390 o ho)
  have jf408 : ∀ k, k < 22 → J396 5 k = rsv.getD k 0 := fun k hk => (congrFun (hJ403 5 (by decide)) k).trans (jf392 k hk)
  have jz409 : J396 47 0 = 0 := (congrFun (hJ403 47 (by decide)) 0).trans jz391
  have hK410 : RK (lk_X10_init_55 ++ ((2, 0, 53) :: (lk_X10_init_53 ++ ((1, 19, 51) :: (lk_X4_init_51 ++ ((1, 18, 49) :: (lk_X4_init_49 ++ ((1, 17, 45) :: (lk_X9_init_45 ++ ((1, 16, 42) :: (lk_X5_init_42 ++ ((1, 15, 39) :: (lk_X8_init_39 ++ ((1, 14, 35) :: (lk_X7_init_35 ++ ((1, 12, 34) :: ((1, 11, 33) :: ((1, 10, 27) :: (lk_X2_init_27 ++ ((1, 9, 21) :: (lk_X2_init_21 ++ ((1, 8, 15) :: (lk_X0_init_15 ++ ((1, 7, 9) :: (lk_X0_init_9 ++ ((1, 6, 7) :: (lk_X3_init_7 ++ ((1, 5, 6) :: ((1, 4, 3) :: (lk_X6_init_3 ++ ((1, 3, 2) :: ([])))))))))))))))))))))))))))))))) R397 := hK400.app (hK393.fr hF399 rfl)
  have hF411 : FR 1 R R397 := fun o ho => (hF399 o (by omega)).trans (hF394 o ho)
  refine ⟨vp_of rfl (by decide) (by decide), ?_⟩
  have hK412 : RK ((2, 1, 55) :: (lk_X10_init_55 ++ ((2, 0, 53) :: (lk_X10_init_53 ++ ((1, 19, 51) :: (lk_X4_init_51 ++ ((1, 18, 49) :: (lk_X4_init_49 ++ ((1, 17, 45) :: (lk_X9_init_45 ++ ((1, 16, 42) :: (lk_X5_init_42 ++ ((1, 15, 39) :: (lk_X8_init_39 ++ ((1, 14, 35) :: (lk_X7_init_35 ++ ((1, 12, 34) :: ((1, 11, 33) :: ((1, 10, 27) :: (lk_X2_init_27 ++ ((1, 9, 21) :: (lk_X2_init_21 ++ ((1, 8, 15) :: (lk_X0_init_15 ++ ((1, 7, 9) :: (lk_X0_init_9 ++ ((1, 6, 7) :: (lk_X3_init_7 ++ ((1, 5, 6) :: ((1, 4, 3) :: (lk_X6_init_3 ++ ((1, 3, 2) :: ([]))))))))))))))))))))))))))))))))) (uR R397 2 (Int32.toNatClampNeg (0 + 1)) 55) := hK410.u rfl
  have hF413 : FR 1 R (uR R397 2 (Int32.toNatClampNeg (0 + 1)) 55) := hF411.u rfl
  refine cs_X11_init_1_193_56 hc _ _ _ ?_
  refine ⟨fun c => absurd c (by decide), fun _ => ?_⟩
  refine ⟨hK412.ne (show lkq ((2, 1, 55) :: (lk_X10_init_55 ++ ((2, 0, 53) :: (lk_X10_init_53 ++ ((1, 19, 51) :: (lk_X4_init_51 ++ ((1, 18, 49) :: (lk_X4_init_49 ++ ((1, 17, 45) :: (lk_X9_init_45 ++ ((1, 16, 42) :: (lk_X5_init_42 ++ ((1, 15, 39) :: (lk_X8_init_39 ++ ((1, 14, 35) :: (lk_X7_init_35 ++ ((1, 12, 34) :: ((1, 11, 33) :: ((1, 10, 27) :: (lk_X2_init_27 ++ ((1, 9, 21) :: (lk_X2_init_21 ++ ((1, 8, 15) :: (lk_X0_init_15 ++ ((1, 7, 9) :: (lk_X0_init_9 ++ ((1, 6, 7) :: (lk_X3_init_7 ++ ((1, 5, 6) :: ((1, 4, 3) :: (lk_X6_init_3 ++ ((1, 3, 2) :: ([]))))))))))))))))))))))))))))))))) 1 3 = true from rfl), ?_⟩
  have hB414 : BZ (zI I395 57) := hB398.z
  have hZ415 : KI (zk_X10_init_55 ++ (zk_X10_init_53 ++ (zk_X4_init_51 ++ (zk_X4_init_49 ++ (zk_X9_init_45 ++ (zk_X5_init_42 ++ (zk_X8_init_39 ++ (zk_X7_init_35 ++ (zk_X2_init_27 ++ (zk_X2_init_21 ++ (zk_X0_init_15 ++ (zk_X0_init_9 ++ (zk_X3_init_7 ++ (zk_X1_init_6 ++ (zk_X6_init_3 ++ ([])))))))))))))))) (zI I395 57) := hZ405.z rfl
  have hI416 : FI 1 I (zI I395 57) := hI406.z rfl
  have hJ417 : FJ 1 J (zJ J396 57) := hJ407.z rfl
  have jz418 : (zJ J396 57) 47 0 = 0 := JZ.z jz409 rfl
  have jf419 : ∀ k, k < 22 → (zJ J396 57) 5 k = rsv.getD k 0 := J5.z jf408 rfl
  have hK420 : RK ((2, 1, 55) :: (lk_X10_init_55 ++ ((2, 0, 53) :: (lk_X10_init_53 ++ ((1, 19, 51) :: (lk_X4_init_51 ++ ((1, 18, 49) :: (lk_X4_init_49 ++ ((1, 17, 45) :: (lk_X9_init_45 ++ ((1, 16, 42) :: (lk_X5_init_42 ++ ((1, 15, 39) :: (lk_X8_init_39 ++ ((1, 14, 35) :: (lk_X7_init_35 ++ ((1, 12, 34) :: ((1, 11, 33) :: ((1, 10, 27) :: (lk_X2_init_27 ++ ((1, 9, 21) :: (lk_X2_init_21 ++ ((1, 8, 15) :: (lk_X0_init_15 ++ ((1, 7, 9) :: (lk_X0_init_9 ++ ((1, 6, 7) :: (lk_X3_init_7 ++ ((1, 5, 6) :: ((1, 4, 3) :: (lk_X6_init_3 ++ ((1, 3, 2) :: ([]))))))))))))))))))))))))))))))))) (zR (uR R397 2 (Int32.toNatClampNeg (0 + 1)) 55) 57) := hK412.z rfl
  have hF421 : FR 1 R (zR (uR R397 2 (Int32.toNatClampNeg (0 + 1)) 55) 57) := hF413.z rfl
  refine ct_X10_init_57 hB414 (fun I422 J423 R424 hB425 hF426 hK427 hI428 hZ429 hJ430 jz431 => ?_)
  have hZ432 : KI (zk_X10_init_57 ++ (zk_X10_init_55 ++ (zk_X10_init_53 ++ (zk_X4_init_51 ++ (zk_X4_init_49 ++ (zk_X9_init_45 ++ (zk_X5_init_42 ++ (zk_X8_init_39 ++ (zk_X7_init_35 ++ (zk_X2_init_27 ++ (zk_X2_init_21 ++ (zk_X0_init_15 ++ (zk_X0_init_9 ++ (zk_X3_init_7 ++ (zk_X1_init_6 ++ (zk_X6_init_3 ++ ([]))))))))))))))))) I422 := hZ429.app (hZ415.fr hI428 rfl)
  have hI433 : FI 1 I I422 := fun o ho => (hI428 o (by omega)).trans (hI416 o ho)
  have hJ434 : FJ 1 J J423 := fun o ho => (hJ430 o (by omega)).trans (hJ417 o ho)
  have jf435 : ∀ k, k < 22 → J423 5 k = rsv.getD k 0 := fun k hk => (congrFun (hJ430 5 (by decide)) k).trans (jf419 k hk)
  have jz436 : J423 47 0 = 0 := (congrFun (hJ430 47 (by decide)) 0).trans jz418
  have hK437 : RK (lk_X10_init_57 ++ ((2, 1, 55) :: (lk_X10_init_55 ++ ((2, 0, 53) :: (lk_X10_init_53 ++ ((1, 19, 51) :: (lk_X4_init_51 ++ ((1, 18, 49) :: (lk_X4_init_49 ++ ((1, 17, 45) :: (lk_X9_init_45 ++ ((1, 16, 42) :: (lk_X5_init_42 ++ ((1, 15, 39) :: (lk_X8_init_39 ++ ((1, 14, 35) :: (lk_X7_init_35 ++ ((1, 12, 34) :: ((1, 11, 33) :: ((1, 10, 27) :: (lk_X2_init_27 ++ ((1, 9, 21) :: (lk_X2_init_21 ++ ((1, 8, 15) :: (lk_X0_init_15 ++ ((1, 7, 9) :: (lk_X0_init_9 ++ ((1, 6, 7) :: (lk_X3_init_7 ++ ((1, 5, 6) :: ((1, 4, 3) :: (lk_X6_init_3 ++ ((1, 3, 2) :: ([])))))))))))))))))))))))))))))))))) R424 := hK427.app (hK420.fr hF426 rfl)
  have hF438 : FR 1 R R424 := fun o ho => (hF426 o (by omega)).trans (hF421 o ho)
  refine ⟨vp_of rfl (by decide) (by decide), ?_⟩
  have hK439 : RK ((2, 2, 57) :: (lk_X10_init_57 ++ ((2, 1, 55) :: (lk_X10_init_55 ++ ((2, 0, 53) :: (lk_X10_init_53 ++ ((1, 19, 51) :: (lk_X4_init_51 ++ ((1, 18, 49) :: (lk_X4_init_49 ++ ((1, 17, 45) :: (lk_X9_init_45 ++ ((1, 16, 42) :: (lk_X5_init_42 ++ ((1, 15, 39) :: (lk_X8_init_39 ++ ((1, 14, 35) :: (lk_X7_init_35 ++ ((1, 12, 34) :: ((1, 11, 33) :: ((1, 10, 27) :: (lk_X2_init_27 ++ ((1, 9, 21) :: (lk_X2_init_21 ++ ((1, 8, 15) :: (lk_X0_init_15 ++ ((1, 7, 9) :: (lk_X0_init_9 ++ ((1, 6, 7) :: (lk_X3_init_7 ++ ((1, 5, 6) :: ((1, 4, 3) :: (lk_X6_init_3 ++ ((1, 3, 2) :: ([]))))))))))))))))))))))))))))))))))) (uR R424 2 (Int32.toNatClampNeg ((0 + 1) + 1)) 57) := hK437.u rfl
  have hF440 : FR 1 R (uR R424 2 (Int32.toNatClampNeg ((0 + 1) + 1)) 57) := hF438.u rfl
  refine cs_X11_init_1_193_58 hc _ _ _ ?_
  refine ⟨fun c => absurd c (by decide), fun _ => ?_⟩
  refine ⟨hK439.ne (show lkq ((2, 2, 57) :: (lk_X10_init_57 ++ ((2, 1, 55) :: (lk_X10_init_55 ++ ((2, 0, 53) :: (lk_X10_init_53 ++ ((1, 19, 51) :: (lk_X4_init_51 ++ ((1, 18, 49) :: (lk_X4_init_49 ++ ((1, 17, 45) :: (lk_X9_init_45 ++ ((1, 16, 42) :: (lk_X5_init_42 ++ ((1, 15, 39) :: (lk_X8_init_39 ++ ((1, 14, 35) :: (lk_X7_init_35 ++ ((1, 12, 34) :: ((1, 11, 33) :: ((1, 10, 27) :: (lk_X2_init_27 ++ ((1, 9, 21) :: (lk_X2_init_21 ++ ((1, 8, 15) :: (lk_X0_init_15 ++ ((1, 7, 9) :: (lk_X0_init_9 ++ ((1, 6, 7) :: (lk_X3_init_7 ++ ((1, 5, 6) :: ((1, 4, 3) :: (lk_X6_init_3 ++ ((1, 3, 2) :: ([]))))))))))))))))))))))))))))))))))) 1 3 = true from rfl), ?_⟩
  have hB441 : BZ (zI I422 59) := hB425.z
  have hZ442 : KI (zk_X10_init_57 ++ (zk_X10_init_55 ++ (zk_X10_init_53 ++ (zk_X4_init_51 ++ (zk_X4_init_49 ++ (zk_X9_init_45 ++ (zk_X5_init_42 ++ (zk_X8_init_39 ++ (zk_X7_init_35 ++ (zk_X2_init_27 ++ (zk_X2_init_21 ++ (zk_X0_init_15 ++ (zk_X0_init_9 ++ (zk_X3_init_7 ++ (zk_X1_init_6 ++ (zk_X6_init_3 ++ ([]))))))))))))))))) (zI I422 59) := hZ432.z rfl
  have hI443 : FI 1 I (zI I422 59) := hI433.z rfl
  have hJ444 : FJ 1 J (zJ J423 59) := hJ434.z rfl
  have jz445 : (zJ J423 59) 47 0 = 0 := JZ.z jz436 rfl
  have jf446 : ∀ k, k < 22 → (zJ J423 59) 5 k = rsv.getD k 0 := J5.z jf435 rfl
  have hK447 : RK ((2, 2, 57) :: (lk_X10_init_57 ++ ((2, 1, 55) :: (lk_X10_init_55 ++ ((2, 0, 53) :: (lk_X10_init_53 ++ ((1, 19, 51) :: (lk_X4_init_51 ++ ((1, 18, 49) :: (lk_X4_init_49 ++ ((1, 17, 45) :: (lk_X9_init_45 ++ ((1, 16, 42) :: (lk_X5_init_42 ++ ((1, 15, 39) :: (lk_X8_init_39 ++ ((1, 14, 35) :: (lk_X7_init_35 ++ ((1, 12, 34) :: ((1, 11, 33) :: ((1, 10, 27) :: (lk_X2_init_27 ++ ((1, 9, 21) :: (lk_X2_init_21 ++ ((1, 8, 15) :: (lk_X0_init_15 ++ ((1, 7, 9) :: (lk_X0_init_9 ++ ((1, 6, 7) :: (lk_X3_init_7 ++ ((1, 5, 6) :: ((1, 4, 3) :: (lk_X6_init_3 ++ ((1, 3, 2) :: ([]))))))))))))))))))))))))))))))))))) (zR (uR R424 2 (Int32.toNatClampNeg ((0 + 1) + 1)) 57) 59) := hK439.z rfl
  have hF448 : FR 1 R (zR (uR R424 2 (Int32.toNatClampNeg ((0 + 1) + 1)) 57) 59) := hF440.z rfl
  refine ct_X10_init_59 hB441 (fun I449 J450 R451 hB452 hF453 hK454 hI455 hZ456 hJ457 jz458 => ?_)
  have hZ459 : KI (zk_X10_init_59 ++ (zk_X10_init_57 ++ (zk_X10_init_55 ++ (zk_X10_init_53 ++ (zk_X4_init_51 ++ (zk_X4_init_49 ++ (zk_X9_init_45 ++ (zk_X5_init_42 ++ (zk_X8_init_39 ++ (zk_X7_init_35 ++ (zk_X2_init_27 ++ (zk_X2_init_21 ++ (zk_X0_init_15 ++ (zk_X0_init_9 ++ (zk_X3_init_7 ++ (zk_X1_init_6 ++ (zk_X6_init_3 ++ ([])))))))))))))))))) I449 := hZ456.app (hZ442.fr hI455 rfl)
  have hI460 : FI 1 I I449 := fun o ho => (hI455 o (by omega)).trans (hI443 o ho)
  have hJ461 : FJ 1 J J450 := fun o ho => (hJ457 o (by omega)).trans (hJ444 o ho)
  have jf462 : ∀ k, k < 22 → J450 5 k = rsv.getD k 0 := fun k hk => (congrFun (hJ457 5 (by decide)) k).trans (jf446 k hk)
  have jz463 : J450 47 0 = 0 := (congrFun (hJ457 47 (by decide)) 0).trans jz445
  have hK464 : RK (lk_X10_init_59 ++ ((2, 2, 57) :: (lk_X10_init_57 ++ ((2, 1, 55) :: (lk_X10_init_55 ++ ((2, 0, 53) :: (lk_X10_init_53 ++ ((1, 19, 51) :: (lk_X4_init_51 ++ ((1, 18, 49) :: (lk_X4_init_49 ++ ((1, 17, 45) :: (lk_X9_init_45 ++ ((1, 16, 42) :: (lk_X5_init_42 ++ ((1, 15, 39) :: (lk_X8_init_39 ++ ((1, 14, 35) :: (lk_X7_init_35 ++ ((1, 12, 34) :: ((1, 11, 33) :: ((1, 10, 27) :: (lk_X2_init_27 ++ ((1, 9, 21) :: (lk_X2_init_21 ++ ((1, 8, 15) :: (lk_X0_init_15 ++ ((1, 7, 9) :: (lk_X0_init_9 ++ ((1, 6, 7) :: (lk_X3_init_7 ++ ((1, 5, 6) :: ((1, 4, 3) :: (lk_X6_init_3 ++ ((1, 3, 2) :: ([])))))))))))))))))))))))))))))))))))) R451 := hK454.app (hK447.fr hF453 rfl)
  have hF465 : FR 1 R R451 := fun o ho => (hF453 o (by omega)).trans (hF448 o ho)
  refine ⟨vp_of rfl (by decide) (by decide), ?_⟩
  have hK466 : RK ((2, 3, 59) :: (lk_X10_init_59 ++ ((2, 2, 57) :: (lk_X10_init_57 ++ ((2, 1, 55) :: (lk_X10_init_55 ++ ((2, 0, 53) :: (lk_X10_init_53 ++ ((1, 19, 51) :: (lk_X4_init_51 ++ ((1, 18, 49) :: (lk_X4_init_49 ++ ((1, 17, 45) :: (lk_X9_init_45 ++ ((1, 16, 42) :: (lk_X5_init_42 ++ ((1, 15, 39) :: (lk_X8_init_39 ++ ((1, 14, 35) :: (lk_X7_init_35 ++ ((1, 12, 34) :: ((1, 11, 33) :: ((1, 10, 27) :: (lk_X2_init_27 ++ ((1, 9, 21) :: (lk_X2_init_21 ++ ((1, 8, 15) :: (lk_X0_init_15 ++ ((1, 7, 9) :: (lk_X0_init_9 ++ ((1, 6, 7) :: (lk_X3_init_7 ++ ((1, 5, 6) :: ((1, 4, 3) :: (lk_X6_init_3 ++ ((1, 3, 2) :: ([]))))))))))))))))))))))))))))))))))))) (uR R451 2 (Int32.toNatClampNeg (((0 + 1) + 1) + 1)) 59) := hK464.u rfl
  have hF467 : FR 1 R (uR R451 2 (Int32.toNatClampNeg (((0 + 1) + 1) + 1)) 59) := hF465.u rfl
  refine cs_X11_init_1_193_60 hc _ _ _ ?_
  refine ⟨fun _ => ?_, fun c => absurd (by decide) c⟩
  refine cs_X11_init_1_219_60 hc _ _ _ ?_
  refine ⟨fun c => absurd c (by decide), fun _ => ?_⟩
  refine ⟨hK466.ne (show lkq ((2, 3, 59) :: (lk_X10_init_59 ++ ((2, 2, 57) :: (lk_X10_init_57 ++ ((2, 1, 55) :: (lk_X10_init_55 ++ ((2, 0, 53) :: (lk_X10_init_53 ++ ((1, 19, 51) :: (lk_X4_init_51 ++ ((1, 18, 49) :: (lk_X4_init_49 ++ ((1, 17, 45) :: (lk_X9_init_45 ++ ((1, 16, 42) :: (lk_X5_init_42 ++ ((1, 15, 39) :: (lk_X8_init_39 ++ ((1, 14, 35) :: (lk_X7_init_35 ++ ((1, 12, 34) :: ((1, 11, 33) :: ((1, 10, 27) :: (lk_X2_init_27 ++ ((1, 9, 21) :: (lk_X2_init_21 ++ ((1, 8, 15) :: (lk_X0_init_15 ++ ((1, 7, 9) :: (lk_X0_init_9 ++ ((1, 6, 7) :: (lk_X3_init_7 ++ ((1, 5, 6) :: ((1, 4, 3) :: (lk_X6_init_3 ++ ((1, 3, 2) :: ([]))))))))))))))))))))))))))))))))))))) 1 11 = true from rfl), ?_⟩
  have hB468 : BZ (zI I449 61) := hB452.z
  have hZ469 : KI (zk_X10_init_59 ++ (zk_X10_init_57 ++ (zk_X10_init_55 ++ (zk_X10_init_53 ++ (zk_X4_init_51 ++ (zk_X4_init_49 ++ (zk_X9_init_45 ++ (zk_X5_init_42 ++ (zk_X8_init_39 ++ (zk_X7_init_35 ++ (zk_X2_init_27 ++ (zk_X2_init_21 ++ (zk_X0_init_15 ++ (zk_X0_init_9 ++ (zk_X3_init_7 ++ (zk_X1_init_6 ++ (zk_X6_init_3 ++ ([])))))))))))))))))) (zI I449 61) := hZ459.z rfl
  have hI470 : FI 1 I (zI I449 61) := hI460.z rfl
  have hJ471 : FJ 1 J (zJ J450 61) := hJ461.z rfl
  have jz472 : (zJ J450 61) 47 0 = 0 := JZ.z jz463 rfl
  have jf473 : ∀ k, k < 22 → (zJ J450 61) 5 k = rsv.getD k 0 := J5.z jf462 rfl
  have hK474 : RK ((2, 3, 59) :: (lk_X10_init_59 ++ ((2, 2, 57) :: (lk_X10_init_57 ++ ((2, 1, 55) :: (lk_X10_init_55 ++ ((2, 0, 53) :: (lk_X10_init_53 ++ ((1, 19, 51) :: (lk_X4_init_51 ++ ((1, 18, 49) :: (lk_X4_init_49 ++ ((1, 17, 45) :: (lk_X9_init_45 ++ ((1, 16, 42) :: (lk_X5_init_42 ++ ((1, 15, 39) :: (lk_X8_init_39 ++ ((1, 14, 35) :: (lk_X7_init_35 ++ ((1, 12, 34) :: ((1, 11, 33) :: ((1, 10, 27) :: (lk_X2_init_27 ++ ((1, 9, 21) :: (lk_X2_init_21 ++ ((1, 8, 15) :: (lk_X0_init_15 ++ ((1, 7, 9) :: (lk_X0_init_9 ++ ((1, 6, 7) :: (lk_X3_init_7 ++ ((1, 5, 6) :: ((1, 4, 3) :: (lk_X6_init_3 ++ ((1, 3, 2) :: ([]))))))))))))))))))))))))))))))))))))) (zR (uR R451 2 (Int32.toNatClampNeg (((0 + 1) + 1) + 1)) 59) 61) := hK466.z rfl
  have hF475 : FR 1 R (zR (uR R451 2 (Int32.toNatClampNeg (((0 + 1) + 1) + 1)) 59) 61) := hF467.z rfl
  refine ct_X0_init_61 hB468 (fun I476 J477 R478 hB479 hF480 hK481 hI482 hZ483 hJ484 jz485 => ?_)
  have hZ486 : KI (zk_X0_init_61 ++ (zk_X10_init_59 ++ (zk_X10_init_57 ++ (zk_X10_init_55 ++ (zk_X10_init_53 ++ (zk_X4_init_51 ++ (zk_X4_init_49 ++ (zk_X9_init_45 ++ (zk_X5_init_42 ++ (zk_X8_init_39 ++ (zk_X7_init_35 ++ (zk_X2_init_27 ++ (zk_X2_init_21 ++ (zk_X0_init_15 ++ (zk_X0_init_9 ++ (zk_X3_init_7 ++ (zk_X1_init_6 ++ (zk_X6_init_3 ++ ([]))))))))))))))))))) I476 := hZ483.app (hZ469.fr hI482 rfl)
  have hI487 : FI 1 I I476 := fun o ho => (hI482 o (by omega)).trans (hI470 o ho)
  have hJ488 : FJ 1 J J477 := fun o ho => (hJ484 o (by omega)).trans (hJ471 o ho)
  have jf489 : ∀ k, k < 22 → J477 5 k = rsv.getD k 0 := fun k hk => (congrFun (hJ484 5 (by decide)) k).trans (jf473 k hk)
  have jz490 : J477 47 0 = 0 := (congrFun (hJ484 47 (by decide)) 0).trans jz472
  have hK491 : RK (lk_X0_init_61 ++ ((2, 3, 59) :: (lk_X10_init_59 ++ ((2, 2, 57) :: (lk_X10_init_57 ++ ((2, 1, 55) :: (lk_X10_init_55 ++ ((2, 0, 53) :: (lk_X10_init_53 ++ ((1, 19, 51) :: (lk_X4_init_51 ++ ((1, 18, 49) :: (lk_X4_init_49 ++ ((1, 17, 45) :: (lk_X9_init_45 ++ ((1, 16, 42) :: (lk_X5_init_42 ++ ((1, 15, 39) :: (lk_X8_init_39 ++ ((1, 14, 35) :: (lk_X7_init_35 ++ ((1, 12, 34) :: ((1, 11, 33) :: ((1, 10, 27) :: (lk_X2_init_27 ++ ((1, 9, 21) :: (lk_X2_init_21 ++ ((1, 8, 15) :: (lk_X0_init_15 ++ ((1, 7, 9) :: (lk_X0_init_9 ++ ((1, 6, 7) :: (lk_X3_init_7 ++ ((1, 5, 6) :: ((1, 4, 3) :: (lk_X6_init_3 ++ ((1, 3, 2) :: ([])))))))))))))))))))))))))))))))))))))) R478 := hK481.app (hK474.fr hF480 rfl)
  have hF492 : FR 1 R R478 := fun o ho => (hF480 o (by omega)).trans (hF475 o ho)
  refine ⟨vp_of rfl (by decide) (by decide), ?_⟩
  have hK493 : RK ((33, 0, 61) :: (lk_X0_init_61 ++ ((2, 3, 59) :: (lk_X10_init_59 ++ ((2, 2, 57) :: (lk_X10_init_57 ++ ((2, 1, 55) :: (lk_X10_init_55 ++ ((2, 0, 53) :: (lk_X10_init_53 ++ ((1, 19, 51) :: (lk_X4_init_51 ++ ((1, 18, 49) :: (lk_X4_init_49 ++ ((1, 17, 45) :: (lk_X9_init_45 ++ ((1, 16, 42) :: (lk_X5_init_42 ++ ((1, 15, 39) :: (lk_X8_init_39 ++ ((1, 14, 35) :: (lk_X7_init_35 ++ ((1, 12, 34) :: ((1, 11, 33) :: ((1, 10, 27) :: (lk_X2_init_27 ++ ((1, 9, 21) :: (lk_X2_init_21 ++ ((1, 8, 15) :: (lk_X0_init_15 ++ ((1, 7, 9) :: (lk_X0_init_9 ++ ((1, 6, 7) :: (lk_X3_init_7 ++ ((1, 5, 6) :: ((1, 4, 3) :: (lk_X6_init_3 ++ ((1, 3, 2) :: ([]))))))))))))))))))))))))))))))))))))))) (uR R478 33 (Int32.toNatClampNeg 0) 61) := hK491.u rfl
  have hF494 : FR 1 R (uR R478 33 (Int32.toNatClampNeg 0) 61) := hF492.u rfl
  refine ⟨hK493.ne (show lkq ((33, 0, 61) :: (lk_X0_init_61 ++ ((2, 3, 59) :: (lk_X10_init_59 ++ ((2, 2, 57) :: (lk_X10_init_57 ++ ((2, 1, 55) :: (lk_X10_init_55 ++ ((2, 0, 53) :: (lk_X10_init_53 ++ ((1, 19, 51) :: (lk_X4_init_51 ++ ((1, 18, 49) :: (lk_X4_init_49 ++ ((1, 17, 45) :: (lk_X9_init_45 ++ ((1, 16, 42) :: (lk_X5_init_42 ++ ((1, 15, 39) :: (lk_X8_init_39 ++ ((1, 14, 35) :: (lk_X7_init_35 ++ ((1, 12, 34) :: ((1, 11, 33) :: ((1, 10, 27) :: (lk_X2_init_27 ++ ((1, 9, 21) :: (lk_X2_init_21 ++ ((1, 8, 15) :: (lk_X0_init_15 ++ ((1, 7, 9) :: (lk_X0_init_9 ++ ((1, 6, 7) :: (lk_X3_init_7 ++ ((1, 5, 6) :: ((1, 4, 3) :: (lk_X6_init_3 ++ ((1, 3, 2) :: ([]))))))))))))))))))))))))))))))))))))))) 1 12 = true from rfl), ?_⟩
  have hB495 : BZ (zI I476 67) := hB479.z
  have hZ496 : KI (zk_X0_init_61 ++ (zk_X10_init_59 ++ (zk_X10_init_57 ++ (zk_X10_init_55 ++ (zk_X10_init_53 ++ (zk_X4_init_51 ++ (zk_X4_init_49 ++ (zk_X9_init_45 ++ (zk_X5_init_42 ++ (zk_X8_init_39 ++ (zk_X7_init_35 ++ (zk_X2_init_27 ++ (zk_X2_init_21 ++ (zk_X0_init_15 ++ (zk_X0_init_9 ++ (zk_X3_init_7 ++ (zk_X1_init_6 ++ (zk_X6_init_3 ++ ([]))))))))))))))))))) (zI I476 67) := hZ486.z rfl
  have hI497 : FI 1 I (zI I476 67) := hI487.z rfl
  have hJ498 : FJ 1 J (zJ J477 67) := hJ488.z rfl
  have jz499 : (zJ J477 67) 47 0 = 0 := JZ.z jz490 rfl
  have jf500 : ∀ k, k < 22 → (zJ J477 67) 5 k = rsv.getD k 0 := J5.z jf489 rfl
  have hK501 : RK ((33, 0, 61) :: (lk_X0_init_61 ++ ((2, 3, 59) :: (lk_X10_init_59 ++ ((2, 2, 57) :: (lk_X10_init_57 ++ ((2, 1, 55) :: (lk_X10_init_55 ++ ((2, 0, 53) :: (lk_X10_init_53 ++ ((1, 19, 51) :: (lk_X4_init_51 ++ ((1, 18, 49) :: (lk_X4_init_49 ++ ((1, 17, 45) :: (lk_X9_init_45 ++ ((1, 16, 42) :: (lk_X5_init_42 ++ ((1, 15, 39) :: (lk_X8_init_39 ++ ((1, 14, 35) :: (lk_X7_init_35 ++ ((1, 12, 34) :: ((1, 11, 33) :: ((1, 10, 27) :: (lk_X2_init_27 ++ ((1, 9, 21) :: (lk_X2_init_21 ++ ((1, 8, 15) :: (lk_X0_init_15 ++ ((1, 7, 9) :: (lk_X0_init_9 ++ ((1, 6, 7) :: (lk_X3_init_7 ++ ((1, 5, 6) :: ((1, 4, 3) :: (lk_X6_init_3 ++ ((1, 3, 2) :: ([]))))))))))))))))))))))))))))))))))))))) (zR (uR R478 33 (Int32.toNatClampNeg 0) 61) 67) := hK493.z rfl
  have hF502 : FR 1 R (zR (uR R478 33 (Int32.toNatClampNeg 0) 61) 67) := hF494.z rfl
  refine ct_X2_init_67 hB495 (fun I503 J504 R505 hB506 hF507 hK508 hI509 hZ510 hJ511 jz512 => ?_)
  have hZ513 : KI (zk_X2_init_67 ++ (zk_X0_init_61 ++ (zk_X10_init_59 ++ (zk_X10_init_57 ++ (zk_X10_init_55 ++ (zk_X10_init_53 ++ (zk_X4_init_51 ++ (zk_X4_init_49 ++ (zk_X9_init_45 ++ (zk_X5_init_42 ++ (zk_X8_init_39 ++ (zk_X7_init_35 ++ (zk_X2_init_27 ++ (zk_X2_init_21 ++ (zk_X0_init_15 ++ (zk_X0_init_9 ++ (zk_X3_init_7 ++ (zk_X1_init_6 ++ (zk_X6_init_3 ++ ([])))))))))))))))))))) I503 := hZ510.app (hZ496.fr hI509 rfl)
  have hI514 : FI 1 I I503 := fun o ho => (hI509 o (by omega)).trans (hI497 o ho)
  have hJ515 : FJ 1 J J504 := fun o ho => (hJ511 o (by omega)).trans (hJ498 o ho)
  have jf516 : ∀ k, k < 22 → J504 5 k = rsv.getD k 0 := fun k hk => (congrFun (hJ511 5 (by decide)) k).trans (jf500 k hk)
  have jz517 : J504 47 0 = 0 := (congrFun (hJ511 47 (by decide)) 0).trans jz499
  have hK518 : RK (lk_X2_init_67 ++ ((33, 0, 61) :: (lk_X0_init_61 ++ ((2, 3, 59) :: (lk_X10_init_59 ++ ((2, 2, 57) :: (lk_X10_init_57 ++ ((2, 1, 55) :: (lk_X10_init_55 ++ ((2, 0, 53) :: (lk_X10_init_53 ++ ((1, 19, 51) :: (lk_X4_init_51 ++ ((1, 18, 49) :: (lk_X4_init_49 ++ ((1, 17, 45) :: (lk_X9_init_45 ++ ((1, 16, 42) :: (lk_X5_init_42 ++ ((1, 15, 39) :: (lk_X8_init_39 ++ ((1, 14, 35) :: (lk_X7_init_35 ++ ((1, 12, 34) :: ((1, 11, 33) :: ((1, 10, 27) :: (lk_X2_init_27 ++ ((1, 9, 21) :: (lk_X2_init_21 ++ ((1, 8, 15) :: (lk_X0_init_15 ++ ((1, 7, 9) :: (lk_X0_init_9 ++ ((1, 6, 7) :: (lk_X3_init_7 ++ ((1, 5, 6) :: ((1, 4, 3) :: (lk_X6_init_3 ++ ((1, 3, 2) :: ([])))))))))))))))))))))))))))))))))))))))) R505 := hK508.app (hK501.fr hF507 rfl)
  have hF519 : FR 1 R R505 := fun o ho => (hF507 o (by omega)).trans (hF502 o ho)
  refine ⟨vp_of rfl (by decide) (by decide), ?_⟩
  have hK520 : RK ((34, 0, 67) :: (lk_X2_init_67 ++ ((33, 0, 61) :: (lk_X0_init_61 ++ ((2, 3, 59) :: (lk_X10_init_59 ++ ((2, 2, 57) :: (lk_X10_init_57 ++ ((2, 1, 55) :: (lk_X10_init_55 ++ ((2, 0, 53) :: (lk_X10_init_53 ++ ((1, 19, 51) :: (lk_X4_init_51 ++ ((1, 18, 49) :: (lk_X4_init_49 ++ ((1, 17, 45) :: (lk_X9_init_45 ++ ((1, 16, 42) :: (lk_X5_init_42 ++ ((1, 15, 39) :: (lk_X8_init_39 ++ ((1, 14, 35) :: (lk_X7_init_35 ++ ((1, 12, 34) :: ((1, 11, 33) :: ((1, 10, 27) :: (lk_X2_init_27 ++ ((1, 9, 21) :: (lk_X2_init_21 ++ ((1, 8, 15) :: (lk_X0_init_15 ++ ((1, 7, 9) :: (lk_X0_init_9 ++ ((1, 6, 7) :: (lk_X3_init_7 ++ ((1, 5, 6) :: ((1, 4, 3) :: (lk_X6_init_3 ++ ((1, 3, 2) :: ([]))))))))))))))))))))))))))))))))))))))))) (uR R505 34 (Int32.toNatClampNeg 0) 67) := hK518.u rfl
  have hF521 : FR 1 R (uR R505 34 (Int32.toNatClampNeg 0) 67) := hF519.u rfl
  refine cs_X11_init_1_219_72 hc _ _ _ ?_
  refine ⟨fun c => absurd c (by decide), fun _ => ?_⟩
  refine ⟨hK520.ne (show lkq ((34, 0, 67) :: (lk_X2_init_67 ++ ((33, 0, 61) :: (lk_X0_init_61 ++ ((2, 3, 59) :: (lk_X10_init_59 ++ ((2, 2, 57) :: (lk_X10_init_57 ++ ((2, 1, 55) :: (lk_X10_init_55 ++ ((2, 0, 53) :: (lk_X10_init_53 ++ ((1, 19, 51) :: (lk_X4_init_51 ++ ((1, 18, 49) :: (lk_X4_init_49 ++ ((1, 17, 45) :: (lk_X9_init_45 ++ ((1, 16, 42) :: (lk_X5_init_42 ++ ((1, 15, 39) :: (lk_X8_init_39 ++ ((1, 14, 35) :: (lk_X7_init_35 ++ ((1, 12, 34) :: ((1, 11, 33) :: ((1, 10, 27) :: (lk_X2_init_27 ++ ((1, 9, 21) :: (lk_X2_init_21 ++ ((1, 8, 15) :: (lk_X0_init_15 ++ ((1, 7, 9) :: (lk_X0_init_9 ++ ((1, 6, 7) :: (lk_X3_init_7 ++ ((1, 5, 6) :: ((1, 4, 3) :: (lk_X6_init_3 ++ ((1, 3, 2) :: ([]))))))))))))))))))))))))))))))))))))))))) 1 11 = true from rfl), ?_⟩
  have hB522 : BZ (zI I503 73) := hB506.z
  have hZ523 : KI (zk_X2_init_67 ++ (zk_X0_init_61 ++ (zk_X10_init_59 ++ (zk_X10_init_57 ++ (zk_X10_init_55 ++ (zk_X10_init_53 ++ (zk_X4_init_51 ++ (zk_X4_init_49 ++ (zk_X9_init_45 ++ (zk_X5_init_42 ++ (zk_X8_init_39 ++ (zk_X7_init_35 ++ (zk_X2_init_27 ++ (zk_X2_init_21 ++ (zk_X0_init_15 ++ (zk_X0_init_9 ++ (zk_X3_init_7 ++ (zk_X1_init_6 ++ (zk_X6_init_3 ++ ([])))))))))))))))))))) (zI I503 73) := hZ513.z rfl
  have hI524 : FI 1 I (zI I503 73) := hI514.z rfl
  have hJ525 : FJ 1 J (zJ J504 73) := hJ515.z rfl
  have jz526 : (zJ J504 73) 47 0 = 0 := JZ.z jz517 rfl
  have jf527 : ∀ k, k < 22 → (zJ J504 73) 5 k = rsv.getD k 0 := J5.z jf516 rfl
  have hK528 : RK ((34, 0, 67) :: (lk_X2_init_67 ++ ((33, 0, 61) :: (lk_X0_init_61 ++ ((2, 3, 59) :: (lk_X10_init_59 ++ ((2, 2, 57) :: (lk_X10_init_57 ++ ((2, 1, 55) :: (lk_X10_init_55 ++ ((2, 0, 53) :: (lk_X10_init_53 ++ ((1, 19, 51) :: (lk_X4_init_51 ++ ((1, 18, 49) :: (lk_X4_init_49 ++ ((1, 17, 45) :: (lk_X9_init_45 ++ ((1, 16, 42) :: (lk_X5_init_42 ++ ((1, 15, 39) :: (lk_X8_init_39 ++ ((1, 14, 35) :: (lk_X7_init_35 ++ ((1, 12, 34) :: ((1, 11, 33) :: ((1, 10, 27) :: (lk_X2_init_27 ++ ((1, 9, 21) :: (lk_X2_init_21 ++ ((1, 8, 15) :: (lk_X0_init_15 ++ ((1, 7, 9) :: (lk_X0_init_9 ++ ((1, 6, 7) :: (lk_X3_init_7 ++ ((1, 5, 6) :: ((1, 4, 3) :: (lk_X6_init_3 ++ ((1, 3, 2) :: ([]))))))))))))))))))))))))))))))))))))))))) (zR (uR R505 34 (Int32.toNatClampNeg 0) 67) 73) := hK520.z rfl
  have hF529 : FR 1 R (zR (uR R505 34 (Int32.toNatClampNeg 0) 67) 73) := hF521.z rfl
  refine ct_X0_init_73 hB522 (fun I530 J531 R532 hB533 hF534 hK535 hI536 hZ537 hJ538 jz539 => ?_)
  have hZ540 : KI (zk_X0_init_73 ++ (zk_X2_init_67 ++ (zk_X0_init_61 ++ (zk_X10_init_59 ++ (zk_X10_init_57 ++ (zk_X10_init_55 ++ (zk_X10_init_53 ++ (zk_X4_init_51 ++ (zk_X4_init_49 ++ (zk_X9_init_45 ++ (zk_X5_init_42 ++ (zk_X8_init_39 ++ (zk_X7_init_35 ++ (zk_X2_init_27 ++ (zk_X2_init_21 ++ (zk_X0_init_15 ++ (zk_X0_init_9 ++ (zk_X3_init_7 ++ (zk_X1_init_6 ++ (zk_X6_init_3 ++ ([]))))))))))))))))))))) I530 := hZ537.app (hZ523.fr hI536 rfl)
  have hI541 : FI 1 I I530 := fun o ho => (hI536 o (by omega)).trans (hI524 o ho)
  have hJ542 : FJ 1 J J531 := fun o ho => (hJ538 o (by omega)).trans (hJ525 o ho)
  have jf543 : ∀ k, k < 22 → J531 5 k = rsv.getD k 0 := fun k hk => (congrFun (hJ538 5 (by decide)) k).trans (jf527 k hk)
  have jz544 : J531 47 0 = 0 := (congrFun (hJ538 47 (by decide)) 0).trans jz526
  have hK545 : RK (lk_X0_init_73 ++ ((34, 0, 67) :: (lk_X2_init_67 ++ ((33, 0, 61) :: (lk_X0_init_61 ++ ((2, 3, 59) :: (lk_X10_init_59 ++ ((2, 2, 57) :: (lk_X10_init_57 ++ ((2, 1, 55) :: (lk_X10_init_55 ++ ((2, 0, 53) :: (lk_X10_init_53 ++ ((1, 19, 51) :: (lk_X4_init_51 ++ ((1, 18, 49) :: (lk_X4_init_49 ++ ((1, 17, 45) :: (lk_X9_init_45 ++ ((1, 16, 42) :: (lk_X5_init_42 ++ ((1, 15, 39) :: (lk_X8_init_39 ++ ((1, 14, 35) :: (lk_X7_init_35 ++ ((1, 12, 34) :: ((1, 11, 33) :: ((1, 10, 27) :: (lk_X2_init_27 ++ ((1, 9, 21) :: (lk_X2_init_21 ++ ((1, 8, 15) :: (lk_X0_init_15 ++ ((1, 7, 9) :: (lk_X0_init_9 ++ ((1, 6, 7) :: (lk_X3_init_7 ++ ((1, 5, 6) :: ((1, 4, 3) :: (lk_X6_init_3 ++ ((1, 3, 2) :: ([])))))))))))))))))))))))))))))))))))))))))) R532 := hK535.app (hK528.fr hF534 rfl)
  have hF546 : FR 1 R R532 := fun o ho => (hF534 o (by omega)).trans (hF529 o ho)
  refine ⟨vp_of rfl (by decide) (by decide), ?_⟩
  have hK547 : RK ((33, 1, 73) :: (lk_X0_init_73 ++ ((34, 0, 67) :: (lk_X2_init_67 ++ ((33, 0, 61) :: (lk_X0_init_61 ++ ((2, 3, 59) :: (lk_X10_init_59 ++ ((2, 2, 57) :: (lk_X10_init_57 ++ ((2, 1, 55) :: (lk_X10_init_55 ++ ((2, 0, 53) :: (lk_X10_init_53 ++ ((1, 19, 51) :: (lk_X4_init_51 ++ ((1, 18, 49) :: (lk_X4_init_49 ++ ((1, 17, 45) :: (lk_X9_init_45 ++ ((1, 16, 42) :: (lk_X5_init_42 ++ ((1, 15, 39) :: (lk_X8_init_39 ++ ((1, 14, 35) :: (lk_X7_init_35 ++ ((1, 12, 34) :: ((1, 11, 33) :: ((1, 10, 27) :: (lk_X2_init_27 ++ ((1, 9, 21) :: (lk_X2_init_21 ++ ((1, 8, 15) :: (lk_X0_init_15 ++ ((1, 7, 9) :: (lk_X0_init_9 ++ ((1, 6, 7) :: (lk_X3_init_7 ++ ((1, 5, 6) :: ((1, 4, 3) :: (lk_X6_init_3 ++ ((1, 3, 2) :: ([]))))))))))))))))))))))))))))))))))))))))))) (uR R532 33 (Int32.toNatClampNeg (0 + 1)) 73) := hK545.u rfl
  have hF548 : FR 1 R (uR R532 33 (Int32.toNatClampNeg (0 + 1)) 73) := hF546.u rfl
  refine ⟨hK547.ne (show lkq ((33, 1, 73) :: (lk_X0_init_73 ++ ((34, 0, 67) :: (lk_X2_init_67 ++ ((33, 0, 61) :: (lk_X0_init_61 ++ ((2, 3, 59) :: (lk_X10_init_59 ++ ((2, 2, 57) :: (lk_X10_init_57 ++ ((2, 1, 55) :: (lk_X10_init_55 ++ ((2, 0, 53) :: (lk_X10_init_53 ++ ((1, 19, 51) :: (lk_X4_init_51 ++ ((1, 18, 49) :: (lk_X4_init_49 ++ ((1, 17, 45) :: (lk_X9_init_45 ++ ((1, 16, 42) :: (lk_X5_init_42 ++ ((1, 15, 39) :: (lk_X8_init_39 ++ ((1, 14, 35) :: (lk_X7_init_35 ++ ((1, 12, 34) :: ((1, 11, 33) :: ((1, 10, 27) :: (lk_X2_init_27 ++ ((1, 9, 21) :: (lk_X2_init_21 ++ ((1, 8, 15) :: (lk_X0_init_15 ++ ((1, 7, 9) :: (lk_X0_init_9 ++ ((1, 6, 7) :: (lk_X3_init_7 ++ ((1, 5, 6) :: ((1, 4, 3) :: (lk_X6_init_3 ++ ((1, 3, 2) :: ([]))))))))))))))))))))))))))))))))))))))))))) 1 12 = true from rfl), ?_⟩
  have hB549 : BZ (zI I530 79) := hB533.z
  have hZ550 : KI (zk_X0_init_73 ++ (zk_X2_init_67 ++ (zk_X0_init_61 ++ (zk_X10_init_59 ++ (zk_X10_init_57 ++ (zk_X10_init_55 ++ (zk_X10_init_53 ++ (zk_X4_init_51 ++ (zk_X4_init_49 ++ (zk_X9_init_45 ++ (zk_X5_init_42 ++ (zk_X8_init_39 ++ (zk_X7_init_35 ++ (zk_X2_init_27 ++ (zk_X2_init_21 ++ (zk_X0_init_15 ++ (zk_X0_init_9 ++ (zk_X3_init_7 ++ (zk_X1_init_6 ++ (zk_X6_init_3 ++ ([]))))))))))))))))))))) (zI I530 79) := hZ540.z rfl
  have hI551 : FI 1 I (zI I530 79) := hI541.z rfl
  have hJ552 : FJ 1 J (zJ J531 79) := hJ542.z rfl
  have jz553 : (zJ J531 79) 47 0 = 0 := JZ.z jz544 rfl
  have jf554 : ∀ k, k < 22 → (zJ J531 79) 5 k = rsv.getD k 0 := J5.z jf543 rfl
  have hK555 : RK ((33, 1, 73) :: (lk_X0_init_73 ++ ((34, 0, 67) :: (lk_X2_init_67 ++ ((33, 0, 61) :: (lk_X0_init_61 ++ ((2, 3, 59) :: (lk_X10_init_59 ++ ((2, 2, 57) :: (lk_X10_init_57 ++ ((2, 1, 55) :: (lk_X10_init_55 ++ ((2, 0, 53) :: (lk_X10_init_53 ++ ((1, 19, 51) :: (lk_X4_init_51 ++ ((1, 18, 49) :: (lk_X4_init_49 ++ ((1, 17, 45) :: (lk_X9_init_45 ++ ((1, 16, 42) :: (lk_X5_init_42 ++ ((1, 15, 39) :: (lk_X8_init_39 ++ ((1, 14, 35) :: (lk_X7_init_35 ++ ((1, 12, 34) :: ((1, 11, 33) :: ((1, 10, 27) :: (lk_X2_init_27 ++ ((1, 9, 21) :: (lk_X2_init_21 ++ ((1, 8, 15) :: (lk_X0_init_15 ++ ((1, 7, 9) :: (lk_X0_init_9 ++ ((1, 6, 7) :: (lk_X3_init_7 ++ ((1, 5, 6) :: ((1, 4, 3) :: (lk_X6_init_3 ++ ((1, 3, 2) :: ([]))))))))))))))))))))))))))))))))))))))))))) (zR (uR R532 33 (Int32.toNatClampNeg (0 + 1)) 73) 79) := hK547.z rfl
  have hF556 : FR 1 R (zR (uR R532 33 (Int32.toNatClampNeg (0 + 1)) 73) 79) := hF548.z rfl
  refine ct_X2_init_79 hB549 (fun I557 J558 R559 hB560 hF561 hK562 hI563 hZ564 hJ565 jz566 => ?_)
  have hZ567 : KI (zk_X2_init_79 ++ (zk_X0_init_73 ++ (zk_X2_init_67 ++ (zk_X0_init_61 ++ (zk_X10_init_59 ++ (zk_X10_init_57 ++ (zk_X10_init_55 ++ (zk_X10_init_53 ++ (zk_X4_init_51 ++ (zk_X4_init_49 ++ (zk_X9_init_45 ++ (zk_X5_init_42 ++ (zk_X8_init_39 ++ (zk_X7_init_35 ++ (zk_X2_init_27 ++ (zk_X2_init_21 ++ (zk_X0_init_15 ++ (zk_X0_init_9 ++ (zk_X3_init_7 ++ (zk_X1_init_6 ++ (zk_X6_init_3 ++ ([])))))))))))))))))))))) I557 := hZ564.app (hZ550.fr hI563 rfl)
  have hI568 : FI 1 I I557 := fun o ho => (hI563 o (by omega)).trans (hI551 o ho)
  have hJ569 : FJ 1 J J558 := fun o ho => (hJ565 o (by omega)).trans (hJ552 o ho)
  have jf570 : ∀ k, k < 22 → J558 5 k = rsv.getD k 0 := fun k hk => (congrFun (hJ565 5 (by decide)) k).trans (jf554 k hk)
  have jz571 : J558 47 0 = 0 := (congrFun (hJ565 47 (by decide)) 0).trans jz553
  have hK572 : RK (lk_X2_init_79 ++ ((33, 1, 73) :: (lk_X0_init_73 ++ ((34, 0, 67) :: (lk_X2_init_67 ++ ((33, 0, 61) :: (lk_X0_init_61 ++ ((2, 3, 59) :: (lk_X10_init_59 ++ ((2, 2, 57) :: (lk_X10_init_57 ++ ((2, 1, 55) :: (lk_X10_init_55 ++ ((2, 0, 53) :: (lk_X10_init_53 ++ ((1, 19, 51) :: (lk_X4_init_51 ++ ((1, 18, 49) :: (lk_X4_init_49 ++ ((1, 17, 45) :: (lk_X9_init_45 ++ ((1, 16, 42) :: (lk_X5_init_42 ++ ((1, 15, 39) :: (lk_X8_init_39 ++ ((1, 14, 35) :: (lk_X7_init_35 ++ ((1, 12, 34) :: ((1, 11, 33) :: ((1, 10, 27) :: (lk_X2_init_27 ++ ((1, 9, 21) :: (lk_X2_init_21 ++ ((1, 8, 15) :: (lk_X0_init_15 ++ ((1, 7, 9) :: (lk_X0_init_9 ++ ((1, 6, 7) :: (lk_X3_init_7 ++ ((1, 5, 6) :: ((1, 4, 3) :: (lk_X6_init_3 ++ ((1, 3, 2) :: ([])))))))))))))))))))))))))))))))))))))))))))) R559 := hK562.app (hK555.fr hF561 rfl)
  have hF573 : FR 1 R R559 := fun o ho => (hF561 o (by omega)).trans (hF556 o ho)
  refine ⟨vp_of rfl (by decide) (by decide), ?_⟩
  have hK574 : RK ((34, 1, 79) :: (lk_X2_init_79 ++ ((33, 1, 73) :: (lk_X0_init_73 ++ ((34, 0, 67) :: (lk_X2_init_67 ++ ((33, 0, 61) :: (lk_X0_init_61 ++ ((2, 3, 59) :: (lk_X10_init_59 ++ ((2, 2, 57) :: (lk_X10_init_57 ++ ((2, 1, 55) :: (lk_X10_init_55 ++ ((2, 0, 53) :: (lk_X10_init_53 ++ ((1, 19, 51) :: (lk_X4_init_51 ++ ((1, 18, 49) :: (lk_X4_init_49 ++ ((1, 17, 45) :: (lk_X9_init_45 ++ ((1, 16, 42) :: (lk_X5_init_42 ++ ((1, 15, 39) :: (lk_X8_init_39 ++ ((1, 14, 35) :: (lk_X7_init_35 ++ ((1, 12, 34) :: ((1, 11, 33) :: ((1, 10, 27) :: (lk_X2_init_27 ++ ((1, 9, 21) :: (lk_X2_init_21 ++ ((1, 8, 15) :: (lk_X0_init_15 ++ ((1, 7, 9) :: (lk_X0_init_9 ++ ((1, 6, 7) :: (lk_X3_init_7 ++ ((1, 5, 6) :: ((1, 4, 3) :: (lk_X6_init_3 ++ ((1, 3, 2) :: ([]))))))))))))))))))))))))))))))))))))))))))))) (uR R559 34 (Int32.toNatClampNeg (0 + 1)) 79) := hK572.u rfl
  have hF575 : FR 1 R (uR R559 34 (Int32.toNatClampNeg (0 + 1)) 79) := hF573.u rfl
  refine cs_X11_init_1_219_84 hc _ _ _ ?_
  refine ⟨fun c => absurd c (by decide), fun _ => ?_⟩
  refine ⟨hK574.ne (show lkq ((34, 1, 79) :: (lk_X2_init_79 ++ ((33, 1, 73) :: (lk_X0_init_73 ++ ((34, 0, 67) :: (lk_X2_init_67 ++ ((33, 0, 61) :: (lk_X0_init_61 ++ ((2, 3, 59) :: (lk_X10_init_59 ++ ((2, 2, 57) :: (lk_X10_init_57 ++ ((2, 1, 55) :: (lk_X10_init_55 ++ ((2, 0, 53) :: (lk_X10_init_53 ++ ((1, 19, 51) :: (lk_X4_init_51 ++ ((1, 18, 49) :: (lk_X4_init_49 ++ ((1, 17, 45) :: (lk_X9_init_45 ++ ((1, 16, 42) :: (lk_X5_init_42 ++ ((1, 15, 39) :: (lk_X8_init_39 ++ ((1, 14, 35) :: (lk_X7_init_35 ++ ((1, 12, 34) :: ((1, 11, 33) :: ((1, 10, 27) :: (lk_X2_init_27 ++ ((1, 9, 21) :: (lk_X2_init_21 ++ ((1, 8, 15) :: (lk_X0_init_15 ++ ((1, 7, 9) :: (lk_X0_init_9 ++ ((1, 6, 7) :: (lk_X3_init_7 ++ ((1, 5, 6) :: ((1, 4, 3) :: (lk_X6_init_3 ++ ((1, 3, 2) :: ([]))))))))))))))))))))))))))))))))))))))))))))) 1 11 = true from rfl), ?_⟩
  have hB576 : BZ (zI I557 85) := hB560.z
  have hZ577 : KI (zk_X2_init_79 ++ (zk_X0_init_73 ++ (zk_X2_init_67 ++ (zk_X0_init_61 ++ (zk_X10_init_59 ++ (zk_X10_init_57 ++ (zk_X10_init_55 ++ (zk_X10_init_53 ++ (zk_X4_init_51 ++ (zk_X4_init_49 ++ (zk_X9_init_45 ++ (zk_X5_init_42 ++ (zk_X8_init_39 ++ (zk_X7_init_35 ++ (zk_X2_init_27 ++ (zk_X2_init_21 ++ (zk_X0_init_15 ++ (zk_X0_init_9 ++ (zk_X3_init_7 ++ (zk_X1_init_6 ++ (zk_X6_init_3 ++ ([])))))))))))))))))))))) (zI I557 85) := hZ567.z rfl
  have hI578 : FI 1 I (zI I557 85) := hI568.z rfl
  have hJ579 : FJ 1 J (zJ J558 85) := hJ569.z rfl
  have jz580 : (zJ J558 85) 47 0 = 0 := JZ.z jz571 rfl
  have jf581 : ∀ k, k < 22 → (zJ J558 85) 5 k = rsv.getD k 0 := J5.z jf570 rfl
  have hK582 : RK ((34, 1, 79) :: (lk_X2_init_79 ++ ((33, 1, 73) :: (lk_X0_init_73 ++ ((34, 0, 67) :: (lk_X2_init_67 ++ ((33, 0, 61) :: (lk_X0_init_61 ++ ((2, 3, 59) :: (lk_X10_init_59 ++ ((2, 2, 57) :: (lk_X10_init_57 ++ ((2, 1, 55) :: (lk_X10_init_55 ++ ((2, 0, 53) :: (lk_X10_init_53 ++ ((1, 19, 51) :: (lk_X4_init_51 ++ ((1, 18, 49) :: (lk_X4_init_49 ++ ((1, 17, 45) :: (lk_X9_init_45 ++ ((1, 16, 42) :: (lk_X5_init_42 ++ ((1, 15, 39) :: (lk_X8_init_39 ++ ((1, 14, 35) :: (lk_X7_init_35 ++ ((1, 12, 34) :: ((1, 11, 33) :: ((1, 10, 27) :: (lk_X2_init_27 ++ ((1, 9, 21) :: (lk_X2_init_21 ++ ((1, 8, 15) :: (lk_X0_init_15 ++ ((1, 7, 9) :: (lk_X0_init_9 ++ ((1, 6, 7) :: (lk_X3_init_7 ++ ((1, 5, 6) :: ((1, 4, 3) :: (lk_X6_init_3 ++ ((1, 3, 2) :: ([]))))))))))))))))))))))))))))))))))))))))))))) (zR (uR R559 34 (Int32.toNatClampNeg (0 + 1)) 79) 85) := hK574.z rfl
  have hF583 : FR 1 R (zR (uR R559 34 (Int32.toNatClampNeg (0 + 1)) 79) 85) := hF575.z rfl
  refine ct_X0_init_85 hB576 (fun I584 J585 R586 hB587 hF588 hK589 hI590 hZ591 hJ592 jz593 => ?_)
  have hZ594 : KI (zk_X0_init_85 ++ (zk_X2_init_79 ++ (zk_X0_init_73 ++ (zk_X2_init_67 ++ (zk_X0_init_61 ++ (zk_X10_init_59 ++ (zk_X10_init_57 ++ (zk_X10_init_55 ++ (zk_X10_init_53 ++ (zk_X4_init_51 ++ (zk_X4_init_49 ++ (zk_X9_init_45 ++ (zk_X5_init_42 ++ (zk_X8_init_39 ++ (zk_X7_init_35 ++ (zk_X2_init_27 ++ (zk_X2_init_21 ++ (zk_X0_init_15 ++ (zk_X0_init_9 ++ (zk_X3_init_7 ++ (zk_X1_init_6 ++ (zk_X6_init_3 ++ ([]))))))))))))))))))))))) I584 := hZ591.app (hZ577.fr hI590 rfl)
  have hI595 : FI 1 I I584 := fun o ho => (hI590 o (by omega)).trans (hI578 o ho)
  have hJ596 : FJ 1 J J585 := fun o ho => (hJ592 o (by omega)).trans (hJ579 o ho)
  have jf597 : ∀ k, k < 22 → J585 5 k = rsv.getD k 0 := fun k hk => (congrFun (hJ592 5 (by decide)) k).trans (jf581 k hk)
  have jz598 : J585 47 0 = 0 := (congrFun (hJ592 47 (by decide)) 0).trans jz580
  have hK599 : RK (lk_X0_init_85 ++ ((34, 1, 79) :: (lk_X2_init_79 ++ ((33, 1, 73) :: (lk_X0_init_73 ++ ((34, 0, 67) :: (lk_X2_init_67 ++ ((33, 0, 61) :: (lk_X0_init_61 ++ ((2, 3, 59) :: (lk_X10_init_59 ++ ((2, 2, 57) :: (lk_X10_init_57 ++ ((2, 1, 55) :: (lk_X10_init_55 ++ ((2, 0, 53) :: (lk_X10_init_53 ++ ((1, 19, 51) :: (lk_X4_init_51 ++ ((1, 18, 49) :: (lk_X4_init_49 ++ ((1, 17, 45) :: (lk_X9_init_45 ++ ((1, 16, 42) :: (lk_X5_init_42 ++ ((1, 15, 39) :: (lk_X8_init_39 ++ ((1, 14, 35) :: (lk_X7_init_35 ++ ((1, 12, 34) :: ((1, 11, 33) :: ((1, 10, 27) :: (lk_X2_init_27 ++ ((1, 9, 21) :: (lk_X2_init_21 ++ ((1, 8, 15) :: (lk_X0_init_15 ++ ((1, 7, 9) :: (lk_X0_init_9 ++ ((1, 6, 7) :: (lk_X3_init_7 ++ ((1, 5, 6) :: ((1, 4, 3) :: (lk_X6_init_3 ++ ((1, 3, 2) :: ([])))))))))))))))))))))))))))))))))))))))))))))) R586 := hK589.app (hK582.fr hF588 rfl)
  have hF600 : FR 1 R R586 := fun o ho => (hF588 o (by omega)).trans (hF583 o ho)
  refine ⟨vp_of rfl (by decide) (by decide), ?_⟩
  have hK601 : RK ((33, 2, 85) :: (lk_X0_init_85 ++ ((34, 1, 79) :: (lk_X2_init_79 ++ ((33, 1, 73) :: (lk_X0_init_73 ++ ((34, 0, 67) :: (lk_X2_init_67 ++ ((33, 0, 61) :: (lk_X0_init_61 ++ ((2, 3, 59) :: (lk_X10_init_59 ++ ((2, 2, 57) :: (lk_X10_init_57 ++ ((2, 1, 55) :: (lk_X10_init_55 ++ ((2, 0, 53) :: (lk_X10_init_53 ++ ((1, 19, 51) :: (lk_X4_init_51 ++ ((1, 18, 49) :: (lk_X4_init_49 ++ ((1, 17, 45) :: (lk_X9_init_45 ++ ((1, 16, 42) :: (lk_X5_init_42 ++ ((1, 15, 39) :: (lk_X8_init_39 ++ ((1, 14, 35) :: (lk_X7_init_35 ++ ((1, 12, 34) :: ((1, 11, 33) :: ((1, 10, 27) :: (lk_X2_init_27 ++ ((1, 9, 21) :: (lk_X2_init_21 ++ ((1, 8, 15) :: (lk_X0_init_15 ++ ((1, 7, 9) :: (lk_X0_init_9 ++ ((1, 6, 7) :: (lk_X3_init_7 ++ ((1, 5, 6) :: ((1, 4, 3) :: (lk_X6_init_3 ++ ((1, 3, 2) :: ([]))))))))))))))))))))))))))))))))))))))))))))))) (uR R586 33 (Int32.toNatClampNeg ((0 + 1) + 1)) 85) := hK599.u rfl
  have hF602 : FR 1 R (uR R586 33 (Int32.toNatClampNeg ((0 + 1) + 1)) 85) := hF600.u rfl
  refine ⟨hK601.ne (show lkq ((33, 2, 85) :: (lk_X0_init_85 ++ ((34, 1, 79) :: (lk_X2_init_79 ++ ((33, 1, 73) :: (lk_X0_init_73 ++ ((34, 0, 67) :: (lk_X2_init_67 ++ ((33, 0, 61) :: (lk_X0_init_61 ++ ((2, 3, 59) :: (lk_X10_init_59 ++ ((2, 2, 57) :: (lk_X10_init_57 ++ ((2, 1, 55) :: (lk_X10_init_55 ++ ((2, 0, 53) :: (lk_X10_init_53 ++ ((1, 19, 51) :: (lk_X4_init_51 ++ ((1, 18, 49) :: (lk_X4_init_49 ++ ((1, 17, 45) :: (lk_X9_init_45 ++ ((1, 16, 42) :: (lk_X5_init_42 ++ ((1, 15, 39) :: (lk_X8_init_39 ++ ((1, 14, 35) :: (lk_X7_init_35 ++ ((1, 12, 34) :: ((1, 11, 33) :: ((1, 10, 27) :: (lk_X2_init_27 ++ ((1, 9, 21) :: (lk_X2_init_21 ++ ((1, 8, 15) :: (lk_X0_init_15 ++ ((1, 7, 9) :: (lk_X0_init_9 ++ ((1, 6, 7) :: (lk_X3_init_7 ++ ((1, 5, 6) :: ((1, 4, 3) :: (lk_X6_init_3 ++ ((1, 3, 2) :: ([]))))))))))))))))))))))))))))))))))))))))))))))) 1 12 = true from rfl), ?_⟩
  have hB603 : BZ (zI I584 91) := hB587.z
  have hZ604 : KI (zk_X0_init_85 ++ (zk_X2_init_79 ++ (zk_X0_init_73 ++ (zk_X2_init_67 ++ (zk_X0_init_61 ++ (zk_X10_init_59 ++ (zk_X10_init_57 ++ (zk_X10_init_55 ++ (zk_X10_init_53 ++ (zk_X4_init_51 ++ (zk_X4_init_49 ++ (zk_X9_init_45 ++ (zk_X5_init_42 ++ (zk_X8_init_39 ++ (zk_X7_init_35 ++ (zk_X2_init_27 ++ (zk_X2_init_21 ++ (zk_X0_init_15 ++ (zk_X0_init_9 ++ (zk_X3_init_7 ++ (zk_X1_init_6 ++ (zk_X6_init_3 ++ ([]))))))))))))))))))))))) (zI I584 91) := hZ594.z rfl
  have hI605 : FI 1 I (zI I584 91) := hI595.z rfl
  have hJ606 : FJ 1 J (zJ J585 91) := hJ596.z rfl
  have jz607 : (zJ J585 91) 47 0 = 0 := JZ.z jz598 rfl
  have jf608 : ∀ k, k < 22 → (zJ J585 91) 5 k = rsv.getD k 0 := J5.z jf597 rfl
  have hK609 : RK ((33, 2, 85) :: (lk_X0_init_85 ++ ((34, 1, 79) :: (lk_X2_init_79 ++ ((33, 1, 73) :: (lk_X0_init_73 ++ ((34, 0, 67) :: (lk_X2_init_67 ++ ((33, 0, 61) :: (lk_X0_init_61 ++ ((2, 3, 59) :: (lk_X10_init_59 ++ ((2, 2, 57) :: (lk_X10_init_57 ++ ((2, 1, 55) :: (lk_X10_init_55 ++ ((2, 0, 53) :: (lk_X10_init_53 ++ ((1, 19, 51) :: (lk_X4_init_51 ++ ((1, 18, 49) :: (lk_X4_init_49 ++ ((1, 17, 45) :: (lk_X9_init_45 ++ ((1, 16, 42) :: (lk_X5_init_42 ++ ((1, 15, 39) :: (lk_X8_init_39 ++ ((1, 14, 35) :: (lk_X7_init_35 ++ ((1, 12, 34) :: ((1, 11, 33) :: ((1, 10, 27) :: (lk_X2_init_27 ++ ((1, 9, 21) :: (lk_X2_init_21 ++ ((1, 8, 15) :: (lk_X0_init_15 ++ ((1, 7, 9) :: (lk_X0_init_9 ++ ((1, 6, 7) :: (lk_X3_init_7 ++ ((1, 5, 6) :: ((1, 4, 3) :: (lk_X6_init_3 ++ ((1, 3, 2) :: ([]))))))))))))))))))))))))))))))))))))))))))))))) (zR (uR R586 33 (Int32.toNatClampNeg ((0 + 1) + 1)) 85) 91) := hK601.z rfl
  have hF610 : FR 1 R (zR (uR R586 33 (Int32.toNatClampNeg ((0 + 1) + 1)) 85) 91) := hF602.z rfl
  refine ct_X2_init_91 hB603 (fun I611 J612 R613 hB614 hF615 hK616 hI617 hZ618 hJ619 jz620 => ?_)
  have hZ621 : KI (zk_X2_init_91 ++ (zk_X0_init_85 ++ (zk_X2_init_79 ++ (zk_X0_init_73 ++ (zk_X2_init_67 ++ (zk_X0_init_61 ++ (zk_X10_init_59 ++ (zk_X10_init_57 ++ (zk_X10_init_55 ++ (zk_X10_init_53 ++ (zk_X4_init_51 ++ (zk_X4_init_49 ++ (zk_X9_init_45 ++ (zk_X5_init_42 ++ (zk_X8_init_39 ++ (zk_X7_init_35 ++ (zk_X2_init_27 ++ (zk_X2_init_21 ++ (zk_X0_init_15 ++ (zk_X0_init_9 ++ (zk_X3_init_7 ++ (zk_X1_init_6 ++ (zk_X6_init_3 ++ ([])))))))))))))))))))))))) I611 := hZ618.app (hZ604.fr hI617 rfl)
  have hI622 : FI 1 I I611 := fun o ho => (hI617 o (by omega)).trans (hI605 o ho)
  have hJ623 : FJ 1 J J612 := fun o ho => (hJ619 o (by omega)).trans (hJ606 o ho)
  have jf624 : ∀ k, k < 22 → J612 5 k = rsv.getD k 0 := fun k hk => (congrFun (hJ619 5 (by decide)) k).trans (jf608 k hk)
  have jz625 : J612 47 0 = 0 := (congrFun (hJ619 47 (by decide)) 0).trans jz607
  have hK626 : RK (lk_X2_init_91 ++ ((33, 2, 85) :: (lk_X0_init_85 ++ ((34, 1, 79) :: (lk_X2_init_79 ++ ((33, 1, 73) :: (lk_X0_init_73 ++ ((34, 0, 67) :: (lk_X2_init_67 ++ ((33, 0, 61) :: (lk_X0_init_61 ++ ((2, 3, 59) :: (lk_X10_init_59 ++ ((2, 2, 57) :: (lk_X10_init_57 ++ ((2, 1, 55) :: (lk_X10_init_55 ++ ((2, 0, 53) :: (lk_X10_init_53 ++ ((1, 19, 51) :: (lk_X4_init_51 ++ ((1, 18, 49) :: (lk_X4_init_49 ++ ((1, 17, 45) :: (lk_X9_init_45 ++ ((1, 16, 42) :: (lk_X5_init_42 ++ ((1, 15, 39) :: (lk_X8_init_39 ++ ((1, 14, 35) :: (lk_X7_init_35 ++ ((1, 12, 34) :: ((1, 11, 33) :: ((1, 10, 27) :: (lk_X2_init_27 ++ ((1, 9, 21) :: (lk_X2_init_21 ++ ((1, 8, 15) :: (lk_X0_init_15 ++ ((1, 7, 9) :: (lk_X0_init_9 ++ ((1, 6, 7) :: (lk_X3_init_7 ++ ((1, 5, 6) :: ((1, 4, 3) :: (lk_X6_init_3 ++ ((1, 3, 2) :: ([])))))))))))))))))))))))))))))))))))))))))))))))) R613 := hK616.app (hK609.fr hF615 rfl)
  have hF627 : FR 1 R R613 := fun o ho => (hF615 o (by omega)).trans (hF610 o ho)
  refine ⟨vp_of rfl (by decide) (by decide), ?_⟩
  have hK628 : RK ((34, 2, 91) :: (lk_X2_init_91 ++ ((33, 2, 85) :: (lk_X0_init_85 ++ ((34, 1, 79) :: (lk_X2_init_79 ++ ((33, 1, 73) :: (lk_X0_init_73 ++ ((34, 0, 67) :: (lk_X2_init_67 ++ ((33, 0, 61) :: (lk_X0_init_61 ++ ((2, 3, 59) :: (lk_X10_init_59 ++ ((2, 2, 57) :: (lk_X10_init_57 ++ ((2, 1, 55) :: (lk_X10_init_55 ++ ((2, 0, 53) :: (lk_X10_init_53 ++ ((1, 19, 51) :: (lk_X4_init_51 ++ ((1, 18, 49) :: (lk_X4_init_49 ++ ((1, 17, 45) :: (lk_X9_init_45 ++ ((1, 16, 42) :: (lk_X5_init_42 ++ ((1, 15, 39) :: (lk_X8_init_39 ++ ((1, 14, 35) :: (lk_X7_init_35 ++ ((1, 12, 34) :: ((1, 11, 33) :: ((1, 10, 27) :: (lk_X2_init_27 ++ ((1, 9, 21) :: (lk_X2_init_21 ++ ((1, 8, 15) :: (lk_X0_init_15 ++ ((1, 7, 9) :: (lk_X0_init_9 ++ ((1, 6, 7) :: (lk_X3_init_7 ++ ((1, 5, 6) :: ((1, 4, 3) :: (lk_X6_init_3 ++ ((1, 3, 2) :: ([]))))))))))))))))))))))))))))))))))))))))))))))))) (uR R613 34 (Int32.toNatClampNeg ((0 + 1) + 1)) 91) := hK626.u rfl
  have hF629 : FR 1 R (uR R613 34 (Int32.toNatClampNeg ((0 + 1) + 1)) 91) := hF627.u rfl
  refine cs_X11_init_1_219_96 hc _ _ _ ?_
  refine ⟨fun _ => ?_, fun c => absurd (by decide) c⟩
  exact ⟨rfl, fun z => absurd z (by decide), hQ _ _ _ hB614 hF629 hK628 hI622 hZ621 hJ623 ⟨jz625, jf624⟩⟩
