noncomputable def zk_X2_init_21 : List (Nat × Nat × Int32) := []
noncomputable def lk_X2_init_21 : List (Nat × Nat × Nat) := (21, 7, 26) :: ((21, 6, 25) :: ((21, 5, 24) :: ((21, 4, 23) :: ((21, 3, 22) :: ([])))))
set_option maxHeartbeats 4000000 in
set_option maxRecDepth 100000 in
theorem ct_X2_init_21 {d : Nat} {Q : Qt} {I : Im} {J : Jm} {R : Rm} (hB : BZ I) (hQ : ∀ (I2 : Im) (J2 : Jm) (R2 : Rm), BZ I2 → FR 21 R R2 → RK lk_X2_init_21 R2 → FI 21 I I2 → KI zk_X2_init_21 I2 → FJ 21 J J2 → True → Q 0 0 I2 J2 R2) : AM (d + 1) 27 21 [.ref 21] I J R Q := by
  refine amc_of (k := kX2_init) rfl rfl rfl rfl rfl rfl (Nat.le_of_ble_eq_true rfl) (fun P hc => ?_)
  refine cs_X2_init_21_0_21 hc _ _ _ ?_
  refine ⟨Or.inl rfl, ?_⟩
  have hB1 : BZ (uI I 21 0 0) := hB.kw rfl rfl rfl
  have hZ2 : KI ([]) (uI I 21 0 0) := (KI.nil (I := I)).w rfl
  have hI3 : FI 21 I (uI I 21 0 0) := (FI.refl 21 I).w rfl
  have hB4 : BZ (uI (uI I 21 0 0) 21 1 0) := hB1.kw rfl rfl rfl
  have hZ5 : KI ([]) (uI (uI I 21 0 0) 21 1 0) := hZ2.w rfl
  have hI6 : FI 21 I (uI (uI I 21 0 0) 21 1 0) := hI3.w rfl
  have hB7 : BZ (uI (uI (uI I 21 0 0) 21 1 0) 21 2 0) := hB4.kw rfl rfl rfl
  have hZ8 : KI ([]) (uI (uI (uI I 21 0 0) 21 1 0) 21 2 0) := hZ5.w rfl
  have hI9 : FI 21 I (uI (uI (uI I 21 0 0) 21 1 0) 21 2 0) := hI6.w rfl
  refine ⟨rfl, ?_⟩
  have hB10 : BZ (zI (uI (uI (uI I 21 0 0) 21 1 0) 21 2 0) 22) := hB7.z
  have hZ11 : KI ([]) (zI (uI (uI (uI I 21 0 0) 21 1 0) 21 2 0) 22) := hZ8.z rfl
  have hI12 : FI 21 I (zI (uI (uI (uI I 21 0 0) 21 1 0) 21 2 0) 22) := hI9.z rfl
  have hJ13 : FJ 21 J (zJ J 22) := (FJ.refl 21 J).z rfl
  have hK14 : RK ([]) (zR R 22) := (RK.nil (R := R)).z rfl
  have hF15 : FR 21 R (zR R 22) := (FR.refl 21 R).z rfl
  have hK16 : RK ((21, 3, 22) :: ([])) (uR (zR R 22) 21 3 22) := hK14.u rfl
  have hF17 : FR 21 R (uR (zR R 22) 21 3 22) := hF15.u rfl
  refine ⟨rfl, ?_⟩
  have hB18 : BZ (zI (zI (uI (uI (uI I 21 0 0) 21 1 0) 21 2 0) 22) 23) := hB10.z
  have hZ19 : KI ([]) (zI (zI (uI (uI (uI I 21 0 0) 21 1 0) 21 2 0) 22) 23) := hZ11.z rfl
  have hI20 : FI 21 I (zI (zI (uI (uI (uI I 21 0 0) 21 1 0) 21 2 0) 22) 23) := hI12.z rfl
  have hJ21 : FJ 21 J (zJ (zJ J 22) 23) := hJ13.z rfl
  have hK22 : RK ((21, 3, 22) :: ([])) (zR (uR (zR R 22) 21 3 22) 23) := hK16.z rfl
  have hF23 : FR 21 R (zR (uR (zR R 22) 21 3 22) 23) := hF17.z rfl
  have hK24 : RK ((21, 4, 23) :: ((21, 3, 22) :: ([]))) (uR (zR (uR (zR R 22) 21 3 22) 23) 21 4 23) := hK22.u rfl
  have hF25 : FR 21 R (uR (zR (uR (zR R 22) 21 3 22) 23) 21 4 23) := hF23.u rfl
  refine ⟨rfl, ?_⟩
  have hB26 : BZ (zI (zI (zI (uI (uI (uI I 21 0 0) 21 1 0) 21 2 0) 22) 23) 24) := hB18.z
  have hZ27 : KI ([]) (zI (zI (zI (uI (uI (uI I 21 0 0) 21 1 0) 21 2 0) 22) 23) 24) := hZ19.z rfl
  have hI28 : FI 21 I (zI (zI (zI (uI (uI (uI I 21 0 0) 21 1 0) 21 2 0) 22) 23) 24) := hI20.z rfl
  have hJ29 : FJ 21 J (zJ (zJ (zJ J 22) 23) 24) := hJ21.z rfl
  have hK30 : RK ((21, 4, 23) :: ((21, 3, 22) :: ([]))) (zR (uR (zR (uR (zR R 22) 21 3 22) 23) 21 4 23) 24) := hK24.z rfl
  have hF31 : FR 21 R (zR (uR (zR (uR (zR R 22) 21 3 22) 23) 21 4 23) 24) := hF25.z rfl
  have hK32 : RK ((21, 5, 24) :: ((21, 4, 23) :: ((21, 3, 22) :: ([])))) (uR (zR (uR (zR (uR (zR R 22) 21 3 22) 23) 21 4 23) 24) 21 5 24) := hK30.u rfl
  have hF33 : FR 21 R (uR (zR (uR (zR (uR (zR R 22) 21 3 22) 23) 21 4 23) 24) 21 5 24) := hF31.u rfl
  refine ⟨rfl, ?_⟩
  have hB34 : BZ (zI (zI (zI (zI (uI (uI (uI I 21 0 0) 21 1 0) 21 2 0) 22) 23) 24) 25) := hB26.z
  have hZ35 : KI ([]) (zI (zI (zI (zI (uI (uI (uI I 21 0 0) 21 1 0) 21 2 0) 22) 23) 24) 25) := hZ27.z rfl
  have hI36 : FI 21 I (zI (zI (zI (zI (uI (uI (uI I 21 0 0) 21 1 0) 21 2 0) 22) 23) 24) 25) := hI28.z rfl
  have hJ37 : FJ 21 J (zJ (zJ (zJ (zJ J 22) 23) 24) 25) := hJ29.z rfl
  have hK38 : RK ((21, 5, 24) :: ((21, 4, 23) :: ((21, 3, 22) :: ([])))) (zR (uR (zR (uR (zR (uR (zR R 22) 21 3 22) 23) 21 4 23) 24) 21 5 24) 25) := hK32.z rfl
  have hF39 : FR 21 R (zR (uR (zR (uR (zR (uR (zR R 22) 21 3 22) 23) 21 4 23) 24) 21 5 24) 25) := hF33.z rfl
  have hK40 : RK ((21, 6, 25) :: ((21, 5, 24) :: ((21, 4, 23) :: ((21, 3, 22) :: ([]))))) (uR (zR (uR (zR (uR (zR (uR (zR R 22) 21 3 22) 23) 21 4 23) 24) 21 5 24) 25) 21 6 25) := hK38.u rfl
  have hF41 : FR 21 R (uR (zR (uR (zR (uR (zR (uR (zR R 22) 21 3 22) 23) 21 4 23) 24) 21 5 24) 25) 21 6 25) := hF39.u rfl
  refine ⟨rfl, ?_⟩
  have hB42 : BZ (zI (zI (zI (zI (zI (uI (uI (uI I 21 0 0) 21 1 0) 21 2 0) 22) 23) 24) 25) 26) := hB34.z
  have hZ43 : KI ([]) (zI (zI (zI (zI (zI (uI (uI (uI I 21 0 0) 21 1 0) 21 2 0) 22) 23) 24) 25) 26) := hZ35.z rfl
  have hI44 : FI 21 I (zI (zI (zI (zI (zI (uI (uI (uI I 21 0 0) 21 1 0) 21 2 0) 22) 23) 24) 25) 26) := hI36.z rfl
  have hJ45 : FJ 21 J (zJ (zJ (zJ (zJ (zJ J 22) 23) 24) 25) 26) := hJ37.z rfl
  have hK46 : RK ((21, 6, 25) :: ((21, 5, 24) :: ((21, 4, 23) :: ((21, 3, 22) :: ([]))))) (zR (uR (zR (uR (zR (uR (zR (uR (zR R 22) 21 3 22) 23) 21 4 23) 24) 21 5 24) 25) 21 6 25) 26) := hK40.z rfl
  have hF47 : FR 21 R (zR (uR (zR (uR (zR (uR (zR (uR (zR R 22) 21 3 22) 23) 21 4 23) 24) 21 5 24) 25) 21 6 25) 26) := hF41.z rfl
  have hK48 : RK ((21, 7, 26) :: ((21, 6, 25) :: ((21, 5, 24) :: ((21, 4, 23) :: ((21, 3, 22) :: ([])))))) (uR (zR (uR (zR (uR (zR (uR (zR (uR (zR R 22) 21 3 22) 23) 21 4 23) 24) 21 5 24) 25) 21 6 25) 26) 21 7 26) := hK46.u rfl
  have hF49 : FR 21 R (uR (zR (uR (zR (uR (zR (uR (zR (uR (zR R 22) 21 3 22) 23) 21 4 23) 24) 21 5 24) 25) 21 6 25) 26) 21 7 26) := hF47.u rfl
  exact ⟨rfl, fun z => absurd z (by decide), hQ _ _ _ hB42 hF49 hK48 hI44 hZ43 hJ45 trivial⟩
noncomputable def zk_X2_init_27 : List (Nat × Nat × Int32) := []
noncomputable def lk_X2_init_27 : List (Nat × Nat × Nat) := (27, 7, 32) :: ((27, 6, 31) :: ((27, 5, 30) :: ((27, 4, 29) :: ((27, 3, 28) :: ([])))))
set_option maxHeartbeats 4000000 in
set_option maxRecDepth 100000 in
theorem ct_X2_init_27 {d : Nat} {Q : Qt} {I : Im} {J : Jm} {R : Rm} (hB : BZ I) (hQ : ∀ (I2 : Im) (J2 : Jm) (R2 : Rm), BZ I2 → FR 27 R R2 → RK lk_X2_init_27 R2 → FI 27 I I2 → KI zk_X2_init_27 I2 → FJ 27 J J2 → True → Q 0 0 I2 J2 R2) : AM (d + 1) 27 27 [.ref 27] I J R Q := by
  refine amc_of (k := kX2_init) rfl rfl rfl rfl rfl rfl (Nat.le_of_ble_eq_true rfl) (fun P hc => ?_)
  refine cs_X2_init_27_0_27 hc _ _ _ ?_
  refine ⟨Or.inl rfl, ?_⟩
  have hB1 : BZ (uI I 27 0 0) := hB.kw rfl rfl rfl
  have hZ2 : KI ([]) (uI I 27 0 0) := (KI.nil (I := I)).w rfl
  have hI3 : FI 27 I (uI I 27 0 0) := (FI.refl 27 I).w rfl
  have hB4 : BZ (uI (uI I 27 0 0) 27 1 0) := hB1.kw rfl rfl rfl
  have hZ5 : KI ([]) (uI (uI I 27 0 0) 27 1 0) := hZ2.w rfl
  have hI6 : FI 27 I (uI (uI I 27 0 0) 27 1 0) := hI3.w rfl
  have hB7 : BZ (uI (uI (uI I 27 0 0) 27 1 0) 27 2 0) := hB4.kw rfl rfl rfl
  have hZ8 : KI ([]) (uI (uI (uI I 27 0 0) 27 1 0) 27 2 0) := hZ5.w rfl
  have hI9 : FI 27 I (uI (uI (uI I 27 0 0) 27 1 0) 27 2 0) := hI6.w rfl
  refine ⟨rfl, ?_⟩
  have hB10 : BZ (zI (uI (uI (uI I 27 0 0) 27 1 0) 27 2 0) 28) := hB7.z
  have hZ11 : KI ([]) (zI (uI (uI (uI I 27 0 0) 27 1 0) 27 2 0) 28) := hZ8.z rfl
  have hI12 : FI 27 I (zI (uI (uI (uI I 27 0 0) 27 1 0) 27 2 0) 28) := hI9.z rfl
  have hJ13 : FJ 27 J (zJ J 28) := (FJ.refl 27 J).z rfl
  have hK14 : RK ([]) (zR R 28) := (RK.nil (R := R)).z rfl
  have hF15 : FR 27 R (zR R 28) := (FR.refl 27 R).z rfl
  have hK16 : RK ((27, 3, 28) :: ([])) (uR (zR R 28) 27 3 28) := hK14.u rfl
  have hF17 : FR 27 R (uR (zR R 28) 27 3 28) := hF15.u rfl
  refine ⟨rfl, ?_⟩
  have hB18 : BZ (zI (zI (uI (uI (uI I 27 0 0) 27 1 0) 27 2 0) 28) 29) := hB10.z
  have hZ19 : KI ([]) (zI (zI (uI (uI (uI I 27 0 0) 27 1 0) 27 2 0) 28) 29) := hZ11.z rfl
  have hI20 : FI 27 I (zI (zI (uI (uI (uI I 27 0 0) 27 1 0) 27 2 0) 28) 29) := hI12.z rfl
  have hJ21 : FJ 27 J (zJ (zJ J 28) 29) := hJ13.z rfl
  have hK22 : RK ((27, 3, 28) :: ([])) (zR (uR (zR R 28) 27 3 28) 29) := hK16.z rfl
  have hF23 : FR 27 R (zR (uR (zR R 28) 27 3 28) 29) := hF17.z rfl
  have hK24 : RK ((27, 4, 29) :: ((27, 3, 28) :: ([]))) (uR (zR (uR (zR R 28) 27 3 28) 29) 27 4 29) := hK22.u rfl
  have hF25 : FR 27 R (uR (zR (uR (zR R 28) 27 3 28) 29) 27 4 29) := hF23.u rfl
  refine ⟨rfl, ?_⟩
  have hB26 : BZ (zI (zI (zI (uI (uI (uI I 27 0 0) 27 1 0) 27 2 0) 28) 29) 30) := hB18.z
  have hZ27 : KI ([]) (zI (zI (zI (uI (uI (uI I 27 0 0) 27 1 0) 27 2 0) 28) 29) 30) := hZ19.z rfl
  have hI28 : FI 27 I (zI (zI (zI (uI (uI (uI I 27 0 0) 27 1 0) 27 2 0) 28) 29) 30) := hI20.z rfl
  have hJ29 : FJ 27 J (zJ (zJ (zJ J 28) 29) 30) := hJ21.z rfl
  have hK30 : RK ((27, 4, 29) :: ((27, 3, 28) :: ([]))) (zR (uR (zR (uR (zR R 28) 27 3 28) 29) 27 4 29) 30) := hK24.z rfl
  have hF31 : FR 27 R (zR (uR (zR (uR (zR R 28) 27 3 28) 29) 27 4 29) 30) := hF25.z rfl
  have hK32 : RK ((27, 5, 30) :: ((27, 4, 29) :: ((27, 3, 28) :: ([])))) (uR (zR (uR (zR (uR (zR R 28) 27 3 28) 29) 27 4 29) 30) 27 5 30) := hK30.u rfl
  have hF33 : FR 27 R (uR (zR (uR (zR (uR (zR R 28) 27 3 28) 29) 27 4 29) 30) 27 5 30) := hF31.u rfl
  refine ⟨rfl, ?_⟩
  have hB34 : BZ (zI (zI (zI (zI (uI (uI (uI I 27 0 0) 27 1 0) 27 2 0) 28) 29) 30) 31) := hB26.z
  have hZ35 : KI ([]) (zI (zI (zI (zI (uI (uI (uI I 27 0 0) 27 1 0) 27 2 0) 28) 29) 30) 31) := hZ27.z rfl
  have hI36 : FI 27 I (zI (zI (zI (zI (uI (uI (uI I 27 0 0) 27 1 0) 27 2 0) 28) 29) 30) 31) := hI28.z rfl
  have hJ37 : FJ 27 J (zJ (zJ (zJ (zJ J 28) 29) 30) 31) := hJ29.z rfl
  have hK38 : RK ((27, 5, 30) :: ((27, 4, 29) :: ((27, 3, 28) :: ([])))) (zR (uR (zR (uR (zR (uR (zR R 28) 27 3 28) 29) 27 4 29) 30) 27 5 30) 31) := hK32.z rfl
  have hF39 : FR 27 R (zR (uR (zR (uR (zR (uR (zR R 28) 27 3 28) 29) 27 4 29) 30) 27 5 30) 31) := hF33.z rfl
  have hK40 : RK ((27, 6, 31) :: ((27, 5, 30) :: ((27, 4, 29) :: ((27, 3, 28) :: ([]))))) (uR (zR (uR (zR (uR (zR (uR (zR R 28) 27 3 28) 29) 27 4 29) 30) 27 5 30) 31) 27 6 31) := hK38.u rfl
  have hF41 : FR 27 R (uR (zR (uR (zR (uR (zR (uR (zR R 28) 27 3 28) 29) 27 4 29) 30) 27 5 30) 31) 27 6 31) := hF39.u rfl
  refine ⟨rfl, ?_⟩
  have hB42 : BZ (zI (zI (zI (zI (zI (uI (uI (uI I 27 0 0) 27 1 0) 27 2 0) 28) 29) 30) 31) 32) := hB34.z
  have hZ43 : KI ([]) (zI (zI (zI (zI (zI (uI (uI (uI I 27 0 0) 27 1 0) 27 2 0) 28) 29) 30) 31) 32) := hZ35.z rfl
  have hI44 : FI 27 I (zI (zI (zI (zI (zI (uI (uI (uI I 27 0 0) 27 1 0) 27 2 0) 28) 29) 30) 31) 32) := hI36.z rfl
  have hJ45 : FJ 27 J (zJ (zJ (zJ (zJ (zJ J 28) 29) 30) 31) 32) := hJ37.z rfl
  have hK46 : RK ((27, 6, 31) :: ((27, 5, 30) :: ((27, 4, 29) :: ((27, 3, 28) :: ([]))))) (zR (uR (zR (uR (zR (uR (zR (uR (zR R 28) 27 3 28) 29) 27 4 29) 30) 27 5 30) 31) 27 6 31) 32) := hK40.z rfl
  have hF47 : FR 27 R (zR (uR (zR (uR (zR (uR (zR (uR (zR R 28) 27 3 28) 29) 27 4 29) 30) 27 5 30) 31) 27 6 31) 32) := hF41.z rfl
  have hK48 : RK ((27, 7, 32) :: ((27, 6, 31) :: ((27, 5, 30) :: ((27, 4, 29) :: ((27, 3, 28) :: ([])))))) (uR (zR (uR (zR (uR (zR (uR (zR (uR (zR R 28) 27 3 28) 29) 27 4 29) 30) 27 5 30) 31) 27 6 31) 32) 27 7 32) := hK46.u rfl
  have hF49 : FR 27 R (uR (zR (uR (zR (uR (zR (uR (zR (uR (zR R 28) 27 3 28) 29) 27 4 29) 30) 27 5 30) 31) 27 6 31) 32) 27 7 32) := hF47.u rfl
  exact ⟨rfl, fun z => absurd z (by decide), hQ _ _ _ hB42 hF49 hK48 hI44 hZ43 hJ45 trivial⟩
noncomputable def zk_X7_init_35 : List (Nat × Nat × Int32) := []
noncomputable def lk_X7_init_35 : List (Nat × Nat × Nat) := (35, 7, 38) :: ((35, 4, 37) :: ((35, 3, 36) :: ([])))
set_option maxHeartbeats 4000000 in
set_option maxRecDepth 100000 in
theorem ct_X7_init_35 {d : Nat} {Q : Qt} {I : Im} {J : Jm} {R : Rm} (hB : BZ I) (hQ : ∀ (I2 : Im) (J2 : Jm) (R2 : Rm), BZ I2 → FR 35 R R2 → RK lk_X7_init_35 R2 → FI 35 I I2 → KI zk_X7_init_35 I2 → FJ 35 J J2 → True → Q 0 0 I2 J2 R2) : AM (d + 1) 74 35 [.ref 35] I J R Q := by
  refine amc_of (k := kX7_init) rfl rfl rfl rfl rfl rfl (Nat.le_of_ble_eq_true rfl) (fun P hc => ?_)
  refine cs_X7_init_35_0_35 hc _ _ _ ?_
  have hB1 : BZ (uI I 35 0 0) := hB.kw rfl rfl rfl
  have hZ2 : KI ([]) (uI I 35 0 0) := (KI.nil (I := I)).w rfl
  have hI3 : FI 35 I (uI I 35 0 0) := (FI.refl 35 I).w rfl
  have hB4 : BZ (uI (uI I 35 0 0) 35 1 0) := hB1.kw rfl rfl rfl
  have hZ5 : KI ([]) (uI (uI I 35 0 0) 35 1 0) := hZ2.w rfl
  have hI6 : FI 35 I (uI (uI I 35 0 0) 35 1 0) := hI3.w rfl
  have hB7 : BZ (uI (uI (uI I 35 0 0) 35 1 0) 35 2 0) := hB4.kw rfl rfl rfl
  have hZ8 : KI ([]) (uI (uI (uI I 35 0 0) 35 1 0) 35 2 0) := hZ5.w rfl
  have hI9 : FI 35 I (uI (uI (uI I 35 0 0) 35 1 0) 35 2 0) := hI6.w rfl
  refine ⟨rfl, ?_⟩
  have hB10 : BZ (zI (uI (uI (uI I 35 0 0) 35 1 0) 35 2 0) 36) := hB7.z
  have hZ11 : KI ([]) (zI (uI (uI (uI I 35 0 0) 35 1 0) 35 2 0) 36) := hZ8.z rfl
  have hI12 : FI 35 I (zI (uI (uI (uI I 35 0 0) 35 1 0) 35 2 0) 36) := hI9.z rfl
  have hJ13 : FJ 35 J (zJ J 36) := (FJ.refl 35 J).z rfl
  have hK14 : RK ([]) (zR R 36) := (RK.nil (R := R)).z rfl
  have hF15 : FR 35 R (zR R 36) := (FR.refl 35 R).z rfl
  have hK16 : RK ((35, 3, 36) :: ([])) (uR (zR R 36) 35 3 36) := hK14.u rfl
  have hF17 : FR 35 R (uR (zR R 36) 35 3 36) := hF15.u rfl
  refine ⟨rfl, ?_⟩
  have hB18 : BZ (zI (zI (uI (uI (uI I 35 0 0) 35 1 0) 35 2 0) 36) 37) := hB10.z
  have hZ19 : KI ([]) (zI (zI (uI (uI (uI I 35 0 0) 35 1 0) 35 2 0) 36) 37) := hZ11.z rfl
  have hI20 : FI 35 I (zI (zI (uI (uI (uI I 35 0 0) 35 1 0) 35 2 0) 36) 37) := hI12.z rfl
  have hJ21 : FJ 35 J (zJ (zJ J 36) 37) := hJ13.z rfl
  have hK22 : RK ((35, 3, 36) :: ([])) (zR (uR (zR R 36) 35 3 36) 37) := hK16.z rfl
  have hF23 : FR 35 R (zR (uR (zR R 36) 35 3 36) 37) := hF17.z rfl
  have hK24 : RK ((35, 4, 37) :: ((35, 3, 36) :: ([]))) (uR (zR (uR (zR R 36) 35 3 36) 37) 35 4 37) := hK22.u rfl
  have hF25 : FR 35 R (uR (zR (uR (zR R 36) 35 3 36) 37) 35 4 37) := hF23.u rfl
  have hB26 : BZ (uI (zI (zI (uI (uI (uI I 35 0 0) 35 1 0) 35 2 0) 36) 37) 35 5 0) := hB18.kw rfl rfl rfl
  have hZ27 : KI ([]) (uI (zI (zI (uI (uI (uI I 35 0 0) 35 1 0) 35 2 0) 36) 37) 35 5 0) := hZ19.w rfl
  have hI28 : FI 35 I (uI (zI (zI (uI (uI (uI I 35 0 0) 35 1 0) 35 2 0) 36) 37) 35 5 0) := hI20.w rfl
  have hB29 : BZ (uI (uI (zI (zI (uI (uI (uI I 35 0 0) 35 1 0) 35 2 0) 36) 37) 35 5 0) 35 6 0) := hB26.kw rfl rfl rfl
  have hZ30 : KI ([]) (uI (uI (zI (zI (uI (uI (uI I 35 0 0) 35 1 0) 35 2 0) 36) 37) 35 5 0) 35 6 0) := hZ27.w rfl
  have hI31 : FI 35 I (uI (uI (zI (zI (uI (uI (uI I 35 0 0) 35 1 0) 35 2 0) 36) 37) 35 5 0) 35 6 0) := hI28.w rfl
  refine ⟨rfl, ?_⟩
  have hB32 : BZ (zI (uI (uI (zI (zI (uI (uI (uI I 35 0 0) 35 1 0) 35 2 0) 36) 37) 35 5 0) 35 6 0) 38) := hB29.z
  have hZ33 : KI ([]) (zI (uI (uI (zI (zI (uI (uI (uI I 35 0 0) 35 1 0) 35 2 0) 36) 37) 35 5 0) 35 6 0) 38) := hZ30.z rfl
  have hI34 : FI 35 I (zI (uI (uI (zI (zI (uI (uI (uI I 35 0 0) 35 1 0) 35 2 0) 36) 37) 35 5 0) 35 6 0) 38) := hI31.z rfl
  have hJ35 : FJ 35 J (zJ (zJ (zJ J 36) 37) 38) := hJ21.z rfl
  have hK36 : RK ((35, 4, 37) :: ((35, 3, 36) :: ([]))) (zR (uR (zR (uR (zR R 36) 35 3 36) 37) 35 4 37) 38) := hK24.z rfl
  have hF37 : FR 35 R (zR (uR (zR (uR (zR R 36) 35 3 36) 37) 35 4 37) 38) := hF25.z rfl
  have hK38 : RK ((35, 7, 38) :: ((35, 4, 37) :: ((35, 3, 36) :: ([])))) (uR (zR (uR (zR (uR (zR R 36) 35 3 36) 37) 35 4 37) 38) 35 7 38) := hK36.u rfl
  have hF39 : FR 35 R (uR (zR (uR (zR (uR (zR R 36) 35 3 36) 37) 35 4 37) 38) 35 7 38) := hF37.u rfl
  exact ⟨rfl, fun z => absurd z (by decide), hQ _ _ _ hB32 hF39 hK38 hI34 hZ33 hJ35 trivial⟩
noncomputable def zk_X8_init_39 : List (Nat × Nat × Int32) := []
noncomputable def lk_X8_init_39 : List (Nat × Nat × Nat) := (39, 1, 41) :: ((39, 0, 40) :: ([]))
set_option maxHeartbeats 4000000 in
set_option maxRecDepth 100000 in
theorem ct_X8_init_39 {d : Nat} {Q : Qt} {I : Im} {J : Jm} {R : Rm} (hB : BZ I) (hQ : ∀ (I2 : Im) (J2 : Jm) (R2 : Rm), BZ I2 → FR 39 R R2 → RK lk_X8_init_39 R2 → FI 39 I I2 → KI zk_X8_init_39 I2 → FJ 39 J J2 → True → Q 0 0 I2 J2 R2) : AM (d + 1) 85 39 [.ref 39] I J R Q := by
  refine amc_of (k := kX8_init) rfl rfl rfl rfl rfl rfl (Nat.le_of_ble_eq_true rfl) (fun P hc => ?_)
  refine cs_X8_init_39_0_39 hc _ _ _ ?_
  refine ⟨rfl, ?_⟩
  have hB1 : BZ (zI I 40) := hB.z
  have hZ2 : KI ([]) (zI I 40) := (KI.nil (I := I)).z rfl
  have hI3 : FI 39 I (zI I 40) := (FI.refl 39 I).z rfl
  have hJ4 : FJ 39 J (zJ J 40) := (FJ.refl 39 J).z rfl
  have hK5 : RK ([]) (zR R 40) := (RK.nil (R := R)).z rfl
  have hF6 : FR 39 R (zR R 40) := (FR.refl 39 R).z rfl
  have hK7 : RK ((39, 0, 40) :: ([])) (uR (zR R 40) 39 0 40) := hK5.u rfl
  have hF8 : FR 39 R (uR (zR R 40) 39 0 40) := hF6.u rfl
  refine ⟨rfl, ?_⟩
  have hB9 : BZ (zI (zI I 40) 41) := hB1.z
  have hZ10 : KI ([]) (zI (zI I 40) 41) := hZ2.z rfl
  have hI11 : FI 39 I (zI (zI I 40) 41) := hI3.z rfl
  have hJ12 : FJ 39 J (zJ (zJ J 40) 41) := hJ4.z rfl
  have hK13 : RK ((39, 0, 40) :: ([])) (zR (uR (zR R 40) 39 0 40) 41) := hK7.z rfl
  have hF14 : FR 39 R (zR (uR (zR R 40) 39 0 40) 41) := hF8.z rfl
  have hK15 : RK ((39, 1, 41) :: ((39, 0, 40) :: ([]))) (uR (zR (uR (zR R 40) 39 0 40) 41) 39 1 41) := hK13.u rfl
  have hF16 : FR 39 R (uR (zR (uR (zR R 40) 39 0 40) 41) 39 1 41) := hF14.u rfl
  have hB17 : BZ (uI (zI (zI I 40) 41) 39 2 0) := hB9.kw rfl rfl rfl
  have hZ18 : KI ([]) (uI (zI (zI I 40) 41) 39 2 0) := hZ10.w rfl
  have hI19 : FI 39 I (uI (zI (zI I 40) 41) 39 2 0) := hI11.w rfl
  exact ⟨rfl, fun z => absurd z (by decide), hQ _ _ _ hB17 hF16 hK15 hI19 hZ18 hJ12 trivial⟩
noncomputable def zk_X5_init_42 : List (Nat × Nat × Int32) := []
noncomputable def lk_X5_init_42 : List (Nat × Nat × Nat) := (42, 1, 44) :: ((42, 0, 43) :: ([]))
set_option maxHeartbeats 4000000 in
set_option maxRecDepth 100000 in
theorem ct_X5_init_42 {d : Nat} {Q : Qt} {I : Im} {J : Jm} {R : Rm} (hB : BZ I) (hQ : ∀ (I2 : Im) (J2 : Jm) (R2 : Rm), BZ I2 → FR 42 R R2 → RK lk_X5_init_42 R2 → FI 42 I I2 → KI zk_X5_init_42 I2 → FJ 42 J J2 → True → Q 0 0 I2 J2 R2) : AM (d + 1) 53 42 [.ref 42] I J R Q := by
  refine amc_of (k := kX5_init) rfl rfl rfl rfl rfl rfl (Nat.le_of_ble_eq_true rfl) (fun P hc => ?_)
  refine cs_X5_init_42_0_42 hc _ _ _ ?_
  refine ⟨rfl, ?_⟩
  have hB1 : BZ (zI I 43) := hB.z
  have hZ2 : KI ([]) (zI I 43) := (KI.nil (I := I)).z rfl
  have hI3 : FI 42 I (zI I 43) := (FI.refl 42 I).z rfl
  have hJ4 : FJ 42 J (zJ J 43) := (FJ.refl 42 J).z rfl
  have hK5 : RK ([]) (zR R 43) := (RK.nil (R := R)).z rfl
  have hF6 : FR 42 R (zR R 43) := (FR.refl 42 R).z rfl
  have hK7 : RK ((42, 0, 43) :: ([])) (uR (zR R 43) 42 0 43) := hK5.u rfl
  have hF8 : FR 42 R (uR (zR R 43) 42 0 43) := hF6.u rfl
  refine ⟨rfl, ?_⟩
  have hB9 : BZ (zI (zI I 43) 44) := hB1.z
  have hZ10 : KI ([]) (zI (zI I 43) 44) := hZ2.z rfl
  have hI11 : FI 42 I (zI (zI I 43) 44) := hI3.z rfl
  have hJ12 : FJ 42 J (zJ (zJ J 43) 44) := hJ4.z rfl
  have hK13 : RK ((42, 0, 43) :: ([])) (zR (uR (zR R 43) 42 0 43) 44) := hK7.z rfl
  have hF14 : FR 42 R (zR (uR (zR R 43) 42 0 43) 44) := hF8.z rfl
  have hK15 : RK ((42, 1, 44) :: ((42, 0, 43) :: ([]))) (uR (zR (uR (zR R 43) 42 0 43) 44) 42 1 44) := hK13.u rfl
  have hF16 : FR 42 R (uR (zR (uR (zR R 43) 42 0 43) 44) 42 1 44) := hF14.u rfl
  have hB17 : BZ (uI (zI (zI I 43) 44) 42 2 0) := hB9.kw rfl rfl rfl
  have hZ18 : KI ([]) (uI (zI (zI I 43) 44) 42 2 0) := hZ10.w rfl
  have hI19 : FI 42 I (uI (zI (zI I 43) 44) 42 2 0) := hI11.w rfl
  exact ⟨rfl, fun z => absurd z (by decide), hQ _ _ _ hB17 hF16 hK15 hI19 hZ18 hJ12 trivial⟩
noncomputable def zk_X9_init_45 : List (Nat × Nat × Int32) := []
noncomputable def lk_X9_init_45 : List (Nat × Nat × Nat) := (45, 3, 48) :: ((45, 2, 47) :: ((45, 0, 46) :: ([])))
set_option maxHeartbeats 4000000 in
set_option maxRecDepth 100000 in
theorem ct_X9_init_45 {d : Nat} {Q : Qt} {I : Im} {J : Jm} {R : Rm} (hB : BZ I) (hQ : ∀ (I2 : Im) (J2 : Jm) (R2 : Rm), BZ I2 → FR 45 R R2 → RK lk_X9_init_45 R2 → FI 45 I I2 → KI zk_X9_init_45 I2 → FJ 45 J J2 → J2 47 0 = 0 → Q 0 0 I2 J2 R2) : AM (d + 1) 88 45 [.ref 45] I J R Q := by
  refine amc_of (k := kX9_init) rfl rfl rfl rfl rfl rfl (Nat.le_of_ble_eq_true rfl) (fun P hc => ?_)
  refine cs_X9_init_45_0_45 hc _ _ _ ?_
  refine ⟨rfl, ?_⟩
  have hB1 : BZ (zI I 46) := hB.z
  have hZ2 : KI ([]) (zI I 46) := (KI.nil (I := I)).z rfl
  have hI3 : FI 45 I (zI I 46) := (FI.refl 45 I).z rfl
  have hJ4 : FJ 45 J (zJ J 46) := (FJ.refl 45 J).z rfl
  have hK5 : RK ([]) (zR R 46) := (RK.nil (R := R)).z rfl
  have hF6 : FR 45 R (zR R 46) := (FR.refl 45 R).z rfl
  have hK7 : RK ((45, 0, 46) :: ([])) (uR (zR R 46) 45 0 46) := hK5.u rfl
  have hF8 : FR 45 R (uR (zR R 46) 45 0 46) := hF6.u rfl
  have hB9 : BZ (uI (zI I 46) 45 1 0) := hB1.kw rfl rfl rfl
  have hZ10 : KI ([]) (uI (zI I 46) 45 1 0) := hZ2.w rfl
  have hI11 : FI 45 I (uI (zI I 46) 45 1 0) := hI3.w rfl
  refine ⟨rfl, ?_⟩
  have hB12 : BZ (zI (uI (zI I 46) 45 1 0) 47) := hB9.z
  have hZ13 : KI ([]) (zI (uI (zI I 46) 45 1 0) 47) := hZ10.z rfl
  have hI14 : FI 45 I (zI (uI (zI I 46) 45 1 0) 47) := hI11.z rfl
  have hJ15 : FJ 45 J (zJ (zJ J 46) 47) := hJ4.z rfl
  have jz16 : (zJ (zJ J 46) 47) 47 0 = 0 := rfl
  have hK17 : RK ((45, 0, 46) :: ([])) (zR (uR (zR R 46) 45 0 46) 47) := hK7.z rfl
  have hF18 : FR 45 R (zR (uR (zR R 46) 45 0 46) 47) := hF8.z rfl
  have hK19 : RK ((45, 2, 47) :: ((45, 0, 46) :: ([]))) (uR (zR (uR (zR R 46) 45 0 46) 47) 45 2 47) := hK17.u rfl
  have hF20 : FR 45 R (uR (zR (uR (zR R 46) 45 0 46) 47) 45 2 47) := hF18.u rfl
  refine ⟨rfl, ?_⟩
  have hB21 : BZ (zI (zI (uI (zI I 46) 45 1 0) 47) 48) := hB12.z
  have hZ22 : KI ([]) (zI (zI (uI (zI I 46) 45 1 0) 47) 48) := hZ13.z rfl
  have hI23 : FI 45 I (zI (zI (uI (zI I 46) 45 1 0) 47) 48) := hI14.z rfl
  have hJ24 : FJ 45 J (zJ (zJ (zJ J 46) 47) 48) := hJ15.z rfl
  have jz25 : (zJ (zJ (zJ J 46) 47) 48) 47 0 = 0 := JZ.z jz16 rfl
  have hK26 : RK ((45, 2, 47) :: ((45, 0, 46) :: ([]))) (zR (uR (zR (uR (zR R 46) 45 0 46) 47) 45 2 47) 48) := hK19.z rfl
  have hF27 : FR 45 R (zR (uR (zR (uR (zR R 46) 45 0 46) 47) 45 2 47) 48) := hF20.z rfl
  have hK28 : RK ((45, 3, 48) :: ((45, 2, 47) :: ((45, 0, 46) :: ([])))) (uR (zR (uR (zR (uR (zR R 46) 45 0 46) 47) 45 2 47) 48) 45 3 48) := hK26.u rfl
  have hF29 : FR 45 R (uR (zR (uR (zR (uR (zR R 46) 45 0 46) 47) 45 2 47) 48) 45 3 48) := hF27.u rfl
  exact ⟨rfl, fun z => absurd z (by decide), hQ _ _ _ hB21 hF29 hK28 hI23 hZ22 hJ24 jz25⟩
noncomputable def zk_X4_init_49 : List (Nat × Nat × Int32) := []
noncomputable def lk_X4_init_49 : List (Nat × Nat × Nat) := (49, 8, 50) :: ([])
set_option maxHeartbeats 4000000 in
set_option maxRecDepth 100000 in
theorem ct_X4_init_49 {d : Nat} {Q : Qt} {I : Im} {J : Jm} {R : Rm} (hB : BZ I) (hQ : ∀ (I2 : Im) (J2 : Jm) (R2 : Rm), BZ I2 → FR 49 R R2 → RK lk_X4_init_49 R2 → FI 49 I I2 → KI zk_X4_init_49 I2 → FJ 49 J J2 → True → Q 0 0 I2 J2 R2) : AM (d + 1) 40 49 [.ref 49] I J R Q := by
  refine amc_of (k := kX4_init) rfl rfl rfl rfl rfl rfl (Nat.le_of_ble_eq_true rfl) (fun P hc => ?_)
  refine cs_X4_init_49_0_49 hc _ _ _ ?_
  refine ⟨Or.inl rfl, ?_⟩
  have hB1 : BZ (uI I 49 0 0) := hB.kw rfl rfl rfl
  have hZ2 : KI ([]) (uI I 49 0 0) := (KI.nil (I := I)).w rfl
  have hI3 : FI 49 I (uI I 49 0 0) := (FI.refl 49 I).w rfl
  have hB4 : BZ (uI (uI I 49 0 0) 49 1 0) := hB1.kw rfl rfl rfl
  have hZ5 : KI ([]) (uI (uI I 49 0 0) 49 1 0) := hZ2.w rfl
  have hI6 : FI 49 I (uI (uI I 49 0 0) 49 1 0) := hI3.w rfl
  have hB7 : BZ (uI (uI (uI I 49 0 0) 49 1 0) 49 2 0) := hB4.kw rfl rfl rfl
  have hZ8 : KI ([]) (uI (uI (uI I 49 0 0) 49 1 0) 49 2 0) := hZ5.w rfl
  have hI9 : FI 49 I (uI (uI (uI I 49 0 0) 49 1 0) 49 2 0) := hI6.w rfl
  have hB10 : BZ (uI (uI (uI (uI I 49 0 0) 49 1 0) 49 2 0) 49 3 0) := hB7.kw rfl rfl rfl
  have hZ11 : KI ([]) (uI (uI (uI (uI I 49 0 0) 49 1 0) 49 2 0) 49 3 0) := hZ8.w rfl
  have hI12 : FI 49 I (uI (uI (uI (uI I 49 0 0) 49 1 0) 49 2 0) 49 3 0) := hI9.w rfl
  have hB13 : BZ (uI (uI (uI (uI (uI I 49 0 0) 49 1 0) 49 2 0) 49 3 0) 49 4 0) := hB10.kw rfl rfl rfl
  have hZ14 : KI ([]) (uI (uI (uI (uI (uI I 49 0 0) 49 1 0) 49 2 0) 49 3 0) 49 4 0) := hZ11.w rfl
  have hI15 : FI 49 I (uI (uI (uI (uI (uI I 49 0 0) 49 1 0) 49 2 0) 49 3 0) 49 4 0) := hI12.w rfl
  have hB16 : BZ (uI (uI (uI (uI (uI (uI I 49 0 0) 49 1 0) 49 2 0) 49 3 0) 49 4 0) 49 5 0) := hB13.kw rfl rfl rfl
  have hZ17 : KI ([]) (uI (uI (uI (uI (uI (uI I 49 0 0) 49 1 0) 49 2 0) 49 3 0) 49 4 0) 49 5 0) := hZ14.w rfl
  have hI18 : FI 49 I (uI (uI (uI (uI (uI (uI I 49 0 0) 49 1 0) 49 2 0) 49 3 0) 49 4 0) 49 5 0) := hI15.w rfl
  have hB19 : BZ (uI (uI (uI (uI (uI (uI (uI I 49 0 0) 49 1 0) 49 2 0) 49 3 0) 49 4 0) 49 5 0) 49 6 0) := hB16.kw rfl rfl rfl
  have hZ20 : KI ([]) (uI (uI (uI (uI (uI (uI (uI I 49 0 0) 49 1 0) 49 2 0) 49 3 0) 49 4 0) 49 5 0) 49 6 0) := hZ17.w rfl
  have hI21 : FI 49 I (uI (uI (uI (uI (uI (uI (uI I 49 0 0) 49 1 0) 49 2 0) 49 3 0) 49 4 0) 49 5 0) 49 6 0) := hI18.w rfl
  have hB22 : BZ (uI (uI (uI (uI (uI (uI (uI (uI I 49 0 0) 49 1 0) 49 2 0) 49 3 0) 49 4 0) 49 5 0) 49 6 0) 49 7 0) := hB19.kw rfl rfl rfl
  have hZ23 : KI ([]) (uI (uI (uI (uI (uI (uI (uI (uI I 49 0 0) 49 1 0) 49 2 0) 49 3 0) 49 4 0) 49 5 0) 49 6 0) 49 7 0) := hZ20.w rfl
  have hI24 : FI 49 I (uI (uI (uI (uI (uI (uI (uI (uI I 49 0 0) 49 1 0) 49 2 0) 49 3 0) 49 4 0) 49 5 0) 49 6 0) 49 7 0) := hI21.w rfl
  refine ⟨rfl, ?_⟩
  have hB25 : BZ (zI (uI (uI (uI (uI (uI (uI (uI (uI I 49 0 0) 49 1 0) 49 2 0) 49 3 0) 49 4 0) 49 5 0) 49 6 0) 49 7 0) 50) := hB22.z
  have hZ26 : KI ([]) (zI (uI (uI (uI (uI (uI (uI (uI (uI I 49 0 0) 49 1 0) 49 2 0) 49 3 0) 49 4 0) 49 5 0) 49 6 0) 49 7 0) 50) := hZ23.z rfl
  have hI27 : FI 49 I (zI (uI (uI (uI (uI (uI (uI (uI (uI I 49 0 0) 49 1 0) 49 2 0) 49 3 0) 49 4 0) 49 5 0) 49 6 0) 49 7 0) 50) := hI24.z rfl
  have hJ28 : FJ 49 J (zJ J 50) := (FJ.refl 49 J).z rfl
  have hK29 : RK ([]) (zR R 50) := (RK.nil (R := R)).z rfl
  have hF30 : FR 49 R (zR R 50) := (FR.refl 49 R).z rfl
  have hK31 : RK ((49, 8, 50) :: ([])) (uR (zR R 50) 49 8 50) := hK29.u rfl
  have hF32 : FR 49 R (uR (zR R 50) 49 8 50) := hF30.u rfl
  exact ⟨rfl, fun z => absurd z (by decide), hQ _ _ _ hB25 hF32 hK31 hI27 hZ26 hJ28 trivial⟩
noncomputable def zk_X4_init_51 : List (Nat × Nat × Int32) := []
noncomputable def lk_X4_init_51 : List (Nat × Nat × Nat) := (51, 8, 52) :: ([])
set_option maxHeartbeats 4000000 in
set_option maxRecDepth 100000 in
theorem ct_X4_init_51 {d : Nat} {Q : Qt} {I : Im} {J : Jm} {R : Rm} (hB : BZ I) (hQ : ∀ (I2 : Im) (J2 : Jm) (R2 : Rm), BZ I2 → FR 51 R R2 → RK lk_X4_init_51 R2 → FI 51 I I2 → KI zk_X4_init_51 I2 → FJ 51 J J2 → True → Q 0 0 I2 J2 R2) : AM (d + 1) 40 51 [.ref 51] I J R Q := by
  refine amc_of (k := kX4_init) rfl rfl rfl rfl rfl rfl (Nat.le_of_ble_eq_true rfl) (fun P hc => ?_)
  refine cs_X4_init_51_0_51 hc _ _ _ ?_
  refine ⟨Or.inl rfl, ?_⟩
  have hB1 : BZ (uI I 51 0 0) := hB.kw rfl rfl rfl
  have hZ2 : KI ([]) (uI I 51 0 0) := (KI.nil (I := I)).w rfl
  have hI3 : FI 51 I (uI I 51 0 0) := (FI.refl 51 I).w rfl
  have hB4 : BZ (uI (uI I 51 0 0) 51 1 0) := hB1.kw rfl rfl rfl
  have hZ5 : KI ([]) (uI (uI I 51 0 0) 51 1 0) := hZ2.w rfl
  have hI6 : FI 51 I (uI (uI I 51 0 0) 51 1 0) := hI3.w rfl
  have hB7 : BZ (uI (uI (uI I 51 0 0) 51 1 0) 51 2 0) := hB4.kw rfl rfl rfl
  have hZ8 : KI ([]) (uI (uI (uI I 51 0 0) 51 1 0) 51 2 0) := hZ5.w rfl
  have hI9 : FI 51 I (uI (uI (uI I 51 0 0) 51 1 0) 51 2 0) := hI6.w rfl
  have hB10 : BZ (uI (uI (uI (uI I 51 0 0) 51 1 0) 51 2 0) 51 3 0) := hB7.kw rfl rfl rfl
  have hZ11 : KI ([]) (uI (uI (uI (uI I 51 0 0) 51 1 0) 51 2 0) 51 3 0) := hZ8.w rfl
  have hI12 : FI 51 I (uI (uI (uI (uI I 51 0 0) 51 1 0) 51 2 0) 51 3 0) := hI9.w rfl
  have hB13 : BZ (uI (uI (uI (uI (uI I 51 0 0) 51 1 0) 51 2 0) 51 3 0) 51 4 0) := hB10.kw rfl rfl rfl
  have hZ14 : KI ([]) (uI (uI (uI (uI (uI I 51 0 0) 51 1 0) 51 2 0) 51 3 0) 51 4 0) := hZ11.w rfl
  have hI15 : FI 51 I (uI (uI (uI (uI (uI I 51 0 0) 51 1 0) 51 2 0) 51 3 0) 51 4 0) := hI12.w rfl
  have hB16 : BZ (uI (uI (uI (uI (uI (uI I 51 0 0) 51 1 0) 51 2 0) 51 3 0) 51 4 0) 51 5 0) := hB13.kw rfl rfl rfl
  have hZ17 : KI ([]) (uI (uI (uI (uI (uI (uI I 51 0 0) 51 1 0) 51 2 0) 51 3 0) 51 4 0) 51 5 0) := hZ14.w rfl
  have hI18 : FI 51 I (uI (uI (uI (uI (uI (uI I 51 0 0) 51 1 0) 51 2 0) 51 3 0) 51 4 0) 51 5 0) := hI15.w rfl
  have hB19 : BZ (uI (uI (uI (uI (uI (uI (uI I 51 0 0) 51 1 0) 51 2 0) 51 3 0) 51 4 0) 51 5 0) 51 6 0) := hB16.kw rfl rfl rfl
  have hZ20 : KI ([]) (uI (uI (uI (uI (uI (uI (uI I 51 0 0) 51 1 0) 51 2 0) 51 3 0) 51 4 0) 51 5 0) 51 6 0) := hZ17.w rfl
  have hI21 : FI 51 I (uI (uI (uI (uI (uI (uI (uI I 51 0 0) 51 1 0) 51 2 0) 51 3 0) 51 4 0) 51 5 0) 51 6 0) := hI18.w rfl
  have hB22 : BZ (uI (uI (uI (uI (uI (uI (uI (uI I 51 0 0) 51 1 0) 51 2 0) 51 3 0) 51 4 0) 51 5 0) 51 6 0) 51 7 0) := hB19.kw rfl rfl rfl
  have hZ23 : KI ([]) (uI (uI (uI (uI (uI (uI (uI (uI I 51 0 0) 51 1 0) 51 2 0) 51 3 0) 51 4 0) 51 5 0) 51 6 0) 51 7 0) := hZ20.w rfl
  have hI24 : FI 51 I (uI (uI (uI (uI (uI (uI (uI (uI I 51 0 0) 51 1 0) 51 2 0) 51 3 0) 51 4 0) 51 5 0) 51 6 0) 51 7 0) := hI21.w rfl
  refine ⟨rfl, ?_⟩
  have hB25 : BZ (zI (uI (uI (uI (uI (uI (uI (uI (uI I 51 0 0) 51 1 0) 51 2 0) 51 3 0) 51 4 0) 51 5 0) 51 6 0) 51 7 0) 52) := hB22.z
  have hZ26 : KI ([]) (zI (uI (uI (uI (uI (uI (uI (uI (uI I 51 0 0) 51 1 0) 51 2 0) 51 3 0) 51 4 0) 51 5 0) 51 6 0) 51 7 0) 52) := hZ23.z rfl
  have hI27 : FI 51 I (zI (uI (uI (uI (uI (uI (uI (uI (uI I 51 0 0) 51 1 0) 51 2 0) 51 3 0) 51 4 0) 51 5 0) 51 6 0) 51 7 0) 52) := hI24.z rfl
  have hJ28 : FJ 51 J (zJ J 52) := (FJ.refl 51 J).z rfl
  have hK29 : RK ([]) (zR R 52) := (RK.nil (R := R)).z rfl
  have hF30 : FR 51 R (zR R 52) := (FR.refl 51 R).z rfl
  have hK31 : RK ((51, 8, 52) :: ([])) (uR (zR R 52) 51 8 52) := hK29.u rfl
  have hF32 : FR 51 R (uR (zR R 52) 51 8 52) := hF30.u rfl
  exact ⟨rfl, fun z => absurd z (by decide), hQ _ _ _ hB25 hF32 hK31 hI27 hZ26 hJ28 trivial⟩
