noncomputable def zk_X10_init_53 : List (Nat × Nat × Int32) := (53, 1, -1) :: ([])
noncomputable def lk_X10_init_53 : List (Nat × Nat × Nat) := (53, 2, 54) :: ([])
set_option maxHeartbeats 4000000 in
set_option maxRecDepth 100000 in
theorem ct_X10_init_53 {d : Nat} {Q : Qt} {I : Im} {J : Jm} {R : Rm} (hB : BZ I) (hQ : ∀ (I2 : Im) (J2 : Jm) (R2 : Rm), BZ I2 → FR 53 R R2 → RK lk_X10_init_53 R2 → FI 53 I I2 → KI zk_X10_init_53 I2 → FJ 53 J J2 → True → Q 0 0 I2 J2 R2) : AM (d + 1) 94 53 [.ref 53] I J R Q := by
  refine amc_of (k := kX10_init) rfl rfl rfl rfl rfl rfl (Nat.le_of_ble_eq_true rfl) (fun P hc => ?_)
  refine cs_X10_init_53_0_53 hc _ _ _ ?_
  have hB1 : BZ (uI I 53 0 0) := hB.kw rfl rfl rfl
  have hZ2 : KI ([]) (uI I 53 0 0) := (KI.nil (I := I)).w rfl
  have hI3 : FI 53 I (uI I 53 0 0) := (FI.refl 53 I).w rfl
  have hB4 : BZ (uI (uI I 53 0 0) 53 1 (-1)) := hB1.kw rfl rfl rfl
  have hZ5 : KI ((53, 1, -1) :: ([])) (uI (uI I 53 0 0) 53 1 (-1)) := hZ2.u rfl
  have hI6 : FI 53 I (uI (uI I 53 0 0) 53 1 (-1)) := hI3.w rfl
  refine ⟨rfl, ?_⟩
  have hB7 : BZ (zI (uI (uI I 53 0 0) 53 1 (-1)) 54) := hB4.z
  have hZ8 : KI ((53, 1, -1) :: ([])) (zI (uI (uI I 53 0 0) 53 1 (-1)) 54) := hZ5.z rfl
  have hI9 : FI 53 I (zI (uI (uI I 53 0 0) 53 1 (-1)) 54) := hI6.z rfl
  have hJ10 : FJ 53 J (zJ J 54) := (FJ.refl 53 J).z rfl
  have hK11 : RK ([]) (zR R 54) := (RK.nil (R := R)).z rfl
  have hF12 : FR 53 R (zR R 54) := (FR.refl 53 R).z rfl
  have hK13 : RK ((53, 2, 54) :: ([])) (uR (zR R 54) 53 2 54) := hK11.u rfl
  have hF14 : FR 53 R (uR (zR R 54) 53 2 54) := hF12.u rfl
  exact ⟨rfl, fun z => absurd z (by decide), hQ _ _ _ hB7 hF14 hK13 hI9 hZ8 hJ10 trivial⟩
noncomputable def zk_X10_init_55 : List (Nat × Nat × Int32) := (55, 1, -1) :: ([])
noncomputable def lk_X10_init_55 : List (Nat × Nat × Nat) := (55, 2, 56) :: ([])
set_option maxHeartbeats 4000000 in
set_option maxRecDepth 100000 in
theorem ct_X10_init_55 {d : Nat} {Q : Qt} {I : Im} {J : Jm} {R : Rm} (hB : BZ I) (hQ : ∀ (I2 : Im) (J2 : Jm) (R2 : Rm), BZ I2 → FR 55 R R2 → RK lk_X10_init_55 R2 → FI 55 I I2 → KI zk_X10_init_55 I2 → FJ 55 J J2 → True → Q 0 0 I2 J2 R2) : AM (d + 1) 94 55 [.ref 55] I J R Q := by
  refine amc_of (k := kX10_init) rfl rfl rfl rfl rfl rfl (Nat.le_of_ble_eq_true rfl) (fun P hc => ?_)
  refine cs_X10_init_55_0_55 hc _ _ _ ?_
  have hB1 : BZ (uI I 55 0 0) := hB.kw rfl rfl rfl
  have hZ2 : KI ([]) (uI I 55 0 0) := (KI.nil (I := I)).w rfl
  have hI3 : FI 55 I (uI I 55 0 0) := (FI.refl 55 I).w rfl
  have hB4 : BZ (uI (uI I 55 0 0) 55 1 (-1)) := hB1.kw rfl rfl rfl
  have hZ5 : KI ((55, 1, -1) :: ([])) (uI (uI I 55 0 0) 55 1 (-1)) := hZ2.u rfl
  have hI6 : FI 55 I (uI (uI I 55 0 0) 55 1 (-1)) := hI3.w rfl
  refine ⟨rfl, ?_⟩
  have hB7 : BZ (zI (uI (uI I 55 0 0) 55 1 (-1)) 56) := hB4.z
  have hZ8 : KI ((55, 1, -1) :: ([])) (zI (uI (uI I 55 0 0) 55 1 (-1)) 56) := hZ5.z rfl
  have hI9 : FI 55 I (zI (uI (uI I 55 0 0) 55 1 (-1)) 56) := hI6.z rfl
  have hJ10 : FJ 55 J (zJ J 56) := (FJ.refl 55 J).z rfl
  have hK11 : RK ([]) (zR R 56) := (RK.nil (R := R)).z rfl
  have hF12 : FR 55 R (zR R 56) := (FR.refl 55 R).z rfl
  have hK13 : RK ((55, 2, 56) :: ([])) (uR (zR R 56) 55 2 56) := hK11.u rfl
  have hF14 : FR 55 R (uR (zR R 56) 55 2 56) := hF12.u rfl
  exact ⟨rfl, fun z => absurd z (by decide), hQ _ _ _ hB7 hF14 hK13 hI9 hZ8 hJ10 trivial⟩
noncomputable def zk_X10_init_57 : List (Nat × Nat × Int32) := (57, 1, -1) :: ([])
noncomputable def lk_X10_init_57 : List (Nat × Nat × Nat) := (57, 2, 58) :: ([])
set_option maxHeartbeats 4000000 in
set_option maxRecDepth 100000 in
theorem ct_X10_init_57 {d : Nat} {Q : Qt} {I : Im} {J : Jm} {R : Rm} (hB : BZ I) (hQ : ∀ (I2 : Im) (J2 : Jm) (R2 : Rm), BZ I2 → FR 57 R R2 → RK lk_X10_init_57 R2 → FI 57 I I2 → KI zk_X10_init_57 I2 → FJ 57 J J2 → True → Q 0 0 I2 J2 R2) : AM (d + 1) 94 57 [.ref 57] I J R Q := by
  refine amc_of (k := kX10_init) rfl rfl rfl rfl rfl rfl (Nat.le_of_ble_eq_true rfl) (fun P hc => ?_)
  refine cs_X10_init_57_0_57 hc _ _ _ ?_
  have hB1 : BZ (uI I 57 0 0) := hB.kw rfl rfl rfl
  have hZ2 : KI ([]) (uI I 57 0 0) := (KI.nil (I := I)).w rfl
  have hI3 : FI 57 I (uI I 57 0 0) := (FI.refl 57 I).w rfl
  have hB4 : BZ (uI (uI I 57 0 0) 57 1 (-1)) := hB1.kw rfl rfl rfl
  have hZ5 : KI ((57, 1, -1) :: ([])) (uI (uI I 57 0 0) 57 1 (-1)) := hZ2.u rfl
  have hI6 : FI 57 I (uI (uI I 57 0 0) 57 1 (-1)) := hI3.w rfl
  refine ⟨rfl, ?_⟩
  have hB7 : BZ (zI (uI (uI I 57 0 0) 57 1 (-1)) 58) := hB4.z
  have hZ8 : KI ((57, 1, -1) :: ([])) (zI (uI (uI I 57 0 0) 57 1 (-1)) 58) := hZ5.z rfl
  have hI9 : FI 57 I (zI (uI (uI I 57 0 0) 57 1 (-1)) 58) := hI6.z rfl
  have hJ10 : FJ 57 J (zJ J 58) := (FJ.refl 57 J).z rfl
  have hK11 : RK ([]) (zR R 58) := (RK.nil (R := R)).z rfl
  have hF12 : FR 57 R (zR R 58) := (FR.refl 57 R).z rfl
  have hK13 : RK ((57, 2, 58) :: ([])) (uR (zR R 58) 57 2 58) := hK11.u rfl
  have hF14 : FR 57 R (uR (zR R 58) 57 2 58) := hF12.u rfl
  exact ⟨rfl, fun z => absurd z (by decide), hQ _ _ _ hB7 hF14 hK13 hI9 hZ8 hJ10 trivial⟩
noncomputable def zk_X10_init_59 : List (Nat × Nat × Int32) := (59, 1, -1) :: ([])
noncomputable def lk_X10_init_59 : List (Nat × Nat × Nat) := (59, 2, 60) :: ([])
set_option maxHeartbeats 4000000 in
set_option maxRecDepth 100000 in
theorem ct_X10_init_59 {d : Nat} {Q : Qt} {I : Im} {J : Jm} {R : Rm} (hB : BZ I) (hQ : ∀ (I2 : Im) (J2 : Jm) (R2 : Rm), BZ I2 → FR 59 R R2 → RK lk_X10_init_59 R2 → FI 59 I I2 → KI zk_X10_init_59 I2 → FJ 59 J J2 → True → Q 0 0 I2 J2 R2) : AM (d + 1) 94 59 [.ref 59] I J R Q := by
  refine amc_of (k := kX10_init) rfl rfl rfl rfl rfl rfl (Nat.le_of_ble_eq_true rfl) (fun P hc => ?_)
  refine cs_X10_init_59_0_59 hc _ _ _ ?_
  have hB1 : BZ (uI I 59 0 0) := hB.kw rfl rfl rfl
  have hZ2 : KI ([]) (uI I 59 0 0) := (KI.nil (I := I)).w rfl
  have hI3 : FI 59 I (uI I 59 0 0) := (FI.refl 59 I).w rfl
  have hB4 : BZ (uI (uI I 59 0 0) 59 1 (-1)) := hB1.kw rfl rfl rfl
  have hZ5 : KI ((59, 1, -1) :: ([])) (uI (uI I 59 0 0) 59 1 (-1)) := hZ2.u rfl
  have hI6 : FI 59 I (uI (uI I 59 0 0) 59 1 (-1)) := hI3.w rfl
  refine ⟨rfl, ?_⟩
  have hB7 : BZ (zI (uI (uI I 59 0 0) 59 1 (-1)) 60) := hB4.z
  have hZ8 : KI ((59, 1, -1) :: ([])) (zI (uI (uI I 59 0 0) 59 1 (-1)) 60) := hZ5.z rfl
  have hI9 : FI 59 I (zI (uI (uI I 59 0 0) 59 1 (-1)) 60) := hI6.z rfl
  have hJ10 : FJ 59 J (zJ J 60) := (FJ.refl 59 J).z rfl
  have hK11 : RK ([]) (zR R 60) := (RK.nil (R := R)).z rfl
  have hF12 : FR 59 R (zR R 60) := (FR.refl 59 R).z rfl
  have hK13 : RK ((59, 2, 60) :: ([])) (uR (zR R 60) 59 2 60) := hK11.u rfl
  have hF14 : FR 59 R (uR (zR R 60) 59 2 60) := hF12.u rfl
  exact ⟨rfl, fun z => absurd z (by decide), hQ _ _ _ hB7 hF14 hK13 hI9 hZ8 hJ10 trivial⟩
noncomputable def zk_X0_init_61 : List (Nat × Nat × Int32) := []
noncomputable def lk_X0_init_61 : List (Nat × Nat × Nat) := (61, 8, 66) :: ((61, 7, 65) :: ((61, 6, 64) :: ((61, 5, 63) :: ((61, 0, 62) :: ([])))))
set_option maxHeartbeats 4000000 in
set_option maxRecDepth 100000 in
theorem ct_X0_init_61 {d : Nat} {Q : Qt} {I : Im} {J : Jm} {R : Rm} (hB : BZ I) (hQ : ∀ (I2 : Im) (J2 : Jm) (R2 : Rm), BZ I2 → FR 61 R R2 → RK lk_X0_init_61 R2 → FI 61 I I2 → KI zk_X0_init_61 I2 → FJ 61 J J2 → True → Q 0 0 I2 J2 R2) : AM (d + 1) 0 61 [.ref 61] I J R Q := by
  refine amc_of (k := kX0_init) rfl rfl rfl rfl rfl rfl (Nat.le_of_ble_eq_true rfl) (fun P hc => ?_)
  refine cs_X0_init_61_0_61 hc _ _ _ ?_
  refine ⟨rfl, ?_⟩
  have hB1 : BZ (zI I 62) := hB.z
  have hZ2 : KI ([]) (zI I 62) := (KI.nil (I := I)).z rfl
  have hI3 : FI 61 I (zI I 62) := (FI.refl 61 I).z rfl
  have hJ4 : FJ 61 J (zJ J 62) := (FJ.refl 61 J).z rfl
  have hK5 : RK ([]) (zR R 62) := (RK.nil (R := R)).z rfl
  have hF6 : FR 61 R (zR R 62) := (FR.refl 61 R).z rfl
  have hK7 : RK ((61, 0, 62) :: ([])) (uR (zR R 62) 61 0 62) := hK5.u rfl
  have hF8 : FR 61 R (uR (zR R 62) 61 0 62) := hF6.u rfl
  have hB9 : BZ (uI (zI I 62) 61 1 4) := hB1.kw rfl rfl rfl
  have hZ10 : KI ([]) (uI (zI I 62) 61 1 4) := hZ2.w rfl
  have hI11 : FI 61 I (uI (zI I 62) 61 1 4) := hI3.w rfl
  have hB12 : BZ (uI (uI (zI I 62) 61 1 4) 61 2 1073741823) := hB9.kw rfl rfl rfl
  have hZ13 : KI ([]) (uI (uI (zI I 62) 61 1 4) 61 2 1073741823) := hZ10.w rfl
  have hI14 : FI 61 I (uI (uI (zI I 62) 61 1 4) 61 2 1073741823) := hI11.w rfl
  have hB15 : BZ (uI (uI (uI (zI I 62) 61 1 4) 61 2 1073741823) 61 3 0) := hB12.kw rfl rfl rfl
  have hZ16 : KI ([]) (uI (uI (uI (zI I 62) 61 1 4) 61 2 1073741823) 61 3 0) := hZ13.w rfl
  have hI17 : FI 61 I (uI (uI (uI (zI I 62) 61 1 4) 61 2 1073741823) 61 3 0) := hI14.w rfl
  have hB18 : BZ (uI (uI (uI (uI (zI I 62) 61 1 4) 61 2 1073741823) 61 3 0) 61 4 0) := hB15.kw rfl rfl rfl
  have hZ19 : KI ([]) (uI (uI (uI (uI (zI I 62) 61 1 4) 61 2 1073741823) 61 3 0) 61 4 0) := hZ16.w rfl
  have hI20 : FI 61 I (uI (uI (uI (uI (zI I 62) 61 1 4) 61 2 1073741823) 61 3 0) 61 4 0) := hI17.w rfl
  refine ⟨rfl, ?_⟩
  have hB21 : BZ (zI (uI (uI (uI (uI (zI I 62) 61 1 4) 61 2 1073741823) 61 3 0) 61 4 0) 63) := hB18.z
  have hZ22 : KI ([]) (zI (uI (uI (uI (uI (zI I 62) 61 1 4) 61 2 1073741823) 61 3 0) 61 4 0) 63) := hZ19.z rfl
  have hI23 : FI 61 I (zI (uI (uI (uI (uI (zI I 62) 61 1 4) 61 2 1073741823) 61 3 0) 61 4 0) 63) := hI20.z rfl
  have hJ24 : FJ 61 J (zJ (zJ J 62) 63) := hJ4.z rfl
  have hK25 : RK ((61, 0, 62) :: ([])) (zR (uR (zR R 62) 61 0 62) 63) := hK7.z rfl
  have hF26 : FR 61 R (zR (uR (zR R 62) 61 0 62) 63) := hF8.z rfl
  have hK27 : RK ((61, 5, 63) :: ((61, 0, 62) :: ([]))) (uR (zR (uR (zR R 62) 61 0 62) 63) 61 5 63) := hK25.u rfl
  have hF28 : FR 61 R (uR (zR (uR (zR R 62) 61 0 62) 63) 61 5 63) := hF26.u rfl
  refine ⟨rfl, ?_⟩
  have hB29 : BZ (zI (zI (uI (uI (uI (uI (zI I 62) 61 1 4) 61 2 1073741823) 61 3 0) 61 4 0) 63) 64) := hB21.z
  have hZ30 : KI ([]) (zI (zI (uI (uI (uI (uI (zI I 62) 61 1 4) 61 2 1073741823) 61 3 0) 61 4 0) 63) 64) := hZ22.z rfl
  have hI31 : FI 61 I (zI (zI (uI (uI (uI (uI (zI I 62) 61 1 4) 61 2 1073741823) 61 3 0) 61 4 0) 63) 64) := hI23.z rfl
  have hJ32 : FJ 61 J (zJ (zJ (zJ J 62) 63) 64) := hJ24.z rfl
  have hK33 : RK ((61, 5, 63) :: ((61, 0, 62) :: ([]))) (zR (uR (zR (uR (zR R 62) 61 0 62) 63) 61 5 63) 64) := hK27.z rfl
  have hF34 : FR 61 R (zR (uR (zR (uR (zR R 62) 61 0 62) 63) 61 5 63) 64) := hF28.z rfl
  have hK35 : RK ((61, 6, 64) :: ((61, 5, 63) :: ((61, 0, 62) :: ([])))) (uR (zR (uR (zR (uR (zR R 62) 61 0 62) 63) 61 5 63) 64) 61 6 64) := hK33.u rfl
  have hF36 : FR 61 R (uR (zR (uR (zR (uR (zR R 62) 61 0 62) 63) 61 5 63) 64) 61 6 64) := hF34.u rfl
  refine ⟨rfl, ?_⟩
  have hB37 : BZ (zI (zI (zI (uI (uI (uI (uI (zI I 62) 61 1 4) 61 2 1073741823) 61 3 0) 61 4 0) 63) 64) 65) := hB29.z
  have hZ38 : KI ([]) (zI (zI (zI (uI (uI (uI (uI (zI I 62) 61 1 4) 61 2 1073741823) 61 3 0) 61 4 0) 63) 64) 65) := hZ30.z rfl
  have hI39 : FI 61 I (zI (zI (zI (uI (uI (uI (uI (zI I 62) 61 1 4) 61 2 1073741823) 61 3 0) 61 4 0) 63) 64) 65) := hI31.z rfl
  have hJ40 : FJ 61 J (zJ (zJ (zJ (zJ J 62) 63) 64) 65) := hJ32.z rfl
  have hK41 : RK ((61, 6, 64) :: ((61, 5, 63) :: ((61, 0, 62) :: ([])))) (zR (uR (zR (uR (zR (uR (zR R 62) 61 0 62) 63) 61 5 63) 64) 61 6 64) 65) := hK35.z rfl
  have hF42 : FR 61 R (zR (uR (zR (uR (zR (uR (zR R 62) 61 0 62) 63) 61 5 63) 64) 61 6 64) 65) := hF36.z rfl
  have hK43 : RK ((61, 7, 65) :: ((61, 6, 64) :: ((61, 5, 63) :: ((61, 0, 62) :: ([]))))) (uR (zR (uR (zR (uR (zR (uR (zR R 62) 61 0 62) 63) 61 5 63) 64) 61 6 64) 65) 61 7 65) := hK41.u rfl
  have hF44 : FR 61 R (uR (zR (uR (zR (uR (zR (uR (zR R 62) 61 0 62) 63) 61 5 63) 64) 61 6 64) 65) 61 7 65) := hF42.u rfl
  refine ⟨rfl, ?_⟩
  have hB45 : BZ (zI (zI (zI (zI (uI (uI (uI (uI (zI I 62) 61 1 4) 61 2 1073741823) 61 3 0) 61 4 0) 63) 64) 65) 66) := hB37.z
  have hZ46 : KI ([]) (zI (zI (zI (zI (uI (uI (uI (uI (zI I 62) 61 1 4) 61 2 1073741823) 61 3 0) 61 4 0) 63) 64) 65) 66) := hZ38.z rfl
  have hI47 : FI 61 I (zI (zI (zI (zI (uI (uI (uI (uI (zI I 62) 61 1 4) 61 2 1073741823) 61 3 0) 61 4 0) 63) 64) 65) 66) := hI39.z rfl
  have hJ48 : FJ 61 J (zJ (zJ (zJ (zJ (zJ J 62) 63) 64) 65) 66) := hJ40.z rfl
  have hK49 : RK ((61, 7, 65) :: ((61, 6, 64) :: ((61, 5, 63) :: ((61, 0, 62) :: ([]))))) (zR (uR (zR (uR (zR (uR (zR (uR (zR R 62) 61 0 62) 63) 61 5 63) 64) 61 6 64) 65) 61 7 65) 66) := hK43.z rfl
  have hF50 : FR 61 R (zR (uR (zR (uR (zR (uR (zR (uR (zR R 62) 61 0 62) 63) 61 5 63) 64) 61 6 64) 65) 61 7 65) 66) := hF44.z rfl
  have hK51 : RK ((61, 8, 66) :: ((61, 7, 65) :: ((61, 6, 64) :: ((61, 5, 63) :: ((61, 0, 62) :: ([])))))) (uR (zR (uR (zR (uR (zR (uR (zR (uR (zR R 62) 61 0 62) 63) 61 5 63) 64) 61 6 64) 65) 61 7 65) 66) 61 8 66) := hK49.u rfl
  have hF52 : FR 61 R (uR (zR (uR (zR (uR (zR (uR (zR (uR (zR R 62) 61 0 62) 63) 61 5 63) 64) 61 6 64) 65) 61 7 65) 66) 61 8 66) := hF50.u rfl
  exact ⟨rfl, fun z => absurd z (by decide), hQ _ _ _ hB45 hF52 hK51 hI47 hZ46 hJ48 trivial⟩
noncomputable def zk_X2_init_67 : List (Nat × Nat × Int32) := []
noncomputable def lk_X2_init_67 : List (Nat × Nat × Nat) := (67, 7, 72) :: ((67, 6, 71) :: ((67, 5, 70) :: ((67, 4, 69) :: ((67, 3, 68) :: ([])))))
set_option maxHeartbeats 4000000 in
set_option maxRecDepth 100000 in
theorem ct_X2_init_67 {d : Nat} {Q : Qt} {I : Im} {J : Jm} {R : Rm} (hB : BZ I) (hQ : ∀ (I2 : Im) (J2 : Jm) (R2 : Rm), BZ I2 → FR 67 R R2 → RK lk_X2_init_67 R2 → FI 67 I I2 → KI zk_X2_init_67 I2 → FJ 67 J J2 → True → Q 0 0 I2 J2 R2) : AM (d + 1) 27 67 [.ref 67] I J R Q := by
  refine amc_of (k := kX2_init) rfl rfl rfl rfl rfl rfl (Nat.le_of_ble_eq_true rfl) (fun P hc => ?_)
  refine cs_X2_init_67_0_67 hc _ _ _ ?_
  refine ⟨Or.inl rfl, ?_⟩
  have hB1 : BZ (uI I 67 0 0) := hB.kw rfl rfl rfl
  have hZ2 : KI ([]) (uI I 67 0 0) := (KI.nil (I := I)).w rfl
  have hI3 : FI 67 I (uI I 67 0 0) := (FI.refl 67 I).w rfl
  have hB4 : BZ (uI (uI I 67 0 0) 67 1 0) := hB1.kw rfl rfl rfl
  have hZ5 : KI ([]) (uI (uI I 67 0 0) 67 1 0) := hZ2.w rfl
  have hI6 : FI 67 I (uI (uI I 67 0 0) 67 1 0) := hI3.w rfl
  have hB7 : BZ (uI (uI (uI I 67 0 0) 67 1 0) 67 2 0) := hB4.kw rfl rfl rfl
  have hZ8 : KI ([]) (uI (uI (uI I 67 0 0) 67 1 0) 67 2 0) := hZ5.w rfl
  have hI9 : FI 67 I (uI (uI (uI I 67 0 0) 67 1 0) 67 2 0) := hI6.w rfl
  refine ⟨rfl, ?_⟩
  have hB10 : BZ (zI (uI (uI (uI I 67 0 0) 67 1 0) 67 2 0) 68) := hB7.z
  have hZ11 : KI ([]) (zI (uI (uI (uI I 67 0 0) 67 1 0) 67 2 0) 68) := hZ8.z rfl
  have hI12 : FI 67 I (zI (uI (uI (uI I 67 0 0) 67 1 0) 67 2 0) 68) := hI9.z rfl
  have hJ13 : FJ 67 J (zJ J 68) := (FJ.refl 67 J).z rfl
  have hK14 : RK ([]) (zR R 68) := (RK.nil (R := R)).z rfl
  have hF15 : FR 67 R (zR R 68) := (FR.refl 67 R).z rfl
  have hK16 : RK ((67, 3, 68) :: ([])) (uR (zR R 68) 67 3 68) := hK14.u rfl
  have hF17 : FR 67 R (uR (zR R 68) 67 3 68) := hF15.u rfl
  refine ⟨rfl, ?_⟩
  have hB18 : BZ (zI (zI (uI (uI (uI I 67 0 0) 67 1 0) 67 2 0) 68) 69) := hB10.z
  have hZ19 : KI ([]) (zI (zI (uI (uI (uI I 67 0 0) 67 1 0) 67 2 0) 68) 69) := hZ11.z rfl
  have hI20 : FI 67 I (zI (zI (uI (uI (uI I 67 0 0) 67 1 0) 67 2 0) 68) 69) := hI12.z rfl
  have hJ21 : FJ 67 J (zJ (zJ J 68) 69) := hJ13.z rfl
  have hK22 : RK ((67, 3, 68) :: ([])) (zR (uR (zR R 68) 67 3 68) 69) := hK16.z rfl
  have hF23 : FR 67 R (zR (uR (zR R 68) 67 3 68) 69) := hF17.z rfl
  have hK24 : RK ((67, 4, 69) :: ((67, 3, 68) :: ([]))) (uR (zR (uR (zR R 68) 67 3 68) 69) 67 4 69) := hK22.u rfl
  have hF25 : FR 67 R (uR (zR (uR (zR R 68) 67 3 68) 69) 67 4 69) := hF23.u rfl
  refine ⟨rfl, ?_⟩
  have hB26 : BZ (zI (zI (zI (uI (uI (uI I 67 0 0) 67 1 0) 67 2 0) 68) 69) 70) := hB18.z
  have hZ27 : KI ([]) (zI (zI (zI (uI (uI (uI I 67 0 0) 67 1 0) 67 2 0) 68) 69) 70) := hZ19.z rfl
  have hI28 : FI 67 I (zI (zI (zI (uI (uI (uI I 67 0 0) 67 1 0) 67 2 0) 68) 69) 70) := hI20.z rfl
  have hJ29 : FJ 67 J (zJ (zJ (zJ J 68) 69) 70) := hJ21.z rfl
  have hK30 : RK ((67, 4, 69) :: ((67, 3, 68) :: ([]))) (zR (uR (zR (uR (zR R 68) 67 3 68) 69) 67 4 69) 70) := hK24.z rfl
  have hF31 : FR 67 R (zR (uR (zR (uR (zR R 68) 67 3 68) 69) 67 4 69) 70) := hF25.z rfl
  have hK32 : RK ((67, 5, 70) :: ((67, 4, 69) :: ((67, 3, 68) :: ([])))) (uR (zR (uR (zR (uR (zR R 68) 67 3 68) 69) 67 4 69) 70) 67 5 70) := hK30.u rfl
  have hF33 : FR 67 R (uR (zR (uR (zR (uR (zR R 68) 67 3 68) 69) 67 4 69) 70) 67 5 70) := hF31.u rfl
  refine ⟨rfl, ?_⟩
  have hB34 : BZ (zI (zI (zI (zI (uI (uI (uI I 67 0 0) 67 1 0) 67 2 0) 68) 69) 70) 71) := hB26.z
  have hZ35 : KI ([]) (zI (zI (zI (zI (uI (uI (uI I 67 0 0) 67 1 0) 67 2 0) 68) 69) 70) 71) := hZ27.z rfl
  have hI36 : FI 67 I (zI (zI (zI (zI (uI (uI (uI I 67 0 0) 67 1 0) 67 2 0) 68) 69) 70) 71) := hI28.z rfl
  have hJ37 : FJ 67 J (zJ (zJ (zJ (zJ J 68) 69) 70) 71) := hJ29.z rfl
  have hK38 : RK ((67, 5, 70) :: ((67, 4, 69) :: ((67, 3, 68) :: ([])))) (zR (uR (zR (uR (zR (uR (zR R 68) 67 3 68) 69) 67 4 69) 70) 67 5 70) 71) := hK32.z rfl
  have hF39 : FR 67 R (zR (uR (zR (uR (zR (uR (zR R 68) 67 3 68) 69) 67 4 69) 70) 67 5 70) 71) := hF33.z rfl
  have hK40 : RK ((67, 6, 71) :: ((67, 5, 70) :: ((67, 4, 69) :: ((67, 3, 68) :: ([]))))) (uR (zR (uR (zR (uR (zR (uR (zR R 68) 67 3 68) 69) 67 4 69) 70) 67 5 70) 71) 67 6 71) := hK38.u rfl
  have hF41 : FR 67 R (uR (zR (uR (zR (uR (zR (uR (zR R 68) 67 3 68) 69) 67 4 69) 70) 67 5 70) 71) 67 6 71) := hF39.u rfl
  refine ⟨rfl, ?_⟩
  have hB42 : BZ (zI (zI (zI (zI (zI (uI (uI (uI I 67 0 0) 67 1 0) 67 2 0) 68) 69) 70) 71) 72) := hB34.z
  have hZ43 : KI ([]) (zI (zI (zI (zI (zI (uI (uI (uI I 67 0 0) 67 1 0) 67 2 0) 68) 69) 70) 71) 72) := hZ35.z rfl
  have hI44 : FI 67 I (zI (zI (zI (zI (zI (uI (uI (uI I 67 0 0) 67 1 0) 67 2 0) 68) 69) 70) 71) 72) := hI36.z rfl
  have hJ45 : FJ 67 J (zJ (zJ (zJ (zJ (zJ J 68) 69) 70) 71) 72) := hJ37.z rfl
  have hK46 : RK ((67, 6, 71) :: ((67, 5, 70) :: ((67, 4, 69) :: ((67, 3, 68) :: ([]))))) (zR (uR (zR (uR (zR (uR (zR (uR (zR R 68) 67 3 68) 69) 67 4 69) 70) 67 5 70) 71) 67 6 71) 72) := hK40.z rfl
  have hF47 : FR 67 R (zR (uR (zR (uR (zR (uR (zR (uR (zR R 68) 67 3 68) 69) 67 4 69) 70) 67 5 70) 71) 67 6 71) 72) := hF41.z rfl
  have hK48 : RK ((67, 7, 72) :: ((67, 6, 71) :: ((67, 5, 70) :: ((67, 4, 69) :: ((67, 3, 68) :: ([])))))) (uR (zR (uR (zR (uR (zR (uR (zR (uR (zR R 68) 67 3 68) 69) 67 4 69) 70) 67 5 70) 71) 67 6 71) 72) 67 7 72) := hK46.u rfl
  have hF49 : FR 67 R (uR (zR (uR (zR (uR (zR (uR (zR (uR (zR R 68) 67 3 68) 69) 67 4 69) 70) 67 5 70) 71) 67 6 71) 72) 67 7 72) := hF47.u rfl
  exact ⟨rfl, fun z => absurd z (by decide), hQ _ _ _ hB42 hF49 hK48 hI44 hZ43 hJ45 trivial⟩
noncomputable def zk_X0_init_73 : List (Nat × Nat × Int32) := []
noncomputable def lk_X0_init_73 : List (Nat × Nat × Nat) := (73, 8, 78) :: ((73, 7, 77) :: ((73, 6, 76) :: ((73, 5, 75) :: ((73, 0, 74) :: ([])))))
set_option maxHeartbeats 4000000 in
set_option maxRecDepth 100000 in
theorem ct_X0_init_73 {d : Nat} {Q : Qt} {I : Im} {J : Jm} {R : Rm} (hB : BZ I) (hQ : ∀ (I2 : Im) (J2 : Jm) (R2 : Rm), BZ I2 → FR 73 R R2 → RK lk_X0_init_73 R2 → FI 73 I I2 → KI zk_X0_init_73 I2 → FJ 73 J J2 → True → Q 0 0 I2 J2 R2) : AM (d + 1) 0 73 [.ref 73] I J R Q := by
  refine amc_of (k := kX0_init) rfl rfl rfl rfl rfl rfl (Nat.le_of_ble_eq_true rfl) (fun P hc => ?_)
  refine cs_X0_init_73_0_73 hc _ _ _ ?_
  refine ⟨rfl, ?_⟩
  have hB1 : BZ (zI I 74) := hB.z
  have hZ2 : KI ([]) (zI I 74) := (KI.nil (I := I)).z rfl
  have hI3 : FI 73 I (zI I 74) := (FI.refl 73 I).z rfl
  have hJ4 : FJ 73 J (zJ J 74) := (FJ.refl 73 J).z rfl
  have hK5 : RK ([]) (zR R 74) := (RK.nil (R := R)).z rfl
  have hF6 : FR 73 R (zR R 74) := (FR.refl 73 R).z rfl
  have hK7 : RK ((73, 0, 74) :: ([])) (uR (zR R 74) 73 0 74) := hK5.u rfl
  have hF8 : FR 73 R (uR (zR R 74) 73 0 74) := hF6.u rfl
  have hB9 : BZ (uI (zI I 74) 73 1 4) := hB1.kw rfl rfl rfl
  have hZ10 : KI ([]) (uI (zI I 74) 73 1 4) := hZ2.w rfl
  have hI11 : FI 73 I (uI (zI I 74) 73 1 4) := hI3.w rfl
  have hB12 : BZ (uI (uI (zI I 74) 73 1 4) 73 2 1073741823) := hB9.kw rfl rfl rfl
  have hZ13 : KI ([]) (uI (uI (zI I 74) 73 1 4) 73 2 1073741823) := hZ10.w rfl
  have hI14 : FI 73 I (uI (uI (zI I 74) 73 1 4) 73 2 1073741823) := hI11.w rfl
  have hB15 : BZ (uI (uI (uI (zI I 74) 73 1 4) 73 2 1073741823) 73 3 0) := hB12.kw rfl rfl rfl
  have hZ16 : KI ([]) (uI (uI (uI (zI I 74) 73 1 4) 73 2 1073741823) 73 3 0) := hZ13.w rfl
  have hI17 : FI 73 I (uI (uI (uI (zI I 74) 73 1 4) 73 2 1073741823) 73 3 0) := hI14.w rfl
  have hB18 : BZ (uI (uI (uI (uI (zI I 74) 73 1 4) 73 2 1073741823) 73 3 0) 73 4 0) := hB15.kw rfl rfl rfl
  have hZ19 : KI ([]) (uI (uI (uI (uI (zI I 74) 73 1 4) 73 2 1073741823) 73 3 0) 73 4 0) := hZ16.w rfl
  have hI20 : FI 73 I (uI (uI (uI (uI (zI I 74) 73 1 4) 73 2 1073741823) 73 3 0) 73 4 0) := hI17.w rfl
  refine ⟨rfl, ?_⟩
  have hB21 : BZ (zI (uI (uI (uI (uI (zI I 74) 73 1 4) 73 2 1073741823) 73 3 0) 73 4 0) 75) := hB18.z
  have hZ22 : KI ([]) (zI (uI (uI (uI (uI (zI I 74) 73 1 4) 73 2 1073741823) 73 3 0) 73 4 0) 75) := hZ19.z rfl
  have hI23 : FI 73 I (zI (uI (uI (uI (uI (zI I 74) 73 1 4) 73 2 1073741823) 73 3 0) 73 4 0) 75) := hI20.z rfl
  have hJ24 : FJ 73 J (zJ (zJ J 74) 75) := hJ4.z rfl
  have hK25 : RK ((73, 0, 74) :: ([])) (zR (uR (zR R 74) 73 0 74) 75) := hK7.z rfl
  have hF26 : FR 73 R (zR (uR (zR R 74) 73 0 74) 75) := hF8.z rfl
  have hK27 : RK ((73, 5, 75) :: ((73, 0, 74) :: ([]))) (uR (zR (uR (zR R 74) 73 0 74) 75) 73 5 75) := hK25.u rfl
  have hF28 : FR 73 R (uR (zR (uR (zR R 74) 73 0 74) 75) 73 5 75) := hF26.u rfl
  refine ⟨rfl, ?_⟩
  have hB29 : BZ (zI (zI (uI (uI (uI (uI (zI I 74) 73 1 4) 73 2 1073741823) 73 3 0) 73 4 0) 75) 76) := hB21.z
  have hZ30 : KI ([]) (zI (zI (uI (uI (uI (uI (zI I 74) 73 1 4) 73 2 1073741823) 73 3 0) 73 4 0) 75) 76) := hZ22.z rfl
  have hI31 : FI 73 I (zI (zI (uI (uI (uI (uI (zI I 74) 73 1 4) 73 2 1073741823) 73 3 0) 73 4 0) 75) 76) := hI23.z rfl
  have hJ32 : FJ 73 J (zJ (zJ (zJ J 74) 75) 76) := hJ24.z rfl
  have hK33 : RK ((73, 5, 75) :: ((73, 0, 74) :: ([]))) (zR (uR (zR (uR (zR R 74) 73 0 74) 75) 73 5 75) 76) := hK27.z rfl
  have hF34 : FR 73 R (zR (uR (zR (uR (zR R 74) 73 0 74) 75) 73 5 75) 76) := hF28.z rfl
  have hK35 : RK ((73, 6, 76) :: ((73, 5, 75) :: ((73, 0, 74) :: ([])))) (uR (zR (uR (zR (uR (zR R 74) 73 0 74) 75) 73 5 75) 76) 73 6 76) := hK33.u rfl
  have hF36 : FR 73 R (uR (zR (uR (zR (uR (zR R 74) 73 0 74) 75) 73 5 75) 76) 73 6 76) := hF34.u rfl
  refine ⟨rfl, ?_⟩
  have hB37 : BZ (zI (zI (zI (uI (uI (uI (uI (zI I 74) 73 1 4) 73 2 1073741823) 73 3 0) 73 4 0) 75) 76) 77) := hB29.z
  have hZ38 : KI ([]) (zI (zI (zI (uI (uI (uI (uI (zI I 74) 73 1 4) 73 2 1073741823) 73 3 0) 73 4 0) 75) 76) 77) := hZ30.z rfl
  have hI39 : FI 73 I (zI (zI (zI (uI (uI (uI (uI (zI I 74) 73 1 4) 73 2 1073741823) 73 3 0) 73 4 0) 75) 76) 77) := hI31.z rfl
  have hJ40 : FJ 73 J (zJ (zJ (zJ (zJ J 74) 75) 76) 77) := hJ32.z rfl
  have hK41 : RK ((73, 6, 76) :: ((73, 5, 75) :: ((73, 0, 74) :: ([])))) (zR (uR (zR (uR (zR (uR (zR R 74) 73 0 74) 75) 73 5 75) 76) 73 6 76) 77) := hK35.z rfl
  have hF42 : FR 73 R (zR (uR (zR (uR (zR (uR (zR R 74) 73 0 74) 75) 73 5 75) 76) 73 6 76) 77) := hF36.z rfl
  have hK43 : RK ((73, 7, 77) :: ((73, 6, 76) :: ((73, 5, 75) :: ((73, 0, 74) :: ([]))))) (uR (zR (uR (zR (uR (zR (uR (zR R 74) 73 0 74) 75) 73 5 75) 76) 73 6 76) 77) 73 7 77) := hK41.u rfl
  have hF44 : FR 73 R (uR (zR (uR (zR (uR (zR (uR (zR R 74) 73 0 74) 75) 73 5 75) 76) 73 6 76) 77) 73 7 77) := hF42.u rfl
  refine ⟨rfl, ?_⟩
  have hB45 : BZ (zI (zI (zI (zI (uI (uI (uI (uI (zI I 74) 73 1 4) 73 2 1073741823) 73 3 0) 73 4 0) 75) 76) 77) 78) := hB37.z
  have hZ46 : KI ([]) (zI (zI (zI (zI (uI (uI (uI (uI (zI I 74) 73 1 4) 73 2 1073741823) 73 3 0) 73 4 0) 75) 76) 77) 78) := hZ38.z rfl
  have hI47 : FI 73 I (zI (zI (zI (zI (uI (uI (uI (uI (zI I 74) 73 1 4) 73 2 1073741823) 73 3 0) 73 4 0) 75) 76) 77) 78) := hI39.z rfl
  have hJ48 : FJ 73 J (zJ (zJ (zJ (zJ (zJ J 74) 75) 76) 77) 78) := hJ40.z rfl
  have hK49 : RK ((73, 7, 77) :: ((73, 6, 76) :: ((73, 5, 75) :: ((73, 0, 74) :: ([]))))) (zR (uR (zR (uR (zR (uR (zR (uR (zR R 74) 73 0 74) 75) 73 5 75) 76) 73 6 76) 77) 73 7 77) 78) := hK43.z rfl
  have hF50 : FR 73 R (zR (uR (zR (uR (zR (uR (zR (uR (zR R 74) 73 0 74) 75) 73 5 75) 76) 73 6 76) 77) 73 7 77) 78) := hF44.z rfl
  have hK51 : RK ((73, 8, 78) :: ((73, 7, 77) :: ((73, 6, 76) :: ((73, 5, 75) :: ((73, 0, 74) :: ([])))))) (uR (zR (uR (zR (uR (zR (uR (zR (uR (zR R 74) 73 0 74) 75) 73 5 75) 76) 73 6 76) 77) 73 7 77) 78) 73 8 78) := hK49.u rfl
  have hF52 : FR 73 R (uR (zR (uR (zR (uR (zR (uR (zR (uR (zR R 74) 73 0 74) 75) 73 5 75) 76) 73 6 76) 77) 73 7 77) 78) 73 8 78) := hF50.u rfl
  exact ⟨rfl, fun z => absurd z (by decide), hQ _ _ _ hB45 hF52 hK51 hI47 hZ46 hJ48 trivial⟩
noncomputable def zk_X2_init_79 : List (Nat × Nat × Int32) := []
noncomputable def lk_X2_init_79 : List (Nat × Nat × Nat) := (79, 7, 84) :: ((79, 6, 83) :: ((79, 5, 82) :: ((79, 4, 81) :: ((79, 3, 80) :: ([])))))
set_option maxHeartbeats 4000000 in
set_option maxRecDepth 100000 in
theorem ct_X2_init_79 {d : Nat} {Q : Qt} {I : Im} {J : Jm} {R : Rm} (hB : BZ I) (hQ : ∀ (I2 : Im) (J2 : Jm) (R2 : Rm), BZ I2 → FR 79 R R2 → RK lk_X2_init_79 R2 → FI 79 I I2 → KI zk_X2_init_79 I2 → FJ 79 J J2 → True → Q 0 0 I2 J2 R2) : AM (d + 1) 27 79 [.ref 79] I J R Q := by
  refine amc_of (k := kX2_init) rfl rfl rfl rfl rfl rfl (Nat.le_of_ble_eq_true rfl) (fun P hc => ?_)
  refine cs_X2_init_79_0_79 hc _ _ _ ?_
  refine ⟨Or.inl rfl, ?_⟩
  have hB1 : BZ (uI I 79 0 0) := hB.kw rfl rfl rfl
  have hZ2 : KI ([]) (uI I 79 0 0) := (KI.nil (I := I)).w rfl
  have hI3 : FI 79 I (uI I 79 0 0) := (FI.refl 79 I).w rfl
  have hB4 : BZ (uI (uI I 79 0 0) 79 1 0) := hB1.kw rfl rfl rfl
  have hZ5 : KI ([]) (uI (uI I 79 0 0) 79 1 0) := hZ2.w rfl
  have hI6 : FI 79 I (uI (uI I 79 0 0) 79 1 0) := hI3.w rfl
  have hB7 : BZ (uI (uI (uI I 79 0 0) 79 1 0) 79 2 0) := hB4.kw rfl rfl rfl
  have hZ8 : KI ([]) (uI (uI (uI I 79 0 0) 79 1 0) 79 2 0) := hZ5.w rfl
  have hI9 : FI 79 I (uI (uI (uI I 79 0 0) 79 1 0) 79 2 0) := hI6.w rfl
  refine ⟨rfl, ?_⟩
  have hB10 : BZ (zI (uI (uI (uI I 79 0 0) 79 1 0) 79 2 0) 80) := hB7.z
  have hZ11 : KI ([]) (zI (uI (uI (uI I 79 0 0) 79 1 0) 79 2 0) 80) := hZ8.z rfl
  have hI12 : FI 79 I (zI (uI (uI (uI I 79 0 0) 79 1 0) 79 2 0) 80) := hI9.z rfl
  have hJ13 : FJ 79 J (zJ J 80) := (FJ.refl 79 J).z rfl
  have hK14 : RK ([]) (zR R 80) := (RK.nil (R := R)).z rfl
  have hF15 : FR 79 R (zR R 80) := (FR.refl 79 R).z rfl
  have hK16 : RK ((79, 3, 80) :: ([])) (uR (zR R 80) 79 3 80) := hK14.u rfl
  have hF17 : FR 79 R (uR (zR R 80) 79 3 80) := hF15.u rfl
  refine ⟨rfl, ?_⟩
  have hB18 : BZ (zI (zI (uI (uI (uI I 79 0 0) 79 1 0) 79 2 0) 80) 81) := hB10.z
  have hZ19 : KI ([]) (zI (zI (uI (uI (uI I 79 0 0) 79 1 0) 79 2 0) 80) 81) := hZ11.z rfl
  have hI20 : FI 79 I (zI (zI (uI (uI (uI I 79 0 0) 79 1 0) 79 2 0) 80) 81) := hI12.z rfl
  have hJ21 : FJ 79 J (zJ (zJ J 80) 81) := hJ13.z rfl
  have hK22 : RK ((79, 3, 80) :: ([])) (zR (uR (zR R 80) 79 3 80) 81) := hK16.z rfl
  have hF23 : FR 79 R (zR (uR (zR R 80) 79 3 80) 81) := hF17.z rfl
  have hK24 : RK ((79, 4, 81) :: ((79, 3, 80) :: ([]))) (uR (zR (uR (zR R 80) 79 3 80) 81) 79 4 81) := hK22.u rfl
  have hF25 : FR 79 R (uR (zR (uR (zR R 80) 79 3 80) 81) 79 4 81) := hF23.u rfl
  refine ⟨rfl, ?_⟩
  have hB26 : BZ (zI (zI (zI (uI (uI (uI I 79 0 0) 79 1 0) 79 2 0) 80) 81) 82) := hB18.z
  have hZ27 : KI ([]) (zI (zI (zI (uI (uI (uI I 79 0 0) 79 1 0) 79 2 0) 80) 81) 82) := hZ19.z rfl
  have hI28 : FI 79 I (zI (zI (zI (uI (uI (uI I 79 0 0) 79 1 0) 79 2 0) 80) 81) 82) := hI20.z rfl
  have hJ29 : FJ 79 J (zJ (zJ (zJ J 80) 81) 82) := hJ21.z rfl
  have hK30 : RK ((79, 4, 81) :: ((79, 3, 80) :: ([]))) (zR (uR (zR (uR (zR R 80) 79 3 80) 81) 79 4 81) 82) := hK24.z rfl
  have hF31 : FR 79 R (zR (uR (zR (uR (zR R 80) 79 3 80) 81) 79 4 81) 82) := hF25.z rfl
  have hK32 : RK ((79, 5, 82) :: ((79, 4, 81) :: ((79, 3, 80) :: ([])))) (uR (zR (uR (zR (uR (zR R 80) 79 3 80) 81) 79 4 81) 82) 79 5 82) := hK30.u rfl
  have hF33 : FR 79 R (uR (zR (uR (zR (uR (zR R 80) 79 3 80) 81) 79 4 81) 82) 79 5 82) := hF31.u rfl
  refine ⟨rfl, ?_⟩
  have hB34 : BZ (zI (zI (zI (zI (uI (uI (uI I 79 0 0) 79 1 0) 79 2 0) 80) 81) 82) 83) := hB26.z
  have hZ35 : KI ([]) (zI (zI (zI (zI (uI (uI (uI I 79 0 0) 79 1 0) 79 2 0) 80) 81) 82) 83) := hZ27.z rfl
  have hI36 : FI 79 I (zI (zI (zI (zI (uI (uI (uI I 79 0 0) 79 1 0) 79 2 0) 80) 81) 82) 83) := hI28.z rfl
  have hJ37 : FJ 79 J (zJ (zJ (zJ (zJ J 80) 81) 82) 83) := hJ29.z rfl
  have hK38 : RK ((79, 5, 82) :: ((79, 4, 81) :: ((79, 3, 80) :: ([])))) (zR (uR (zR (uR (zR (uR (zR R 80) 79 3 80) 81) 79 4 81) 82) 79 5 82) 83) := hK32.z rfl
  have hF39 : FR 79 R (zR (uR (zR (uR (zR (uR (zR R 80) 79 3 80) 81) 79 4 81) 82) 79 5 82) 83) := hF33.z rfl
  have hK40 : RK ((79, 6, 83) :: ((79, 5, 82) :: ((79, 4, 81) :: ((79, 3, 80) :: ([]))))) (uR (zR (uR (zR (uR (zR (uR (zR R 80) 79 3 80) 81) 79 4 81) 82) 79 5 82) 83) 79 6 83) := hK38.u rfl
  have hF41 : FR 79 R (uR (zR (uR (zR (uR (zR (uR (zR R 80) 79 3 80) 81) 79 4 81) 82) 79 5 82) 83) 79 6 83) := hF39.u rfl
  refine ⟨rfl, ?_⟩
  have hB42 : BZ (zI (zI (zI (zI (zI (uI (uI (uI I 79 0 0) 79 1 0) 79 2 0) 80) 81) 82) 83) 84) := hB34.z
  have hZ43 : KI ([]) (zI (zI (zI (zI (zI (uI (uI (uI I 79 0 0) 79 1 0) 79 2 0) 80) 81) 82) 83) 84) := hZ35.z rfl
  have hI44 : FI 79 I (zI (zI (zI (zI (zI (uI (uI (uI I 79 0 0) 79 1 0) 79 2 0) 80) 81) 82) 83) 84) := hI36.z rfl
  have hJ45 : FJ 79 J (zJ (zJ (zJ (zJ (zJ J 80) 81) 82) 83) 84) := hJ37.z rfl
  have hK46 : RK ((79, 6, 83) :: ((79, 5, 82) :: ((79, 4, 81) :: ((79, 3, 80) :: ([]))))) (zR (uR (zR (uR (zR (uR (zR (uR (zR R 80) 79 3 80) 81) 79 4 81) 82) 79 5 82) 83) 79 6 83) 84) := hK40.z rfl
  have hF47 : FR 79 R (zR (uR (zR (uR (zR (uR (zR (uR (zR R 80) 79 3 80) 81) 79 4 81) 82) 79 5 82) 83) 79 6 83) 84) := hF41.z rfl
  have hK48 : RK ((79, 7, 84) :: ((79, 6, 83) :: ((79, 5, 82) :: ((79, 4, 81) :: ((79, 3, 80) :: ([])))))) (uR (zR (uR (zR (uR (zR (uR (zR (uR (zR R 80) 79 3 80) 81) 79 4 81) 82) 79 5 82) 83) 79 6 83) 84) 79 7 84) := hK46.u rfl
  have hF49 : FR 79 R (uR (zR (uR (zR (uR (zR (uR (zR (uR (zR R 80) 79 3 80) 81) 79 4 81) 82) 79 5 82) 83) 79 6 83) 84) 79 7 84) := hF47.u rfl
  exact ⟨rfl, fun z => absurd z (by decide), hQ _ _ _ hB42 hF49 hK48 hI44 hZ43 hJ45 trivial⟩
