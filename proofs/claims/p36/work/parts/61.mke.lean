noncomputable def lk_X12_init_97 : List (Nat × Nat × Nat) := (97, 39, 112) :: ((97, 38, 111) :: ((97, 37, 110) :: ((97, 36, 109) :: ((97, 35, 108) :: ((97, 30, 107) :: ((97, 29, 106) :: ((97, 28, 105) :: ((97, 22, 104) :: ((97, 21, 103) :: ((97, 20, 102) :: ((97, 7, 101) :: ((97, 6, 100) :: ((97, 5, 99) :: ((97, 4, 98) :: ([])))))))))))))))
theorem getD_out {α : Type} {l : List α} {n : Nat} {d : α} (h : l.length ≤ n) : l.getD n d = d := by rw [List.getD_eq_getElem?_getD, List.getElem?_eq_none h]; rfl
noncomputable def lkA : List (Nat × Nat × Nat) := lk_X12_init_97 ++ lk_X11_init_1
theorem fl_of {R : Rm} (h : RK lkA R) : Fl R := by
  have h1 : ((List.range 112).all fun i => (List.range 60).all fun k => !(Nat.beq (fkd (shl.getD i (999, 0)).1 k) 4) || lkq lkA (i + 1) k) = true := by decide +kernel
  have h2 : ∀ ci, ci < 1000 → (fkl.getD ci []).length ≤ 60 := by decide +kernel
  have h4 : ∀ i, i < 112 → (shl.getD i (999, 0)).1 < 1000 := by decide +kernel
  intro i k hk
  have hi : i < 112 := by
    rcases Nat.lt_or_ge i 112 with q | q
    · exact q
    · rw [sh_out (by omega)] at hk
      have : fkd 999 k = 9 := by
        unfold fkd
        rw [getD_out (l := fkl) (by decide)]; rfl
      rw [show ((999, 0) : Nat × Nat).1 = 999 from rfl, this] at hk
      omega
  have hk6 : k < 60 := by
    rcases Nat.lt_or_ge k 60 with q | q
    · exact q
    · have h5 := h2 _ (h4 i hi)
      unfold fkd at hk
      rw [getD_out (by omega)] at hk
      omega
  have h5 := List.all_eq_true.mp (List.all_eq_true.mp h1 i (List.mem_range.mpr hi)) k (List.mem_range.mpr hk6)
  rw [hk] at h5
  exact h.ne h5
theorem ri_of {R : Rm} (h : RK lkA R) : RI R := by
  have a : ∀ o k v : Nat, lkA.contains (o, k, v) = true → R o k = v := fun o k v q => h.at q
  refine ⟨?_, ?_, ?_, ?_, fun j hj => ?_, fun j hj => ?_, fun j hj => ?_, fun j hj => ?_, Or.inl ⟨a 1 7 9 rfl, a 1 8 15 rfl⟩, Or.inl ⟨a 1 9 21 rfl, a 1 10 27 rfl⟩, fun j hj => ?_, fun j hj => ?_⟩
  · rw [a 1 7 9 rfl]; decide
  · rw [a 1 8 15 rfl]; decide
  · rw [a 1 9 21 rfl]; decide
  · rw [a 1 10 27 rfl]; decide
  · rcases (show j = 0 ∨ j = 1 ∨ j = 2 ∨ j = 3 by omega) with q | q | q | q <;> subst q
    · rw [a 2 0 53 rfl]; decide
    · rw [a 2 1 55 rfl]; decide
    · rw [a 2 2 57 rfl]; decide
    · rw [a 2 3 59 rfl]; decide
  · rcases (show j = 0 ∨ j = 1 ∨ j = 2 by omega) with q | q | q <;> subst q
    · rw [a 33 0 61 rfl]; decide
    · rw [a 33 1 73 rfl]; decide
    · rw [a 33 2 85 rfl]; decide
  · rcases (show j = 0 ∨ j = 1 ∨ j = 2 by omega) with q | q | q <;> subst q
    · rw [a 34 0 67 rfl]; decide
    · rw [a 34 1 79 rfl]; decide
    · rw [a 34 2 91 rfl]; decide
  · rcases (show j = 0 ∨ j = 1 ∨ j = 2 ∨ j = 3 by omega) with q | q | q | q <;> subst q
    · exact a 2 0 53 rfl
    · exact a 2 1 55 rfl
    · exact a 2 2 57 rfl
    · exact a 2 3 59 rfl
  · rcases (show j = 0 ∨ j = 1 ∨ j = 2 by omega) with q | q | q <;> subst q
    · exact a 33 0 61 rfl
    · exact a 33 1 73 rfl
    · exact a 33 2 85 rfl
  · rcases (show j = 0 ∨ j = 1 ∨ j = 2 by omega) with q | q | q <;> subst q
    · exact a 34 0 67 rfl
    · exact a 34 1 79 rfl
    · exact a 34 2 91 rfl
set_option maxHeartbeats 4000000 in
set_option maxRecDepth 100000 in
theorem ct_X12_init_97 {d : Nat} {Q : Qt} {I : Im} {J : Jm} {R : Rm} (hB : BZ I) (hL : RK lk_X11_init_1 R) (hZ0 : KI zk_X11_init_1 I) (hj0 : J 47 0 = 0) (hj5 : ∀ k, k < 22 → J 5 k = rsv.getD k 0) (hQ : ∀ (I2 : Im) (J2 : Jm) (R2 : Rm), Bd I2 → FR 97 R R2 → RK lk_X12_init_97 R2 → RLk I2 J2 → R3 I2 J2 → (I2 9 4 = 0 ∧ I2 9 2 = 1073741823 ∧ I2 102 0 = 0 ∧ I2 102 3 = 1073741823 ∧ I2 97 23 = 0 ∧ I2 3 3 = 0 ∧ I2 97 10 = -1 ∧ I2 97 11 = -1) → ((I2 9 1 = 4 ∧ I2 9 3 = 0 ∧ (∀ k, I2 10 k = 0) ∧ I2 21 0 = 0 ∧ ∀ k, k < 324 → I2 102 k = emC k) ∧ ∀ t, t < 4 → I2 99 t = -1) → Q 0 0 I2 J2 R2) : AM (d + 2) 172 97 [.ref 97] I J R Q := by
  refine amc_of (k := kX12_init) rfl rfl rfl rfl rfl rfl (Nat.le_of_ble_eq_true rfl) (fun P hc => ?_)
  refine cs_X12_init_97_0_97 hc _ _ _ ?_
  have hJ1 : FJ 97 J (uJ J 97 3 1) := (FJ.refl 97 J).w rfl
  have jz2 : (uJ J 97 3 1) 47 0 = 0 := JZ.w hj0 rfl
  have jf3 : ∀ k, k < 22 → (uJ J 97 3 1) 5 k = rsv.getD k 0 := J5.w hj5 rfl
  refine ⟨rfl, ?_⟩
  have hB4 : BZ (zI I 98) := hB.z
  have hZ5 : KI (zk_X11_init_1) (zI I 98) := hZ0.z rfl
  have hI6 : FI 97 I (zI I 98) := (FI.refl 97 I).z rfl
  have hJ7 : FJ 97 J (zJ (uJ J 97 3 1) 98) := hJ1.z rfl
  have jz8 : (zJ (uJ J 97 3 1) 98) 47 0 = 0 := JZ.z jz2 rfl
  have jf9 : ∀ k, k < 22 → (zJ (uJ J 97 3 1) 98) 5 k = rsv.getD k 0 := J5.z jf3 rfl
  have hK10 : RK ([]) (zR R 98) := (RK.nil (R := R)).z rfl
  have hF11 : FR 97 R (zR R 98) := (FR.refl 97 R).z rfl
  have hK12 : RK ((97, 4, 98) :: ([])) (uR (zR R 98) 97 4 98) := hK10.u rfl
  have hF13 : FR 97 R (uR (zR R 98) 97 4 98) := hF11.u rfl
  refine ⟨rfl, ?_⟩
  have hB14 : BZ (zI (zI I 98) 99) := hB4.z
  have hZ15 : KI (zk_X11_init_1) (zI (zI I 98) 99) := hZ5.z rfl
  have hI16 : FI 97 I (zI (zI I 98) 99) := hI6.z rfl
  have hJ17 : FJ 97 J (zJ (zJ (uJ J 97 3 1) 98) 99) := hJ7.z rfl
  have jz18 : (zJ (zJ (uJ J 97 3 1) 98) 99) 47 0 = 0 := JZ.z jz8 rfl
  have jf19 : ∀ k, k < 22 → (zJ (zJ (uJ J 97 3 1) 98) 99) 5 k = rsv.getD k 0 := J5.z jf9 rfl
  have hK20 : RK ((97, 4, 98) :: ([])) (zR (uR (zR R 98) 97 4 98) 99) := hK12.z rfl
  have hF21 : FR 97 R (zR (uR (zR R 98) 97 4 98) 99) := hF13.z rfl
  have hK22 : RK ((97, 5, 99) :: ((97, 4, 98) :: ([]))) (uR (zR (uR (zR R 98) 97 4 98) 99) 97 5 99) := hK20.u rfl
  have hF23 : FR 97 R (uR (zR (uR (zR R 98) 97 4 98) 99) 97 5 99) := hF21.u rfl
  refine ⟨rfl, ?_⟩
  have hB24 : BZ (zI (zI (zI I 98) 99) 100) := hB14.z
  have hZ25 : KI (zk_X11_init_1) (zI (zI (zI I 98) 99) 100) := hZ15.z rfl
  have hI26 : FI 97 I (zI (zI (zI I 98) 99) 100) := hI16.z rfl
  have hJ27 : FJ 97 J (zJ (zJ (zJ (uJ J 97 3 1) 98) 99) 100) := hJ17.z rfl
  have jz28 : (zJ (zJ (zJ (uJ J 97 3 1) 98) 99) 100) 47 0 = 0 := JZ.z jz18 rfl
  have jf29 : ∀ k, k < 22 → (zJ (zJ (zJ (uJ J 97 3 1) 98) 99) 100) 5 k = rsv.getD k 0 := J5.z jf19 rfl
  have hK30 : RK ((97, 5, 99) :: ((97, 4, 98) :: ([]))) (zR (uR (zR (uR (zR R 98) 97 4 98) 99) 97 5 99) 100) := hK22.z rfl
  have hF31 : FR 97 R (zR (uR (zR (uR (zR R 98) 97 4 98) 99) 97 5 99) 100) := hF23.z rfl
  have hK32 : RK ((97, 6, 100) :: ((97, 5, 99) :: ((97, 4, 98) :: ([])))) (uR (zR (uR (zR (uR (zR R 98) 97 4 98) 99) 97 5 99) 100) 97 6 100) := hK30.u rfl
  have hF33 : FR 97 R (uR (zR (uR (zR (uR (zR R 98) 97 4 98) 99) 97 5 99) 100) 97 6 100) := hF31.u rfl
  refine ⟨rfl, ?_⟩
  have hB34 : BZ (zI (zI (zI (zI I 98) 99) 100) 101) := hB24.z
  have hZ35 : KI (zk_X11_init_1) (zI (zI (zI (zI I 98) 99) 100) 101) := hZ25.z rfl
  have hI36 : FI 97 I (zI (zI (zI (zI I 98) 99) 100) 101) := hI26.z rfl
  have hJ37 : FJ 97 J (zJ (zJ (zJ (zJ (uJ J 97 3 1) 98) 99) 100) 101) := hJ27.z rfl
  have jz38 : (zJ (zJ (zJ (zJ (uJ J 97 3 1) 98) 99) 100) 101) 47 0 = 0 := JZ.z jz28 rfl
  have jf39 : ∀ k, k < 22 → (zJ (zJ (zJ (zJ (uJ J 97 3 1) 98) 99) 100) 101) 5 k = rsv.getD k 0 := J5.z jf29 rfl
  have hK40 : RK ((97, 6, 100) :: ((97, 5, 99) :: ((97, 4, 98) :: ([])))) (zR (uR (zR (uR (zR (uR (zR R 98) 97 4 98) 99) 97 5 99) 100) 97 6 100) 101) := hK32.z rfl
  have hF41 : FR 97 R (zR (uR (zR (uR (zR (uR (zR R 98) 97 4 98) 99) 97 5 99) 100) 97 6 100) 101) := hF33.z rfl
  have hK42 : RK ((97, 7, 101) :: ((97, 6, 100) :: ((97, 5, 99) :: ((97, 4, 98) :: ([]))))) (uR (zR (uR (zR (uR (zR (uR (zR R 98) 97 4 98) 99) 97 5 99) 100) 97 6 100) 101) 97 7 101) := hK40.u rfl
  have hF43 : FR 97 R (uR (zR (uR (zR (uR (zR (uR (zR R 98) 97 4 98) 99) 97 5 99) 100) 97 6 100) 101) 97 7 101) := hF41.u rfl
  have hB44 : BZ (uI (zI (zI (zI (zI I 98) 99) 100) 101) 97 10 (-1)) := hB34.kw rfl rfl rfl
  have hZ45 : KI ((97, 10, -1) :: (zk_X11_init_1)) (uI (zI (zI (zI (zI I 98) 99) 100) 101) 97 10 (-1)) := hZ35.u rfl
  have hI46 : FI 97 I (uI (zI (zI (zI (zI I 98) 99) 100) 101) 97 10 (-1)) := hI36.w rfl
  have hB47 : BZ (uI (uI (zI (zI (zI (zI I 98) 99) 100) 101) 97 10 (-1)) 97 11 (-1)) := hB44.kw rfl rfl rfl
  have hZ48 : KI ((97, 11, -1) :: ((97, 10, -1) :: (zk_X11_init_1))) (uI (uI (zI (zI (zI (zI I 98) 99) 100) 101) 97 10 (-1)) 97 11 (-1)) := hZ45.u rfl
  have hI49 : FI 97 I (uI (uI (zI (zI (zI (zI I 98) 99) 100) 101) 97 10 (-1)) 97 11 (-1)) := hI46.w rfl
  refine ⟨rfl, ?_⟩
  have hB50 : BZ (zI (uI (uI (zI (zI (zI (zI I 98) 99) 100) 101) 97 10 (-1)) 97 11 (-1)) 102) := hB47.z
  have hZ51 : KI ((97, 11, -1) :: ((97, 10, -1) :: (zk_X11_init_1))) (zI (uI (uI (zI (zI (zI (zI I 98) 99) 100) 101) 97 10 (-1)) 97 11 (-1)) 102) := hZ48.z rfl
  have hI52 : FI 97 I (zI (uI (uI (zI (zI (zI (zI I 98) 99) 100) 101) 97 10 (-1)) 97 11 (-1)) 102) := hI49.z rfl
  have hJ53 : FJ 97 J (zJ (zJ (zJ (zJ (zJ (uJ J 97 3 1) 98) 99) 100) 101) 102) := hJ37.z rfl
  have jz54 : (zJ (zJ (zJ (zJ (zJ (uJ J 97 3 1) 98) 99) 100) 101) 102) 47 0 = 0 := JZ.z jz38 rfl
  have jf55 : ∀ k, k < 22 → (zJ (zJ (zJ (zJ (zJ (uJ J 97 3 1) 98) 99) 100) 101) 102) 5 k = rsv.getD k 0 := J5.z jf39 rfl
  have hK56 : RK ((97, 7, 101) :: ((97, 6, 100) :: ((97, 5, 99) :: ((97, 4, 98) :: ([]))))) (zR (uR (zR (uR (zR (uR (zR (uR (zR R 98) 97 4 98) 99) 97 5 99) 100) 97 6 100) 101) 97 7 101) 102) := hK42.z rfl
  have hF57 : FR 97 R (zR (uR (zR (uR (zR (uR (zR (uR (zR R 98) 97 4 98) 99) 97 5 99) 100) 97 6 100) 101) 97 7 101) 102) := hF43.z rfl
  have hK58 : RK ((97, 20, 102) :: ((97, 7, 101) :: ((97, 6, 100) :: ((97, 5, 99) :: ((97, 4, 98) :: ([])))))) (uR (zR (uR (zR (uR (zR (uR (zR (uR (zR R 98) 97 4 98) 99) 97 5 99) 100) 97 6 100) 101) 97 7 101) 102) 97 20 102) := hK56.u rfl
  have hF59 : FR 97 R (uR (zR (uR (zR (uR (zR (uR (zR (uR (zR R 98) 97 4 98) 99) 97 5 99) 100) 97 6 100) 101) 97 7 101) 102) 97 20 102) := hF57.u rfl
  refine ⟨rfl, ?_⟩
  have hB60 : BZ (zI (zI (uI (uI (zI (zI (zI (zI I 98) 99) 100) 101) 97 10 (-1)) 97 11 (-1)) 102) 103) := hB50.z
  have hZ61 : KI ((97, 11, -1) :: ((97, 10, -1) :: (zk_X11_init_1))) (zI (zI (uI (uI (zI (zI (zI (zI I 98) 99) 100) 101) 97 10 (-1)) 97 11 (-1)) 102) 103) := hZ51.z rfl
  have hI62 : FI 97 I (zI (zI (uI (uI (zI (zI (zI (zI I 98) 99) 100) 101) 97 10 (-1)) 97 11 (-1)) 102) 103) := hI52.z rfl
  have hJ63 : FJ 97 J (zJ (zJ (zJ (zJ (zJ (zJ (uJ J 97 3 1) 98) 99) 100) 101) 102) 103) := hJ53.z rfl
  have jz64 : (zJ (zJ (zJ (zJ (zJ (zJ (uJ J 97 3 1) 98) 99) 100) 101) 102) 103) 47 0 = 0 := JZ.z jz54 rfl
  have jf65 : ∀ k, k < 22 → (zJ (zJ (zJ (zJ (zJ (zJ (uJ J 97 3 1) 98) 99) 100) 101) 102) 103) 5 k = rsv.getD k 0 := J5.z jf55 rfl
  have hK66 : RK ((97, 20, 102) :: ((97, 7, 101) :: ((97, 6, 100) :: ((97, 5, 99) :: ((97, 4, 98) :: ([])))))) (zR (uR (zR (uR (zR (uR (zR (uR (zR (uR (zR R 98) 97 4 98) 99) 97 5 99) 100) 97 6 100) 101) 97 7 101) 102) 97 20 102) 103) := hK58.z rfl
  have hF67 : FR 97 R (zR (uR (zR (uR (zR (uR (zR (uR (zR (uR (zR R 98) 97 4 98) 99) 97 5 99) 100) 97 6 100) 101) 97 7 101) 102) 97 20 102) 103) := hF59.z rfl
  have hK68 : RK ((97, 21, 103) :: ((97, 20, 102) :: ((97, 7, 101) :: ((97, 6, 100) :: ((97, 5, 99) :: ((97, 4, 98) :: ([]))))))) (uR (zR (uR (zR (uR (zR (uR (zR (uR (zR (uR (zR R 98) 97 4 98) 99) 97 5 99) 100) 97 6 100) 101) 97 7 101) 102) 97 20 102) 103) 97 21 103) := hK66.u rfl
  have hF69 : FR 97 R (uR (zR (uR (zR (uR (zR (uR (zR (uR (zR (uR (zR R 98) 97 4 98) 99) 97 5 99) 100) 97 6 100) 101) 97 7 101) 102) 97 20 102) 103) 97 21 103) := hF67.u rfl
  refine ⟨rfl, ?_⟩
  have hB70 : BZ (zI (zI (zI (uI (uI (zI (zI (zI (zI I 98) 99) 100) 101) 97 10 (-1)) 97 11 (-1)) 102) 103) 104) := hB60.z
  have hZ71 : KI ((97, 11, -1) :: ((97, 10, -1) :: (zk_X11_init_1))) (zI (zI (zI (uI (uI (zI (zI (zI (zI I 98) 99) 100) 101) 97 10 (-1)) 97 11 (-1)) 102) 103) 104) := hZ61.z rfl
  have hI72 : FI 97 I (zI (zI (zI (uI (uI (zI (zI (zI (zI I 98) 99) 100) 101) 97 10 (-1)) 97 11 (-1)) 102) 103) 104) := hI62.z rfl
  have hJ73 : FJ 97 J (zJ (zJ (zJ (zJ (zJ (zJ (zJ (uJ J 97 3 1) 98) 99) 100) 101) 102) 103) 104) := hJ63.z rfl
  have jz74 : (zJ (zJ (zJ (zJ (zJ (zJ (zJ (uJ J 97 3 1) 98) 99) 100) 101) 102) 103) 104) 47 0 = 0 := JZ.z jz64 rfl
  have jf75 : ∀ k, k < 22 → (zJ (zJ (zJ (zJ (zJ (zJ (zJ (uJ J 97 3 1) 98) 99) 100) 101) 102) 103) 104) 5 k = rsv.getD k 0 := J5.z jf65 rfl
  have hK76 : RK ((97, 21, 103) :: ((97, 20, 102) :: ((97, 7, 101) :: ((97, 6, 100) :: ((97, 5, 99) :: ((97, 4, 98) :: ([]))))))) (zR (uR (zR (uR (zR (uR (zR (uR (zR (uR (zR (uR (zR R 98) 97 4 98) 99) 97 5 99) 100) 97 6 100) 101) 97 7 101) 102) 97 20 102) 103) 97 21 103) 104) := hK68.z rfl
  have hF77 : FR 97 R (zR (uR (zR (uR (zR (uR (zR (uR (zR (uR (zR (uR (zR R 98) 97 4 98) 99) 97 5 99) 100) 97 6 100) 101) 97 7 101) 102) 97 20 102) 103) 97 21 103) 104) := hF69.z rfl
  have hK78 : RK ((97, 22, 104) :: ((97, 21, 103) :: ((97, 20, 102) :: ((97, 7, 101) :: ((97, 6, 100) :: ((97, 5, 99) :: ((97, 4, 98) :: ([])))))))) (uR (zR (uR (zR (uR (zR (uR (zR (uR (zR (uR (zR (uR (zR R 98) 97 4 98) 99) 97 5 99) 100) 97 6 100) 101) 97 7 101) 102) 97 20 102) 103) 97 21 103) 104) 97 22 104) := hK76.u rfl
  have hF79 : FR 97 R (uR (zR (uR (zR (uR (zR (uR (zR (uR (zR (uR (zR (uR (zR R 98) 97 4 98) 99) 97 5 99) 100) 97 6 100) 101) 97 7 101) 102) 97 20 102) 103) 97 21 103) 104) 97 22 104) := hF77.u rfl
  refine ⟨rfl, ?_⟩
  have hB80 : BZ (zI (zI (zI (zI (uI (uI (zI (zI (zI (zI I 98) 99) 100) 101) 97 10 (-1)) 97 11 (-1)) 102) 103) 104) 105) := hB70.z
  have hZ81 : KI ((97, 11, -1) :: ((97, 10, -1) :: (zk_X11_init_1))) (zI (zI (zI (zI (uI (uI (zI (zI (zI (zI I 98) 99) 100) 101) 97 10 (-1)) 97 11 (-1)) 102) 103) 104) 105) := hZ71.z rfl
  have hI82 : FI 97 I (zI (zI (zI (zI (uI (uI (zI (zI (zI (zI I 98) 99) 100) 101) 97 10 (-1)) 97 11 (-1)) 102) 103) 104) 105) := hI72.z rfl
  have hJ83 : FJ 97 J (zJ (zJ (zJ (zJ (zJ (zJ (zJ (zJ (uJ J 97 3 1) 98) 99) 100) 101) 102) 103) 104) 105) := hJ73.z rfl
  have jz84 : (zJ (zJ (zJ (zJ (zJ (zJ (zJ (zJ (uJ J 97 3 1) 98) 99) 100) 101) 102) 103) 104) 105) 47 0 = 0 := JZ.z jz74 rfl
  have jf85 : ∀ k, k < 22 → (zJ (zJ (zJ (zJ (zJ (zJ (zJ (zJ (uJ J 97 3 1) 98) 99) 100) 101) 102) 103) 104) 105) 5 k = rsv.getD k 0 := J5.z jf75 rfl
  have hK86 : RK ((97, 22, 104) :: ((97, 21, 103) :: ((97, 20, 102) :: ((97, 7, 101) :: ((97, 6, 100) :: ((97, 5, 99) :: ((97, 4, 98) :: ([])))))))) (zR (uR (zR (uR (zR (uR (zR (uR (zR (uR (zR (uR (zR (uR (zR R 98) 97 4 98) 99) 97 5 99) 100) 97 6 100) 101) 97 7 101) 102) 97 20 102) 103) 97 21 103) 104) 97 22 104) 105) := hK78.z rfl
  have hF87 : FR 97 R (zR (uR (zR (uR (zR (uR (zR (uR (zR (uR (zR (uR (zR (uR (zR R 98) 97 4 98) 99) 97 5 99) 100) 97 6 100) 101) 97 7 101) 102) 97 20 102) 103) 97 21 103) 104) 97 22 104) 105) := hF79.z rfl
  have hK88 : RK ((97, 28, 105) :: ((97, 22, 104) :: ((97, 21, 103) :: ((97, 20, 102) :: ((97, 7, 101) :: ((97, 6, 100) :: ((97, 5, 99) :: ((97, 4, 98) :: ([]))))))))) (uR (zR (uR (zR (uR (zR (uR (zR (uR (zR (uR (zR (uR (zR (uR (zR R 98) 97 4 98) 99) 97 5 99) 100) 97 6 100) 101) 97 7 101) 102) 97 20 102) 103) 97 21 103) 104) 97 22 104) 105) 97 28 105) := hK86.u rfl
  have hF89 : FR 97 R (uR (zR (uR (zR (uR (zR (uR (zR (uR (zR (uR (zR (uR (zR (uR (zR R 98) 97 4 98) 99) 97 5 99) 100) 97 6 100) 101) 97 7 101) 102) 97 20 102) 103) 97 21 103) 104) 97 22 104) 105) 97 28 105) := hF87.u rfl
  refine ⟨rfl, ?_⟩
  have hB90 : BZ (zI (zI (zI (zI (zI (uI (uI (zI (zI (zI (zI I 98) 99) 100) 101) 97 10 (-1)) 97 11 (-1)) 102) 103) 104) 105) 106) := hB80.z
  have hZ91 : KI ((97, 11, -1) :: ((97, 10, -1) :: (zk_X11_init_1))) (zI (zI (zI (zI (zI (uI (uI (zI (zI (zI (zI I 98) 99) 100) 101) 97 10 (-1)) 97 11 (-1)) 102) 103) 104) 105) 106) := hZ81.z rfl
  have hI92 : FI 97 I (zI (zI (zI (zI (zI (uI (uI (zI (zI (zI (zI I 98) 99) 100) 101) 97 10 (-1)) 97 11 (-1)) 102) 103) 104) 105) 106) := hI82.z rfl
  have hJ93 : FJ 97 J (zJ (zJ (zJ (zJ (zJ (zJ (zJ (zJ (zJ (uJ J 97 3 1) 98) 99) 100) 101) 102) 103) 104) 105) 106) := hJ83.z rfl
  have jz94 : (zJ (zJ (zJ (zJ (zJ (zJ (zJ (zJ (zJ (uJ J 97 3 1) 98) 99) 100) 101) 102) 103) 104) 105) 106) 47 0 = 0 := JZ.z jz84 rfl
  have jf95 : ∀ k, k < 22 → (zJ (zJ (zJ (zJ (zJ (zJ (zJ (zJ (zJ (uJ J 97 3 1) 98) 99) 100) 101) 102) 103) 104) 105) 106) 5 k = rsv.getD k 0 := J5.z jf85 rfl
  have hK96 : RK ((97, 28, 105) :: ((97, 22, 104) :: ((97, 21, 103) :: ((97, 20, 102) :: ((97, 7, 101) :: ((97, 6, 100) :: ((97, 5, 99) :: ((97, 4, 98) :: ([]))))))))) (zR (uR (zR (uR (zR (uR (zR (uR (zR (uR (zR (uR (zR (uR (zR (uR (zR R 98) 97 4 98) 99) 97 5 99) 100) 97 6 100) 101) 97 7 101) 102) 97 20 102) 103) 97 21 103) 104) 97 22 104) 105) 97 28 105) 106) := hK88.z rfl
  have hF97 : FR 97 R (zR (uR (zR (uR (zR (uR (zR (uR (zR (uR (zR (uR (zR (uR (zR (uR (zR R 98) 97 4 98) 99) 97 5 99) 100) 97 6 100) 101) 97 7 101) 102) 97 20 102) 103) 97 21 103) 104) 97 22 104) 105) 97 28 105) 106) := hF89.z rfl
  have hK98 : RK ((97, 29, 106) :: ((97, 28, 105) :: ((97, 22, 104) :: ((97, 21, 103) :: ((97, 20, 102) :: ((97, 7, 101) :: ((97, 6, 100) :: ((97, 5, 99) :: ((97, 4, 98) :: ([])))))))))) (uR (zR (uR (zR (uR (zR (uR (zR (uR (zR (uR (zR (uR (zR (uR (zR (uR (zR R 98) 97 4 98) 99) 97 5 99) 100) 97 6 100) 101) 97 7 101) 102) 97 20 102) 103) 97 21 103) 104) 97 22 104) 105) 97 28 105) 106) 97 29 106) := hK96.u rfl
  have hF99 : FR 97 R (uR (zR (uR (zR (uR (zR (uR (zR (uR (zR (uR (zR (uR (zR (uR (zR (uR (zR R 98) 97 4 98) 99) 97 5 99) 100) 97 6 100) 101) 97 7 101) 102) 97 20 102) 103) 97 21 103) 104) 97 22 104) 105) 97 28 105) 106) 97 29 106) := hF97.u rfl
  refine ⟨rfl, ?_⟩
  have hB100 : BZ (zI (zI (zI (zI (zI (zI (uI (uI (zI (zI (zI (zI I 98) 99) 100) 101) 97 10 (-1)) 97 11 (-1)) 102) 103) 104) 105) 106) 107) := hB90.z
  have hZ101 : KI ((97, 11, -1) :: ((97, 10, -1) :: (zk_X11_init_1))) (zI (zI (zI (zI (zI (zI (uI (uI (zI (zI (zI (zI I 98) 99) 100) 101) 97 10 (-1)) 97 11 (-1)) 102) 103) 104) 105) 106) 107) := hZ91.z rfl
  have hI102 : FI 97 I (zI (zI (zI (zI (zI (zI (uI (uI (zI (zI (zI (zI I 98) 99) 100) 101) 97 10 (-1)) 97 11 (-1)) 102) 103) 104) 105) 106) 107) := hI92.z rfl
  have hJ103 : FJ 97 J (zJ (zJ (zJ (zJ (zJ (zJ (zJ (zJ (zJ (zJ (uJ J 97 3 1) 98) 99) 100) 101) 102) 103) 104) 105) 106) 107) := hJ93.z rfl
  have jz104 : (zJ (zJ (zJ (zJ (zJ (zJ (zJ (zJ (zJ (zJ (uJ J 97 3 1) 98) 99) 100) 101) 102) 103) 104) 105) 106) 107) 47 0 = 0 := JZ.z jz94 rfl
  have jf105 : ∀ k, k < 22 → (zJ (zJ (zJ (zJ (zJ (zJ (zJ (zJ (zJ (zJ (uJ J 97 3 1) 98) 99) 100) 101) 102) 103) 104) 105) 106) 107) 5 k = rsv.getD k 0 := J5.z jf95 rfl
  have hK106 : RK ((97, 29, 106) :: ((97, 28, 105) :: ((97, 22, 104) :: ((97, 21, 103) :: ((97, 20, 102) :: ((97, 7, 101) :: ((97, 6, 100) :: ((97, 5, 99) :: ((97, 4, 98) :: ([])))))))))) (zR (uR (zR (uR (zR (uR (zR (uR (zR (uR (zR (uR (zR (uR (zR (uR (zR (uR (zR R 98) 97 4 98) 99) 97 5 99) 100) 97 6 100) 101) 97 7 101) 102) 97 20 102) 103) 97 21 103) 104) 97 22 104) 105) 97 28 105) 106) 97 29 106) 107) := hK98.z rfl
  have hF107 : FR 97 R (zR (uR (zR (uR (zR (uR (zR (uR (zR (uR (zR (uR (zR (uR (zR (uR (zR (uR (zR R 98) 97 4 98) 99) 97 5 99) 100) 97 6 100) 101) 97 7 101) 102) 97 20 102) 103) 97 21 103) 104) 97 22 104) 105) 97 28 105) 106) 97 29 106) 107) := hF99.z rfl
  have hK108 : RK ((97, 30, 107) :: ((97, 29, 106) :: ((97, 28, 105) :: ((97, 22, 104) :: ((97, 21, 103) :: ((97, 20, 102) :: ((97, 7, 101) :: ((97, 6, 100) :: ((97, 5, 99) :: ((97, 4, 98) :: ([]))))))))))) (uR (zR (uR (zR (uR (zR (uR (zR (uR (zR (uR (zR (uR (zR (uR (zR (uR (zR (uR (zR R 98) 97 4 98) 99) 97 5 99) 100) 97 6 100) 101) 97 7 101) 102) 97 20 102) 103) 97 21 103) 104) 97 22 104) 105) 97 28 105) 106) 97 29 106) 107) 97 30 107) := hK106.u rfl
  have hF109 : FR 97 R (uR (zR (uR (zR (uR (zR (uR (zR (uR (zR (uR (zR (uR (zR (uR (zR (uR (zR (uR (zR R 98) 97 4 98) 99) 97 5 99) 100) 97 6 100) 101) 97 7 101) 102) 97 20 102) 103) 97 21 103) 104) 97 22 104) 105) 97 28 105) 106) 97 29 106) 107) 97 30 107) := hF107.u rfl
  refine ⟨rfl, ?_⟩
  have hB110 : BZ (zI (zI (zI (zI (zI (zI (zI (uI (uI (zI (zI (zI (zI I 98) 99) 100) 101) 97 10 (-1)) 97 11 (-1)) 102) 103) 104) 105) 106) 107) 108) := hB100.z
  have hZ111 : KI ((97, 11, -1) :: ((97, 10, -1) :: (zk_X11_init_1))) (zI (zI (zI (zI (zI (zI (zI (uI (uI (zI (zI (zI (zI I 98) 99) 100) 101) 97 10 (-1)) 97 11 (-1)) 102) 103) 104) 105) 106) 107) 108) := hZ101.z rfl
  have hI112 : FI 97 I (zI (zI (zI (zI (zI (zI (zI (uI (uI (zI (zI (zI (zI I 98) 99) 100) 101) 97 10 (-1)) 97 11 (-1)) 102) 103) 104) 105) 106) 107) 108) := hI102.z rfl
  have hJ113 : FJ 97 J (zJ (zJ (zJ (zJ (zJ (zJ (zJ (zJ (zJ (zJ (zJ (uJ J 97 3 1) 98) 99) 100) 101) 102) 103) 104) 105) 106) 107) 108) := hJ103.z rfl
  have jz114 : (zJ (zJ (zJ (zJ (zJ (zJ (zJ (zJ (zJ (zJ (zJ (uJ J 97 3 1) 98) 99) 100) 101) 102) 103) 104) 105) 106) 107) 108) 47 0 = 0 := JZ.z jz104 rfl
  have jf115 : ∀ k, k < 22 → (zJ (zJ (zJ (zJ (zJ (zJ (zJ (zJ (zJ (zJ (zJ (uJ J 97 3 1) 98) 99) 100) 101) 102) 103) 104) 105) 106) 107) 108) 5 k = rsv.getD k 0 := J5.z jf105 rfl
  have hK116 : RK ((97, 30, 107) :: ((97, 29, 106) :: ((97, 28, 105) :: ((97, 22, 104) :: ((97, 21, 103) :: ((97, 20, 102) :: ((97, 7, 101) :: ((97, 6, 100) :: ((97, 5, 99) :: ((97, 4, 98) :: ([]))))))))))) (zR (uR (zR (uR (zR (uR (zR (uR (zR (uR (zR (uR (zR (uR (zR (uR (zR (uR (zR (uR (zR R 98) 97 4 98) 99) 97 5 99) 100) 97 6 100) 101) 97 7 101) 102) 97 20 102) 103) 97 21 103) 104) 97 22 104) 105) 97 28 105) 106) 97 29 106) 107) 97 30 107) 108) := hK108.z rfl
  have hF117 : FR 97 R (zR (uR (zR (uR (zR (uR (zR (uR (zR (uR (zR (uR (zR (uR (zR (uR (zR (uR (zR (uR (zR R 98) 97 4 98) 99) 97 5 99) 100) 97 6 100) 101) 97 7 101) 102) 97 20 102) 103) 97 21 103) 104) 97 22 104) 105) 97 28 105) 106) 97 29 106) 107) 97 30 107) 108) := hF109.z rfl
  have hK118 : RK ((97, 35, 108) :: ((97, 30, 107) :: ((97, 29, 106) :: ((97, 28, 105) :: ((97, 22, 104) :: ((97, 21, 103) :: ((97, 20, 102) :: ((97, 7, 101) :: ((97, 6, 100) :: ((97, 5, 99) :: ((97, 4, 98) :: ([])))))))))))) (uR (zR (uR (zR (uR (zR (uR (zR (uR (zR (uR (zR (uR (zR (uR (zR (uR (zR (uR (zR (uR (zR R 98) 97 4 98) 99) 97 5 99) 100) 97 6 100) 101) 97 7 101) 102) 97 20 102) 103) 97 21 103) 104) 97 22 104) 105) 97 28 105) 106) 97 29 106) 107) 97 30 107) 108) 97 35 108) := hK116.u rfl
  have hF119 : FR 97 R (uR (zR (uR (zR (uR (zR (uR (zR (uR (zR (uR (zR (uR (zR (uR (zR (uR (zR (uR (zR (uR (zR R 98) 97 4 98) 99) 97 5 99) 100) 97 6 100) 101) 97 7 101) 102) 97 20 102) 103) 97 21 103) 104) 97 22 104) 105) 97 28 105) 106) 97 29 106) 107) 97 30 107) 108) 97 35 108) := hF117.u rfl
  refine ⟨rfl, ?_⟩
  have hB120 : BZ (zI (zI (zI (zI (zI (zI (zI (zI (uI (uI (zI (zI (zI (zI I 98) 99) 100) 101) 97 10 (-1)) 97 11 (-1)) 102) 103) 104) 105) 106) 107) 108) 109) := hB110.z
  have hZ121 : KI ((97, 11, -1) :: ((97, 10, -1) :: (zk_X11_init_1))) (zI (zI (zI (zI (zI (zI (zI (zI (uI (uI (zI (zI (zI (zI I 98) 99) 100) 101) 97 10 (-1)) 97 11 (-1)) 102) 103) 104) 105) 106) 107) 108) 109) := hZ111.z rfl
  have hI122 : FI 97 I (zI (zI (zI (zI (zI (zI (zI (zI (uI (uI (zI (zI (zI (zI I 98) 99) 100) 101) 97 10 (-1)) 97 11 (-1)) 102) 103) 104) 105) 106) 107) 108) 109) := hI112.z rfl
  have hJ123 : FJ 97 J (zJ (zJ (zJ (zJ (zJ (zJ (zJ (zJ (zJ (zJ (zJ (zJ (uJ J 97 3 1) 98) 99) 100) 101) 102) 103) 104) 105) 106) 107) 108) 109) := hJ113.z rfl
  have jz124 : (zJ (zJ (zJ (zJ (zJ (zJ (zJ (zJ (zJ (zJ (zJ (zJ (uJ J 97 3 1) 98) 99) 100) 101) 102) 103) 104) 105) 106) 107) 108) 109) 47 0 = 0 := JZ.z jz114 rfl
  have jf125 : ∀ k, k < 22 → (zJ (zJ (zJ (zJ (zJ (zJ (zJ (zJ (zJ (zJ (zJ (zJ (uJ J 97 3 1) 98) 99) 100) 101) 102) 103) 104) 105) 106) 107) 108) 109) 5 k = rsv.getD k 0 := J5.z jf115 rfl
  have hK126 : RK ((97, 35, 108) :: ((97, 30, 107) :: ((97, 29, 106) :: ((97, 28, 105) :: ((97, 22, 104) :: ((97, 21, 103) :: ((97, 20, 102) :: ((97, 7, 101) :: ((97, 6, 100) :: ((97, 5, 99) :: ((97, 4, 98) :: ([])))))))))))) (zR (uR (zR (uR (zR (uR (zR (uR (zR (uR (zR (uR (zR (uR (zR (uR (zR (uR (zR (uR (zR (uR (zR R 98) 97 4 98) 99) 97 5 99) 100) 97 6 100) 101) 97 7 101) 102) 97 20 102) 103) 97 21 103) 104) 97 22 104) 105) 97 28 105) 106) 97 29 106) 107) 97 30 107) 108) 97 35 108) 109) := hK118.z rfl
  have hF127 : FR 97 R (zR (uR (zR (uR (zR (uR (zR (uR (zR (uR (zR (uR (zR (uR (zR (uR (zR (uR (zR (uR (zR (uR (zR R 98) 97 4 98) 99) 97 5 99) 100) 97 6 100) 101) 97 7 101) 102) 97 20 102) 103) 97 21 103) 104) 97 22 104) 105) 97 28 105) 106) 97 29 106) 107) 97 30 107) 108) 97 35 108) 109) := hF119.z rfl
  have hK128 : RK ((97, 36, 109) :: ((97, 35, 108) :: ((97, 30, 107) :: ((97, 29, 106) :: ((97, 28, 105) :: ((97, 22, 104) :: ((97, 21, 103) :: ((97, 20, 102) :: ((97, 7, 101) :: ((97, 6, 100) :: ((97, 5, 99) :: ((97, 4, 98) :: ([]))))))))))))) (uR (zR (uR (zR (uR (zR (uR (zR (uR (zR (uR (zR (uR (zR (uR (zR (uR (zR (uR (zR (uR (zR (uR (zR R 98) 97 4 98) 99) 97 5 99) 100) 97 6 100) 101) 97 7 101) 102) 97 20 102) 103) 97 21 103) 104) 97 22 104) 105) 97 28 105) 106) 97 29 106) 107) 97 30 107) 108) 97 35 108) 109) 97 36 109) := hK126.u rfl
  have hF129 : FR 97 R (uR (zR (uR (zR (uR (zR (uR (zR (uR (zR (uR (zR (uR (zR (uR (zR (uR (zR (uR (zR (uR (zR (uR (zR R 98) 97 4 98) 99) 97 5 99) 100) 97 6 100) 101) 97 7 101) 102) 97 20 102) 103) 97 21 103) 104) 97 22 104) 105) 97 28 105) 106) 97 29 106) 107) 97 30 107) 108) 97 35 108) 109) 97 36 109) := hF127.u rfl
  refine ⟨rfl, ?_⟩
  have hB130 : BZ (zI (zI (zI (zI (zI (zI (zI (zI (zI (uI (uI (zI (zI (zI (zI I 98) 99) 100) 101) 97 10 (-1)) 97 11 (-1)) 102) 103) 104) 105) 106) 107) 108) 109) 110) := hB120.z
  have hZ131 : KI ((97, 11, -1) :: ((97, 10, -1) :: (zk_X11_init_1))) (zI (zI (zI (zI (zI (zI (zI (zI (zI (uI (uI (zI (zI (zI (zI I 98) 99) 100) 101) 97 10 (-1)) 97 11 (-1)) 102) 103) 104) 105) 106) 107) 108) 109) 110) := hZ121.z rfl
  have hI132 : FI 97 I (zI (zI (zI (zI (zI (zI (zI (zI (zI (uI (uI (zI (zI (zI (zI I 98) 99) 100) 101) 97 10 (-1)) 97 11 (-1)) 102) 103) 104) 105) 106) 107) 108) 109) 110) := hI122.z rfl
  have hJ133 : FJ 97 J (zJ (zJ (zJ (zJ (zJ (zJ (zJ (zJ (zJ (zJ (zJ (zJ (zJ (uJ J 97 3 1) 98) 99) 100) 101) 102) 103) 104) 105) 106) 107) 108) 109) 110) := hJ123.z rfl
  have jz134 : (zJ (zJ (zJ (zJ (zJ (zJ (zJ (zJ (zJ (zJ (zJ (zJ (zJ (uJ J 97 3 1) 98) 99) 100) 101) 102) 103) 104) 105) 106) 107) 108) 109) 110) 47 0 = 0 := JZ.z jz124 rfl
  have jf135 : ∀ k, k < 22 → (zJ (zJ (zJ (zJ (zJ (zJ (zJ (zJ (zJ (zJ (zJ (zJ (zJ (uJ J 97 3 1) 98) 99) 100) 101) 102) 103) 104) 105) 106) 107) 108) 109) 110) 5 k = rsv.getD k 0 := J5.z jf125 rfl
  have hK136 : RK ((97, 36, 109) :: ((97, 35, 108) :: ((97, 30, 107) :: ((97, 29, 106) :: ((97, 28, 105) :: ((97, 22, 104) :: ((97, 21, 103) :: ((97, 20, 102) :: ((97, 7, 101) :: ((97, 6, 100) :: ((97, 5, 99) :: ((97, 4, 98) :: ([]))))))))))))) (zR (uR (zR (uR (zR (uR (zR (uR (zR (uR (zR (uR (zR (uR (zR (uR (zR (uR (zR (uR (zR (uR (zR (uR (zR R 98) 97 4 98) 99) 97 5 99) 100) 97 6 100) 101) 97 7 101) 102) 97 20 102) 103) 97 21 103) 104) 97 22 104) 105) 97 28 105) 106) 97 29 106) 107) 97 30 107) 108) 97 35 108) 109) 97 36 109) 110) := hK128.z rfl
  have hF137 : FR 97 R (zR (uR (zR (uR (zR (uR (zR (uR (zR (uR (zR (uR (zR (uR (zR (uR (zR (uR (zR (uR (zR (uR (zR (uR (zR R 98) 97 4 98) 99) 97 5 99) 100) 97 6 100) 101) 97 7 101) 102) 97 20 102) 103) 97 21 103) 104) 97 22 104) 105) 97 28 105) 106) 97 29 106) 107) 97 30 107) 108) 97 35 108) 109) 97 36 109) 110) := hF129.z rfl
  have hK138 : RK ((97, 37, 110) :: ((97, 36, 109) :: ((97, 35, 108) :: ((97, 30, 107) :: ((97, 29, 106) :: ((97, 28, 105) :: ((97, 22, 104) :: ((97, 21, 103) :: ((97, 20, 102) :: ((97, 7, 101) :: ((97, 6, 100) :: ((97, 5, 99) :: ((97, 4, 98) :: ([])))))))))))))) (uR (zR (uR (zR (uR (zR (uR (zR (uR (zR (uR (zR (uR (zR (uR (zR (uR (zR (uR (zR (uR (zR (uR (zR (uR (zR R 98) 97 4 98) 99) 97 5 99) 100) 97 6 100) 101) 97 7 101) 102) 97 20 102) 103) 97 21 103) 104) 97 22 104) 105) 97 28 105) 106) 97 29 106) 107) 97 30 107) 108) 97 35 108) 109) 97 36 109) 110) 97 37 110) := hK136.u rfl
  have hF139 : FR 97 R (uR (zR (uR (zR (uR (zR (uR (zR (uR (zR (uR (zR (uR (zR (uR (zR (uR (zR (uR (zR (uR (zR (uR (zR (uR (zR R 98) 97 4 98) 99) 97 5 99) 100) 97 6 100) 101) 97 7 101) 102) 97 20 102) 103) 97 21 103) 104) 97 22 104) 105) 97 28 105) 106) 97 29 106) 107) 97 30 107) 108) 97 35 108) 109) 97 36 109) 110) 97 37 110) := hF137.u rfl
  refine ⟨rfl, ?_⟩
  have hB140 : BZ (zI (zI (zI (zI (zI (zI (zI (zI (zI (zI (uI (uI (zI (zI (zI (zI I 98) 99) 100) 101) 97 10 (-1)) 97 11 (-1)) 102) 103) 104) 105) 106) 107) 108) 109) 110) 111) := hB130.z
  have hZ141 : KI ((97, 11, -1) :: ((97, 10, -1) :: (zk_X11_init_1))) (zI (zI (zI (zI (zI (zI (zI (zI (zI (zI (uI (uI (zI (zI (zI (zI I 98) 99) 100) 101) 97 10 (-1)) 97 11 (-1)) 102) 103) 104) 105) 106) 107) 108) 109) 110) 111) := hZ131.z rfl
  have hI142 : FI 97 I (zI (zI (zI (zI (zI (zI (zI (zI (zI (zI (uI (uI (zI (zI (zI (zI I 98) 99) 100) 101) 97 10 (-1)) 97 11 (-1)) 102) 103) 104) 105) 106) 107) 108) 109) 110) 111) := hI132.z rfl
  have hJ143 : FJ 97 J (zJ (zJ (zJ (zJ (zJ (zJ (zJ (zJ (zJ (zJ (zJ (zJ (zJ (zJ (uJ J 97 3 1) 98) 99) 100) 101) 102) 103) 104) 105) 106) 107) 108) 109) 110) 111) := hJ133.z rfl
  have jz144 : (zJ (zJ (zJ (zJ (zJ (zJ (zJ (zJ (zJ (zJ (zJ (zJ (zJ (zJ (uJ J 97 3 1) 98) 99) 100) 101) 102) 103) 104) 105) 106) 107) 108) 109) 110) 111) 47 0 = 0 := JZ.z jz134 rfl
  have jf145 : ∀ k, k < 22 → (zJ (zJ (zJ (zJ (zJ (zJ (zJ (zJ (zJ (zJ (zJ (zJ (zJ (zJ (uJ J 97 3 1) 98) 99) 100) 101) 102) 103) 104) 105) 106) 107) 108) 109) 110) 111) 5 k = rsv.getD k 0 := J5.z jf135 rfl
  have hK146 : RK ((97, 37, 110) :: ((97, 36, 109) :: ((97, 35, 108) :: ((97, 30, 107) :: ((97, 29, 106) :: ((97, 28, 105) :: ((97, 22, 104) :: ((97, 21, 103) :: ((97, 20, 102) :: ((97, 7, 101) :: ((97, 6, 100) :: ((97, 5, 99) :: ((97, 4, 98) :: ([])))))))))))))) (zR (uR (zR (uR (zR (uR (zR (uR (zR (uR (zR (uR (zR (uR (zR (uR (zR (uR (zR (uR (zR (uR (zR (uR (zR (uR (zR R 98) 97 4 98) 99) 97 5 99) 100) 97 6 100) 101) 97 7 101) 102) 97 20 102) 103) 97 21 103) 104) 97 22 104) 105) 97 28 105) 106) 97 29 106) 107) 97 30 107) 108) 97 35 108) 109) 97 36 109) 110) 97 37 110) 111) := hK138.z rfl
  have hF147 : FR 97 R (zR (uR (zR (uR (zR (uR (zR (uR (zR (uR (zR (uR (zR (uR (zR (uR (zR (uR (zR (uR (zR (uR (zR (uR (zR (uR (zR R 98) 97 4 98) 99) 97 5 99) 100) 97 6 100) 101) 97 7 101) 102) 97 20 102) 103) 97 21 103) 104) 97 22 104) 105) 97 28 105) 106) 97 29 106) 107) 97 30 107) 108) 97 35 108) 109) 97 36 109) 110) 97 37 110) 111) := hF139.z rfl
  have hK148 : RK ((97, 38, 111) :: ((97, 37, 110) :: ((97, 36, 109) :: ((97, 35, 108) :: ((97, 30, 107) :: ((97, 29, 106) :: ((97, 28, 105) :: ((97, 22, 104) :: ((97, 21, 103) :: ((97, 20, 102) :: ((97, 7, 101) :: ((97, 6, 100) :: ((97, 5, 99) :: ((97, 4, 98) :: ([]))))))))))))))) (uR (zR (uR (zR (uR (zR (uR (zR (uR (zR (uR (zR (uR (zR (uR (zR (uR (zR (uR (zR (uR (zR (uR (zR (uR (zR (uR (zR R 98) 97 4 98) 99) 97 5 99) 100) 97 6 100) 101) 97 7 101) 102) 97 20 102) 103) 97 21 103) 104) 97 22 104) 105) 97 28 105) 106) 97 29 106) 107) 97 30 107) 108) 97 35 108) 109) 97 36 109) 110) 97 37 110) 111) 97 38 111) := hK146.u rfl
  have hF149 : FR 97 R (uR (zR (uR (zR (uR (zR (uR (zR (uR (zR (uR (zR (uR (zR (uR (zR (uR (zR (uR (zR (uR (zR (uR (zR (uR (zR (uR (zR R 98) 97 4 98) 99) 97 5 99) 100) 97 6 100) 101) 97 7 101) 102) 97 20 102) 103) 97 21 103) 104) 97 22 104) 105) 97 28 105) 106) 97 29 106) 107) 97 30 107) 108) 97 35 108) 109) 97 36 109) 110) 97 37 110) 111) 97 38 111) := hF147.u rfl
  refine ⟨rfl, ?_⟩
  have hB150 : BZ (zI (zI (zI (zI (zI (zI (zI (zI (zI (zI (zI (uI (uI (zI (zI (zI (zI I 98) 99) 100) 101) 97 10 (-1)) 97 11 (-1)) 102) 103) 104) 105) 106) 107) 108) 109) 110) 111) 112) := hB140.z
  have hZ151 : KI ((97, 11, -1) :: ((97, 10, -1) :: (zk_X11_init_1))) (zI (zI (zI (zI (zI (zI (zI (zI (zI (zI (zI (uI (uI (zI (zI (zI (zI I 98) 99) 100) 101) 97 10 (-1)) 97 11 (-1)) 102) 103) 104) 105) 106) 107) 108) 109) 110) 111) 112) := hZ141.z rfl
  have hI152 : FI 97 I (zI (zI (zI (zI (zI (zI (zI (zI (zI (zI (zI (uI (uI (zI (zI (zI (zI I 98) 99) 100) 101) 97 10 (-1)) 97 11 (-1)) 102) 103) 104) 105) 106) 107) 108) 109) 110) 111) 112) := hI142.z rfl
  have hJ153 : FJ 97 J (zJ (zJ (zJ (zJ (zJ (zJ (zJ (zJ (zJ (zJ (zJ (zJ (zJ (zJ (zJ (uJ J 97 3 1) 98) 99) 100) 101) 102) 103) 104) 105) 106) 107) 108) 109) 110) 111) 112) := hJ143.z rfl
  have jz154 : (zJ (zJ (zJ (zJ (zJ (zJ (zJ (zJ (zJ (zJ (zJ (zJ (zJ (zJ (zJ (uJ J 97 3 1) 98) 99) 100) 101) 102) 103) 104) 105) 106) 107) 108) 109) 110) 111) 112) 47 0 = 0 := JZ.z jz144 rfl
  have jf155 : ∀ k, k < 22 → (zJ (zJ (zJ (zJ (zJ (zJ (zJ (zJ (zJ (zJ (zJ (zJ (zJ (zJ (zJ (uJ J 97 3 1) 98) 99) 100) 101) 102) 103) 104) 105) 106) 107) 108) 109) 110) 111) 112) 5 k = rsv.getD k 0 := J5.z jf145 rfl
  have hK156 : RK ((97, 38, 111) :: ((97, 37, 110) :: ((97, 36, 109) :: ((97, 35, 108) :: ((97, 30, 107) :: ((97, 29, 106) :: ((97, 28, 105) :: ((97, 22, 104) :: ((97, 21, 103) :: ((97, 20, 102) :: ((97, 7, 101) :: ((97, 6, 100) :: ((97, 5, 99) :: ((97, 4, 98) :: ([]))))))))))))))) (zR (uR (zR (uR (zR (uR (zR (uR (zR (uR (zR (uR (zR (uR (zR (uR (zR (uR (zR (uR (zR (uR (zR (uR (zR (uR (zR (uR (zR R 98) 97 4 98) 99) 97 5 99) 100) 97 6 100) 101) 97 7 101) 102) 97 20 102) 103) 97 21 103) 104) 97 22 104) 105) 97 28 105) 106) 97 29 106) 107) 97 30 107) 108) 97 35 108) 109) 97 36 109) 110) 97 37 110) 111) 97 38 111) 112) := hK148.z rfl
  have hF157 : FR 97 R (zR (uR (zR (uR (zR (uR (zR (uR (zR (uR (zR (uR (zR (uR (zR (uR (zR (uR (zR (uR (zR (uR (zR (uR (zR (uR (zR (uR (zR R 98) 97 4 98) 99) 97 5 99) 100) 97 6 100) 101) 97 7 101) 102) 97 20 102) 103) 97 21 103) 104) 97 22 104) 105) 97 28 105) 106) 97 29 106) 107) 97 30 107) 108) 97 35 108) 109) 97 36 109) 110) 97 37 110) 111) 97 38 111) 112) := hF149.z rfl
  have hK158 : RK ((97, 39, 112) :: ((97, 38, 111) :: ((97, 37, 110) :: ((97, 36, 109) :: ((97, 35, 108) :: ((97, 30, 107) :: ((97, 29, 106) :: ((97, 28, 105) :: ((97, 22, 104) :: ((97, 21, 103) :: ((97, 20, 102) :: ((97, 7, 101) :: ((97, 6, 100) :: ((97, 5, 99) :: ((97, 4, 98) :: ([])))))))))))))))) (uR (zR (uR (zR (uR (zR (uR (zR (uR (zR (uR (zR (uR (zR (uR (zR (uR (zR (uR (zR (uR (zR (uR (zR (uR (zR (uR (zR (uR (zR R 98) 97 4 98) 99) 97 5 99) 100) 97 6 100) 101) 97 7 101) 102) 97 20 102) 103) 97 21 103) 104) 97 22 104) 105) 97 28 105) 106) 97 29 106) 107) 97 30 107) 108) 97 35 108) 109) 97 36 109) 110) 97 37 110) 111) 97 38 111) 112) 97 39 112) := hK156.u rfl
  have hF159 : FR 97 R (uR (zR (uR (zR (uR (zR (uR (zR (uR (zR (uR (zR (uR (zR (uR (zR (uR (zR (uR (zR (uR (zR (uR (zR (uR (zR (uR (zR (uR (zR R 98) 97 4 98) 99) 97 5 99) 100) 97 6 100) 101) 97 7 101) 102) 97 20 102) 103) 97 21 103) 104) 97 22 104) 105) 97 28 105) 106) 97 29 106) 107) 97 30 107) 108) 97 35 108) 109) 97 36 109) 110) 97 37 110) 111) 97 38 111) 112) 97 39 112) := hF157.u rfl
  refine cs_X12_init_97_140_112 hc 0 _ _ _ ?_
  refine ⟨fun c => absurd c (by decide), fun _ => ?_⟩
  refine ⟨hK158.ne (show lkq ((97, 39, 112) :: ((97, 38, 111) :: ((97, 37, 110) :: ((97, 36, 109) :: ((97, 35, 108) :: ((97, 30, 107) :: ((97, 29, 106) :: ((97, 28, 105) :: ((97, 22, 104) :: ((97, 21, 103) :: ((97, 20, 102) :: ((97, 7, 101) :: ((97, 6, 100) :: ((97, 5, 99) :: ((97, 4, 98) :: ([])))))))))))))))) 97 5 = true from rfl), ?_⟩
  refine ⟨vp_of rfl (by decide) (by decide), ?_⟩
  have hB160 : BZ (uI (zI (zI (zI (zI (zI (zI (zI (zI (zI (zI (zI (uI (uI (zI (zI (zI (zI I 98) 99) 100) 101) 97 10 (-1)) 97 11 (-1)) 102) 103) 104) 105) 106) 107) 108) 109) 110) 111) 112) 99 (Int32.toNatClampNeg 0) (-1)) := hB150.kw rfl rfl rfl
  have hZ161 : KI ((99, 0, -1) :: ((97, 11, -1) :: ((97, 10, -1) :: (zk_X11_init_1)))) (uI (zI (zI (zI (zI (zI (zI (zI (zI (zI (zI (zI (uI (uI (zI (zI (zI (zI I 98) 99) 100) 101) 97 10 (-1)) 97 11 (-1)) 102) 103) 104) 105) 106) 107) 108) 109) 110) 111) 112) 99 (Int32.toNatClampNeg 0) (-1)) := hZ151.u rfl
  have hI162 : FI 97 I (uI (zI (zI (zI (zI (zI (zI (zI (zI (zI (zI (zI (uI (uI (zI (zI (zI (zI I 98) 99) 100) 101) 97 10 (-1)) 97 11 (-1)) 102) 103) 104) 105) 106) 107) 108) 109) 110) 111) 112) 99 (Int32.toNatClampNeg 0) (-1)) := hI152.w rfl
  refine cs_X12_init_97_140_112 hc (0 + 1) _ _ _ ?_
  refine ⟨fun c => absurd c (by decide), fun _ => ?_⟩
  refine ⟨hK158.ne (show lkq ((97, 39, 112) :: ((97, 38, 111) :: ((97, 37, 110) :: ((97, 36, 109) :: ((97, 35, 108) :: ((97, 30, 107) :: ((97, 29, 106) :: ((97, 28, 105) :: ((97, 22, 104) :: ((97, 21, 103) :: ((97, 20, 102) :: ((97, 7, 101) :: ((97, 6, 100) :: ((97, 5, 99) :: ((97, 4, 98) :: ([])))))))))))))))) 97 5 = true from rfl), ?_⟩
  refine ⟨vp_of rfl (by decide) (by decide), ?_⟩
  have hB163 : BZ (uI (uI (zI (zI (zI (zI (zI (zI (zI (zI (zI (zI (zI (uI (uI (zI (zI (zI (zI I 98) 99) 100) 101) 97 10 (-1)) 97 11 (-1)) 102) 103) 104) 105) 106) 107) 108) 109) 110) 111) 112) 99 (Int32.toNatClampNeg 0) (-1)) 99 (Int32.toNatClampNeg (0 + 1)) (-1)) := hB160.kw rfl rfl rfl
  have hZ164 : KI ((99, 1, -1) :: ((99, 0, -1) :: ((97, 11, -1) :: ((97, 10, -1) :: (zk_X11_init_1))))) (uI (uI (zI (zI (zI (zI (zI (zI (zI (zI (zI (zI (zI (uI (uI (zI (zI (zI (zI I 98) 99) 100) 101) 97 10 (-1)) 97 11 (-1)) 102) 103) 104) 105) 106) 107) 108) 109) 110) 111) 112) 99 (Int32.toNatClampNeg 0) (-1)) 99 (Int32.toNatClampNeg (0 + 1)) (-1)) := hZ161.u rfl
  have hI165 : FI 97 I (uI (uI (zI (zI (zI (zI (zI (zI (zI (zI (zI (zI (zI (uI (uI (zI (zI (zI (zI I 98) 99) 100) 101) 97 10 (-1)) 97 11 (-1)) 102) 103) 104) 105) 106) 107) 108) 109) 110) 111) 112) 99 (Int32.toNatClampNeg 0) (-1)) 99 (Int32.toNatClampNeg (0 + 1)) (-1)) := hI162.w rfl
  refine cs_X12_init_97_140_112 hc ((0 + 1) + 1) _ _ _ ?_
  refine ⟨fun c => absurd c (by decide), fun _ => ?_⟩
  refine ⟨hK158.ne (show lkq ((97, 39, 112) :: ((97, 38, 111) :: ((97, 37, 110) :: ((97, 36, 109) :: ((97, 35, 108) :: ((97, 30, 107) :: ((97, 29, 106) :: ((97, 28, 105) :: ((97, 22, 104) :: ((97, 21, 103) :: ((97, 20, 102) :: ((97, 7, 101) :: ((97, 6, 100) :: ((97, 5, 99) :: ((97, 4, 98) :: ([])))))))))))))))) 97 5 = true from rfl), ?_⟩
  refine ⟨vp_of rfl (by decide) (by decide), ?_⟩
  have hB166 : BZ (uI (uI (uI (zI (zI (zI (zI (zI (zI (zI (zI (zI (zI (zI (uI (uI (zI (zI (zI (zI I 98) 99) 100) 101) 97 10 (-1)) 97 11 (-1)) 102) 103) 104) 105) 106) 107) 108) 109) 110) 111) 112) 99 (Int32.toNatClampNeg 0) (-1)) 99 (Int32.toNatClampNeg (0 + 1)) (-1)) 99 (Int32.toNatClampNeg ((0 + 1) + 1)) (-1)) := hB163.kw rfl rfl rfl
  have hZ167 : KI ((99, 2, -1) :: ((99, 1, -1) :: ((99, 0, -1) :: ((97, 11, -1) :: ((97, 10, -1) :: (zk_X11_init_1)))))) (uI (uI (uI (zI (zI (zI (zI (zI (zI (zI (zI (zI (zI (zI (uI (uI (zI (zI (zI (zI I 98) 99) 100) 101) 97 10 (-1)) 97 11 (-1)) 102) 103) 104) 105) 106) 107) 108) 109) 110) 111) 112) 99 (Int32.toNatClampNeg 0) (-1)) 99 (Int32.toNatClampNeg (0 + 1)) (-1)) 99 (Int32.toNatClampNeg ((0 + 1) + 1)) (-1)) := hZ164.u rfl
  have hI168 : FI 97 I (uI (uI (uI (zI (zI (zI (zI (zI (zI (zI (zI (zI (zI (zI (uI (uI (zI (zI (zI (zI I 98) 99) 100) 101) 97 10 (-1)) 97 11 (-1)) 102) 103) 104) 105) 106) 107) 108) 109) 110) 111) 112) 99 (Int32.toNatClampNeg 0) (-1)) 99 (Int32.toNatClampNeg (0 + 1)) (-1)) 99 (Int32.toNatClampNeg ((0 + 1) + 1)) (-1)) := hI165.w rfl
  refine cs_X12_init_97_140_112 hc (((0 + 1) + 1) + 1) _ _ _ ?_
  refine ⟨fun c => absurd c (by decide), fun _ => ?_⟩
  refine ⟨hK158.ne (show lkq ((97, 39, 112) :: ((97, 38, 111) :: ((97, 37, 110) :: ((97, 36, 109) :: ((97, 35, 108) :: ((97, 30, 107) :: ((97, 29, 106) :: ((97, 28, 105) :: ((97, 22, 104) :: ((97, 21, 103) :: ((97, 20, 102) :: ((97, 7, 101) :: ((97, 6, 100) :: ((97, 5, 99) :: ((97, 4, 98) :: ([])))))))))))))))) 97 5 = true from rfl), ?_⟩
  refine ⟨vp_of rfl (by decide) (by decide), ?_⟩
  have hB169 : BZ (uI (uI (uI (uI (zI (zI (zI (zI (zI (zI (zI (zI (zI (zI (zI (uI (uI (zI (zI (zI (zI I 98) 99) 100) 101) 97 10 (-1)) 97 11 (-1)) 102) 103) 104) 105) 106) 107) 108) 109) 110) 111) 112) 99 (Int32.toNatClampNeg 0) (-1)) 99 (Int32.toNatClampNeg (0 + 1)) (-1)) 99 (Int32.toNatClampNeg ((0 + 1) + 1)) (-1)) 99 (Int32.toNatClampNeg (((0 + 1) + 1) + 1)) (-1)) := hB166.kw rfl rfl rfl
  have hZ170 : KI ((99, 3, -1) :: ((99, 2, -1) :: ((99, 1, -1) :: ((99, 0, -1) :: ((97, 11, -1) :: ((97, 10, -1) :: (zk_X11_init_1))))))) (uI (uI (uI (uI (zI (zI (zI (zI (zI (zI (zI (zI (zI (zI (zI (uI (uI (zI (zI (zI (zI I 98) 99) 100) 101) 97 10 (-1)) 97 11 (-1)) 102) 103) 104) 105) 106) 107) 108) 109) 110) 111) 112) 99 (Int32.toNatClampNeg 0) (-1)) 99 (Int32.toNatClampNeg (0 + 1)) (-1)) 99 (Int32.toNatClampNeg ((0 + 1) + 1)) (-1)) 99 (Int32.toNatClampNeg (((0 + 1) + 1) + 1)) (-1)) := hZ167.u rfl
  have hI171 : FI 97 I (uI (uI (uI (uI (zI (zI (zI (zI (zI (zI (zI (zI (zI (zI (zI (uI (uI (zI (zI (zI (zI I 98) 99) 100) 101) 97 10 (-1)) 97 11 (-1)) 102) 103) 104) 105) 106) 107) 108) 109) 110) 111) 112) 99 (Int32.toNatClampNeg 0) (-1)) 99 (Int32.toNatClampNeg (0 + 1)) (-1)) 99 (Int32.toNatClampNeg ((0 + 1) + 1)) (-1)) 99 (Int32.toNatClampNeg (((0 + 1) + 1) + 1)) (-1)) := hI168.w rfl
  refine cs_X12_init_97_140_112 hc ((((0 + 1) + 1) + 1) + 1) _ _ _ ?_
  refine ⟨fun _ => ?_, fun c => absurd (by decide) c⟩
  refine ⟨⟨fl_of (RK.app (show RK lk_X12_init_97 (uR (zR (uR (zR (uR (zR (uR (zR (uR (zR (uR (zR (uR (zR (uR (zR (uR (zR (uR (zR (uR (zR (uR (zR (uR (zR (uR (zR (uR (zR R 98) 97 4 98) 99) 97 5 99) 100) 97 6 100) 101) 97 7 101) 102) 97 20 102) 103) 97 21 103) 104) 97 22 104) 105) 97 28 105) 106) 97 29 106) 107) 97 30 107) 108) 97 35 108) 109) 97 36 109) 110) 97 37 110) 111) 97 38 111) 112) 97 39 112) from hK158) (RK.fr hL hF159 rfl)), rfl⟩, ?_⟩
  refine kx (px_empties (b := 0) (Q := fun _ _ I2 _ _ => (∀ c, ¬ c = 102 → I2 c = (uI (uI (uI (uI (zI (zI (zI (zI (zI (zI (zI (zI (zI (zI (zI (uI (uI (zI (zI (zI (zI I 98) 99) 100) 101) 97 10 (-1)) 97 11 (-1)) 102) 103) 104) 105) 106) 107) 108) 109) 110) 111) 112) 99 (Int32.toNatClampNeg 0) (-1)) 99 (Int32.toNatClampNeg (0 + 1)) (-1)) 99 (Int32.toNatClampNeg ((0 + 1) + 1)) (-1)) 99 (Int32.toNatClampNeg (((0 + 1) + 1) + 1)) (-1)) c) ∧ I2 102 0 = 0 ∧ I2 102 3 = 1073741823 ∧ ∀ k, k < 324 → I2 102 k = emC k) rfl (by decide) (fun I2 e1 _ e3 => ⟨e1, e3 0 (by decide), e3 3 (by decide), fun k hk => (congrArg (I2 102) (show k = 324 * 0 + k by omega)).trans (e3 k hk)⟩)) (kp7 rfl (ri_of (RK.app (show RK lk_X12_init_97 (uR (zR (uR (zR (uR (zR (uR (zR (uR (zR (uR (zR (uR (zR (uR (zR (uR (zR (uR (zR (uR (zR (uR (zR (uR (zR (uR (zR (uR (zR R 98) 97 4 98) 99) 97 5 99) 100) 97 6 100) 101) 97 7 101) 102) 97 20 102) 103) 97 21 103) 104) 97 22 104) 105) 97 28 105) 106) 97 29 106) 107) 97 30 107) 108) 97 35 108) 109) 97 36 109) 110) 97 37 110) 111) 97 38 111) 112) 97 39 112) from hK158) (RK.fr hL hF159 rfl))) rfl (kp6 rfl (ri_of (RK.app (show RK lk_X12_init_97 (uR (zR (uR (zR (uR (zR (uR (zR (uR (zR (uR (zR (uR (zR (uR (zR (uR (zR (uR (zR (uR (zR (uR (zR (uR (zR (uR (zR (uR (zR R 98) 97 4 98) 99) 97 5 99) 100) 97 6 100) 101) 97 7 101) 102) 97 20 102) 103) 97 21 103) 104) 97 22 104) 105) 97 28 105) 106) 97 29 106) 107) 97 30 107) 108) 97 35 108) 109) 97 36 109) 110) 97 37 110) 111) 97 38 111) 112) 97 39 112) from hK158) (RK.fr hL hF159 rfl))) rfl (kp0 rfl (kp1 rfl (kp2 rfl (kp3 rfl (kp4 rfl (kp5 rfl (ri_of (RK.app (show RK lk_X12_init_97 (uR (zR (uR (zR (uR (zR (uR (zR (uR (zR (uR (zR (uR (zR (uR (zR (uR (zR (uR (zR (uR (zR (uR (zR (uR (zR (uR (zR (uR (zR R 98) 97 4 98) 99) 97 5 99) 100) 97 6 100) 101) 97 7 101) 102) 97 20 102) 103) 97 21 103) 104) 97 22 104) 105) 97 28 105) 106) 97 29 106) 107) 97 30 107) 108) 97 35 108) 109) 97 36 109) 110) 97 37 110) 111) 97 38 111) 112) 97 39 112) from hK158) (RK.fr hL hF159 rfl))) rfl (emp_b (b := 0) hB169.1 rfl (by decide) (fun x y I2 J2 hB2 _ k9 k4 k3 k2 k1 k0 k6 k7 ke => ⟨rfl, fun z => absurd z (by decide), hQ _ _ _ hB2 hF159 hK158 ⟨?_, ?_, RT.kp (fun t ht => ?_) k4 k9, (congrFun k6 0).trans jz154⟩ ⟨fun i => by rw [k7.1, (hB169.2.2 i).1]; decide, fun i hi => absurd hi (by have e : I2 3 1 = 0 := k0.trans (hB169.at (by decide)); unfold fl; rw [e, show (0 : Int32).toInt.toNat = 0 from rfl]; omega), fun k hk => by rw [k7.2.2]; exact jf155 k hk⟩ ⟨(congrFun (ke.1 9 (by decide)) 4).trans (hB169.at (by decide)), (congrFun (ke.1 9 (by decide)) 2).trans (KI.at (o := 9) (k := 2) (v := 1073741823) hZ170 (by decide +kernel)), ke.2.1, ke.2.2.1, k3.trans (hB169.at (by decide)), (congrFun (ke.1 3 (by decide)) 3).trans (hB169.at (by decide)), (congrFun (ke.1 97 (by decide)) 10).trans (KI.at (o := 97) (k := 10) (v := -1) hZ170 (by decide +kernel)), (congrFun (ke.1 97 (by decide)) 11).trans (KI.at (o := 97) (k := 11) (v := -1) hZ170 (by decide +kernel))⟩ ⟨⟨(congrFun (ke.1 9 (by decide)) 1).trans (KI.at (o := 9) (k := 1) (v := 4) hZ170 (by decide +kernel)), (congrFun (ke.1 9 (by decide)) 3).trans (hB169.at (by decide)), fun k => (congrFun (ke.1 10 (by decide)) k).trans (hB169.2.2 k).2, (congrFun (ke.1 21 (by decide)) 0).trans (hB169.at (by decide)), ke.2.2.2⟩, fun t ht => (congrFun (ke.1 99 (by decide)) t).trans (by rcases (show t = 0 ∨ t = 1 ∨ t = 2 ∨ t = 3 by omega) with q | q | q | q <;> subst q <;> exact KI.at (o := 99) (v := -1) hZ170 (by decide +kernel))⟩⟩))))))))))
  · exact congrArg Int32.toInt ((k0.trans (hB169.at (by decide))).trans (k1.trans (hB169.at (by decide))).symm)
  · exact congrArg Int32.toInt ((k2.trans (hB169.at (by decide))).trans (k3.trans (hB169.at (by decide))).symm)
  · rcases (show t = 0 ∨ t = 1 ∨ t = 2 ∨ t = 3 by omega) with q | q | q | q <;> subst q
    · exact ⟨(hB169.at (o := 53) (by decide)).trans (hB169.at (o := 98) (by decide)).symm, (KI.at (o := 53) (k := 1) (v := -1) hZ170 (by decide +kernel)).trans (KI.at (o := 99) (k := 0) (v := -1) hZ170 (by decide +kernel)).symm⟩
    · exact ⟨(hB169.at (o := 55) (by decide)).trans (hB169.at (o := 98) (by decide)).symm, (KI.at (o := 55) (k := 1) (v := -1) hZ170 (by decide +kernel)).trans (KI.at (o := 99) (k := 1) (v := -1) hZ170 (by decide +kernel)).symm⟩
    · exact ⟨(hB169.at (o := 57) (by decide)).trans (hB169.at (o := 98) (by decide)).symm, (KI.at (o := 57) (k := 1) (v := -1) hZ170 (by decide +kernel)).trans (KI.at (o := 99) (k := 2) (v := -1) hZ170 (by decide +kernel)).symm⟩
    · exact ⟨(hB169.at (o := 59) (by decide)).trans (hB169.at (o := 98) (by decide)).symm, (KI.at (o := 59) (k := 1) (v := -1) hZ170 (by decide +kernel)).trans (KI.at (o := 99) (k := 3) (v := -1) hZ170 (by decide +kernel)).symm⟩
