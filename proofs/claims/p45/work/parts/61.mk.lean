/-! ===== what makes objects: bounds hold, the references lie as they are to ===== -/
def okb (b : Option (Int × Int)) (v : Int) : Bool := match b with
  | none => true
  | some (lo, hi) => decide (lo ≤ v) && decide (v ≤ hi)
theorem okb_spec {b : Option (Int × Int)} {v lo hi : Int} (h : okb b v = true) (hb : b = some (lo, hi)) : lo ≤ v ∧ v ≤ hi := by
  subst hb
  unfold okb at h
  rw [Bool.and_eq_true, decide_eq_true_eq, decide_eq_true_eq] at h
  exact h
theorem Bd.kw {I : Im} (h : Bd I) {o k : Nat} {v : Int32} (hk : (okb (bnd (clsOf o) k) v.toInt && (okb (bna o) v.toInt && !(Nat.beq o 102))) = true) : Bd (uI I o k v) := by
  rw [Bool.and_eq_true, Bool.and_eq_true] at hk
  refine h.up (fun lo hi q => okb_spec hk.1 q) (fun lo hi q => okb_spec hk.2.1 q) (fun q => ?_)
  subst q; exact absurd hk.2.2 (by decide)
theorem bnd_0 {ci k : Nat} {lo hi : Int} (h : bnd ci k = some (lo, hi)) : lo ≤ 0 ∧ 0 ≤ hi := by
  unfold bnd at h
  split at h <;> first | (cases h; decide) | (cases h)
theorem bna_0 {a : Nat} {lo hi : Int} (h : bna a = some (lo, hi)) : lo ≤ 0 ∧ 0 ≤ hi := by
  unfold bna at h
  split at h <;> first | (cases h; decide) | (cases h)
theorem CK.zero : CK (fun _ => 0) := by
  have z0 : (0 : Int32).toInt = 0 := rfl
  refine ⟨fun j => ?_, fun c k hc hk => ?_, fun c s hc hd hs => absurd rfl hd⟩
  · show CB j (0 : Int32).toInt
    rw [z0]; unfold CB; omega
  · have : (k : Int) < (0 : Int32).toInt := hk
    omega
theorem Bd.z {I : Im} (h : Bd I) {a : Nat} : Bd (zI I a) := by
  have e : ∀ o, (zI I a o = fun _ => 0) ∨ zI I a o = I o := fun o => by
    by_cases q : o = a
    · exact Or.inl (if_pos q)
    · exact Or.inr (if_neg q)
  refine ⟨fun o k lo hi hb => ?_, fun o j lo hi hb => ?_, ?_⟩
  · rcases e o with q | q
    · rw [q]; exact bnd_0 hb
    · rw [q]; exact h.1 o k lo hi hb
  · rcases e o with q | q
    · rw [q]; exact bna_0 hb
    · rw [q]; exact h.2.1 o j lo hi hb
  · rcases e 102 with q | q
    · rw [q]; exact CK.zero
    · rw [q]; exact h.2.2
theorem Bd.start : Bd (fun _ _ => 0) := ⟨fun _ _ _ _ hb => bnd_0 hb, fun _ _ _ _ hb => bna_0 hb, CK.zero⟩
/-- what is known of the references -/
def RK (L : List (Nat × Nat × Nat)) (R : Rm) : Prop := ∀ q ∈ L, R q.1 q.2.1 = q.2.2
theorem RK.nil {R : Rm} : RK [] R := fun q h => by cases h
theorem RK.z {L : List (Nat × Nat × Nat)} {R : Rm} (h : RK L R) {a : Nat} (ha : L.all (fun q => !(Nat.beq q.1 a)) = true) : RK L (zR R a) := fun q hq => by
  have h1 := List.all_eq_true.mp ha q hq
  have h2 : ¬ q.1 = a := fun z => by rw [z, Nat.beq_refl] at h1; cases h1
  show (if q.1 = a then (fun _ => 0) else R q.1) q.2.1 = q.2.2
  rw [if_neg h2]; exact h q hq
theorem RK.u {L : List (Nat × Nat × Nat)} {R : Rm} (h : RK L R) {a j v : Nat} (ha : L.all (fun q => !(Nat.beq q.1 a && Nat.beq q.2.1 j)) = true) : RK ((a, j, v) :: L) (uR R a j v) := fun q hq => by
  rcases List.mem_cons.mp hq with rfl | hq
  · show (if a = a then va_up (R a) j v else R a) j = v
    rw [if_pos rfl]; exact if_pos rfl
  · have h1 := List.all_eq_true.mp ha q hq
    show (if q.1 = a then va_up (R a) j v else R q.1) q.2.1 = q.2.2
    by_cases z : q.1 = a
    · rw [if_pos z]
      have h2 : ¬ q.2.1 = j := fun y => by rw [z, y, Nat.beq_refl, Nat.beq_refl] at h1; cases h1
      show (if q.2.1 = j then v else R a q.2.1) = q.2.2
      rw [if_neg h2, ← z]; exact h q hq
    · rw [if_neg z]; exact h q hq
theorem RK.app {A B : List (Nat × Nat × Nat)} {R : Rm} (h : RK A R) (h2 : RK B R) : RK (A ++ B) R := fun q hq => by
  rcases List.mem_append.mp hq with hq | hq
  · exact h q hq
  · exact h2 q hq
/-- the cells before one are as they were -/
def FR (n : Nat) (R R2 : Rm) : Prop := ∀ o, o < n → R2 o = R o
theorem FR.refl (n : Nat) (R : Rm) : FR n R R := fun _ _ => rfl
theorem FR.z {n : Nat} {R R2 : Rm} (h : FR n R R2) {a : Nat} (ha : Nat.ble n a = true) : FR n R (zR R2 a) := fun o ho => by
  have := Nat.le_of_ble_eq_true ha
  show (if o = a then (fun _ => 0) else R2 o) = R o
  rw [if_neg (by omega)]; exact h o ho
theorem FR.u {n : Nat} {R R2 : Rm} (h : FR n R R2) {a j v : Nat} (ha : Nat.ble n a = true) : FR n R (uR R2 a j v) := fun o ho => by
  have := Nat.le_of_ble_eq_true ha
  show (if o = a then va_up (R2 a) j v else R2 o) = R o
  rw [if_neg (by omega)]; exact h o ho
theorem RK.fr {L : List (Nat × Nat × Nat)} {R R2 : Rm} (h : RK L R) {n : Nat} (hf : FR n R R2) (hL : L.all (fun q => Nat.blt q.1 n) = true) : RK L R2 := fun q hq => by
  have h1 := List.all_eq_true.mp hL q hq
  rw [hf q.1 (Nat.lt_of_lt_of_le (Nat.lt_succ_self _) (Nat.le_of_ble_eq_true h1))]; exact h q hq
def lkq (L : List (Nat × Nat × Nat)) (o k : Nat) : Bool := L.any (fun q => Nat.beq q.1 o && (Nat.beq q.2.1 k && !(Nat.beq q.2.2 0)))
theorem RK.ne {L : List (Nat × Nat × Nat)} {R : Rm} (h : RK L R) {o k : Nat} (hq : lkq L o k = true) : ¬ R o k = 0 := by
  obtain ⟨q, h1, h2⟩ := List.any_eq_true.mp hq
  rw [Bool.and_eq_true, Bool.and_eq_true] at h2
  have e1 := Nat.eq_of_beq_eq_true h2.1
  have e2 := Nat.eq_of_beq_eq_true h2.2.1
  intro z
  have h3 := h q h1
  rw [e1, e2, z] at h3
  rw [← h3] at h2
  exact absurd h2.2.2 (by decide)
theorem RK.at {L : List (Nat × Nat × Nat)} {R : Rm} (h : RK L R) {o k v : Nat} (hq : L.contains (o, k, v) = true) : R o k = v := h (o, k, v) (List.contains_iff_mem.mp hq)
theorem amc_of {d mi rk : Nat} {n al kr : Nat} {as : List Value} {I : Im} {J : Jm} {R : Rm} {Q : Qt} {k : List En} (h1 : Nat.beq mi mReader = false) (hc : (mQ mi).1 = k) (hrk : qRk (mQ mi) = rk) (hal : qAl (mQ mi) = al) (hkr : qKr (mQ mi) = kr) (hph : Nat.beq (qPh (mQ mi)) 1 = false) (hlen : (lg_sl as).length ≤ qL (mQ mi)) (h : ∀ P : Kt, Cl (AM d) false false 0 (fun _ => 0) rk (n + al) k (fun n' x y I' J' R' => n' = n + al ∧ (kr = 1 → R' = R) ∧ Q x y I' J' R') P → P 0 n (lv_args 0 as) [] I J R) : AM (d + 1) mi n as I J R Q := by
  unfold AM
  rw [h1]
  refine ⟨hlen, ?_⟩
  rw [hc, hrk, hal, hph, hkr]
  exact h

def lk_X6_init_3 : List (Nat × Nat × Nat) := [(3, 0, 4), (3, 2, 5)]
theorem ct_X6_init_3 {d : Nat} {Q : Qt} {I : Im} {J : Jm} {R : Rm} (hB : Bd I) (hQ : ∀ (I2 : Im) (J2 : Jm) (R2 : Rm), Bd I2 → FR 3 R R2 → RK lk_X6_init_3 R2 → Q 0 0 I2 J2 R2) : AM (d + 6) 58 3 [.ref 3] I J R Q := by
  unfold AM
  show hReader 3 [.ref 3] I J R Q
  refine ⟨3, rfl, rfl, ⟨rfl, rfl, rfl, rfl, rfl⟩, ?_⟩
  intro I' J' R' hI hJ hR ⟨b0, r0, r2, i1, i3, i4, i5, i6, i7, i8, i9, j10, i11, i12, i13⟩
  refine hQ I' J' R' ?_ (fun o ho => hR o (by omega) (by omega) (by omega)) (fun q hq => ?_)
  · refine ⟨fun o k lo hi hb => ?_, fun a j lo hi hb => ?_, ?_⟩
    · by_cases q3 : o = 3
      · subst q3
        have hb2 : bnd 6 k = some (lo, hi) := hb
        unfold bnd at hb2
        split at hb2 <;> first | (rename_i z; cases z) | skip
        all_goals first | (cases hb2; first | (rw [i1]; decide) | (rw [i3]; decide) | (rw [i4]; decide) | (rw [i5]; decide) | (rw [i6]; decide)) | (cases hb2)
      · by_cases q4 : o = 4
        · subst q4; rw [show bnd (clsOf 4) k = none from bnd_A (t := 2) rfl k] at hb; cases hb
        · by_cases q5 : o = 5
          · subst q5; rw [show bnd (clsOf 5) k = none from bnd_A (t := 1) rfl k] at hb; cases hb
          · rw [hI o q3 q4 q5]; exact hB.1 o k lo hi hb
    · by_cases q3 : a = 3
      · subst q3; cases hb
      · by_cases q4 : a = 4
        · subst q4; cases hb
        · by_cases q5 : a = 5
          · subst q5; cases hb
          · rw [hI a q3 q4 q5]; exact hB.2.1 a j lo hi hb
    · rw [hI 102 (by decide) (by decide) (by decide)]; exact hB.2.2
  · rcases List.mem_cons.mp hq with rfl | hq
    · exact r0
    · rcases List.mem_cons.mp hq with rfl | hq
      · exact r2
      · cases hq
theorem ct_X1_init_6 {d : Nat} {Q : Qt} {I : Im} {J : Jm} {R : Rm} (hB : Bd I) (hQ : ∀ (I2 : Im) (J2 : Jm) (R2 : Rm), Bd I2 → R2 = R → True → Q 0 0 I2 J2 R2) : AM (d + 1) 20 6 [.ref 6] I J R Q := by
  refine amc_of (k := kX1_init) rfl rfl rfl rfl rfl rfl (Nat.le_of_ble_eq_true rfl) (fun P hc => ?_)
  refine cs_X1_init_6_0_6 hc _ _ _ ?_
  refine ⟨Or.inl rfl, ?_⟩
  have hB1 : Bd (uI I 6 0 0) := hB.kw rfl
  refine ⟨Or.inl rfl, ?_⟩
  have hB2 : Bd (uI (uI I 6 0 0) 6 1 0) := hB1.kw rfl
  have hB3 : Bd (uI (uI (uI I 6 0 0) 6 1 0) 6 2 0) := hB2.kw rfl
  exact ⟨rfl, fun _ => rfl, hQ _ _ _ hB3 rfl trivial⟩
def lk_X3_init_7 : List (Nat × Nat × Nat) := (7, 0, 8) :: ([])
set_option maxHeartbeats 4000000 in
set_option maxRecDepth 100000 in
theorem ct_X3_init_7 {d : Nat} {Q : Qt} {I : Im} {J : Jm} {R : Rm} (hB : Bd I) (hQ : ∀ (I2 : Im) (J2 : Jm) (R2 : Rm), Bd I2 → FR 7 R R2 → RK lk_X3_init_7 R2 → Q 0 0 I2 J2 R2) : AM (d + 1) 32 7 [.ref 7] I J R Q := by
  refine amc_of (k := kX3_init) rfl rfl rfl rfl rfl rfl (Nat.le_of_ble_eq_true rfl) (fun P hc => ?_)
  refine cs_X3_init_7_0_7 hc _ _ _ ?_
  refine ⟨rfl, ?_⟩
  have hB1 : Bd (zI I 8) := hB.z
  have hK2 : RK ([]) (zR R 8) := (RK.nil (R := R)).z rfl
  have hF3 : FR 7 R (zR R 8) := (FR.refl 7 R).z rfl
  have hK4 : RK ((7, 0, 8) :: ([])) (uR (zR R 8) 7 0 8) := hK2.u rfl
  have hF5 : FR 7 R (uR (zR R 8) 7 0 8) := hF3.u rfl
  have hB6 : Bd (uI (zI I 8) 7 1 0) := hB1.kw rfl
  exact ⟨rfl, fun z => absurd z (by decide), hQ _ _ _ hB6 hF5 hK4⟩
def lk_X0_init_9 : List (Nat × Nat × Nat) := (9, 8, 14) :: ((9, 7, 13) :: ((9, 6, 12) :: ((9, 5, 11) :: ((9, 0, 10) :: ([])))))
set_option maxHeartbeats 4000000 in
set_option maxRecDepth 100000 in
theorem ct_X0_init_9 {d : Nat} {Q : Qt} {I : Im} {J : Jm} {R : Rm} (hB : Bd I) (hQ : ∀ (I2 : Im) (J2 : Jm) (R2 : Rm), Bd I2 → FR 9 R R2 → RK lk_X0_init_9 R2 → Q 0 0 I2 J2 R2) : AM (d + 1) 0 9 [.ref 9] I J R Q := by
  refine amc_of (k := kX0_init) rfl rfl rfl rfl rfl rfl (Nat.le_of_ble_eq_true rfl) (fun P hc => ?_)
  refine cs_X0_init_9_0_9 hc _ _ _ ?_
  refine ⟨rfl, ?_⟩
  have hB1 : Bd (zI I 10) := hB.z
  have hK2 : RK ([]) (zR R 10) := (RK.nil (R := R)).z rfl
  have hF3 : FR 9 R (zR R 10) := (FR.refl 9 R).z rfl
  have hK4 : RK ((9, 0, 10) :: ([])) (uR (zR R 10) 9 0 10) := hK2.u rfl
  have hF5 : FR 9 R (uR (zR R 10) 9 0 10) := hF3.u rfl
  have hB6 : Bd (uI (zI I 10) 9 1 4) := hB1.kw rfl
  have hB7 : Bd (uI (uI (zI I 10) 9 1 4) 9 2 1073741823) := hB6.kw rfl
  have hB8 : Bd (uI (uI (uI (zI I 10) 9 1 4) 9 2 1073741823) 9 3 0) := hB7.kw rfl
  have hB9 : Bd (uI (uI (uI (uI (zI I 10) 9 1 4) 9 2 1073741823) 9 3 0) 9 4 0) := hB8.kw rfl
  refine ⟨rfl, ?_⟩
  have hB10 : Bd (zI (uI (uI (uI (uI (zI I 10) 9 1 4) 9 2 1073741823) 9 3 0) 9 4 0) 11) := hB9.z
  have hK11 : RK ((9, 0, 10) :: ([])) (zR (uR (zR R 10) 9 0 10) 11) := hK4.z rfl
  have hF12 : FR 9 R (zR (uR (zR R 10) 9 0 10) 11) := hF5.z rfl
  have hK13 : RK ((9, 5, 11) :: ((9, 0, 10) :: ([]))) (uR (zR (uR (zR R 10) 9 0 10) 11) 9 5 11) := hK11.u rfl
  have hF14 : FR 9 R (uR (zR (uR (zR R 10) 9 0 10) 11) 9 5 11) := hF12.u rfl
  refine ⟨rfl, ?_⟩
  have hB15 : Bd (zI (zI (uI (uI (uI (uI (zI I 10) 9 1 4) 9 2 1073741823) 9 3 0) 9 4 0) 11) 12) := hB10.z
  have hK16 : RK ((9, 5, 11) :: ((9, 0, 10) :: ([]))) (zR (uR (zR (uR (zR R 10) 9 0 10) 11) 9 5 11) 12) := hK13.z rfl
  have hF17 : FR 9 R (zR (uR (zR (uR (zR R 10) 9 0 10) 11) 9 5 11) 12) := hF14.z rfl
  have hK18 : RK ((9, 6, 12) :: ((9, 5, 11) :: ((9, 0, 10) :: ([])))) (uR (zR (uR (zR (uR (zR R 10) 9 0 10) 11) 9 5 11) 12) 9 6 12) := hK16.u rfl
  have hF19 : FR 9 R (uR (zR (uR (zR (uR (zR R 10) 9 0 10) 11) 9 5 11) 12) 9 6 12) := hF17.u rfl
  refine ⟨rfl, ?_⟩
  have hB20 : Bd (zI (zI (zI (uI (uI (uI (uI (zI I 10) 9 1 4) 9 2 1073741823) 9 3 0) 9 4 0) 11) 12) 13) := hB15.z
  have hK21 : RK ((9, 6, 12) :: ((9, 5, 11) :: ((9, 0, 10) :: ([])))) (zR (uR (zR (uR (zR (uR (zR R 10) 9 0 10) 11) 9 5 11) 12) 9 6 12) 13) := hK18.z rfl
  have hF22 : FR 9 R (zR (uR (zR (uR (zR (uR (zR R 10) 9 0 10) 11) 9 5 11) 12) 9 6 12) 13) := hF19.z rfl
  have hK23 : RK ((9, 7, 13) :: ((9, 6, 12) :: ((9, 5, 11) :: ((9, 0, 10) :: ([]))))) (uR (zR (uR (zR (uR (zR (uR (zR R 10) 9 0 10) 11) 9 5 11) 12) 9 6 12) 13) 9 7 13) := hK21.u rfl
  have hF24 : FR 9 R (uR (zR (uR (zR (uR (zR (uR (zR R 10) 9 0 10) 11) 9 5 11) 12) 9 6 12) 13) 9 7 13) := hF22.u rfl
  refine ⟨rfl, ?_⟩
  have hB25 : Bd (zI (zI (zI (zI (uI (uI (uI (uI (zI I 10) 9 1 4) 9 2 1073741823) 9 3 0) 9 4 0) 11) 12) 13) 14) := hB20.z
  have hK26 : RK ((9, 7, 13) :: ((9, 6, 12) :: ((9, 5, 11) :: ((9, 0, 10) :: ([]))))) (zR (uR (zR (uR (zR (uR (zR (uR (zR R 10) 9 0 10) 11) 9 5 11) 12) 9 6 12) 13) 9 7 13) 14) := hK23.z rfl
  have hF27 : FR 9 R (zR (uR (zR (uR (zR (uR (zR (uR (zR R 10) 9 0 10) 11) 9 5 11) 12) 9 6 12) 13) 9 7 13) 14) := hF24.z rfl
  have hK28 : RK ((9, 8, 14) :: ((9, 7, 13) :: ((9, 6, 12) :: ((9, 5, 11) :: ((9, 0, 10) :: ([])))))) (uR (zR (uR (zR (uR (zR (uR (zR (uR (zR R 10) 9 0 10) 11) 9 5 11) 12) 9 6 12) 13) 9 7 13) 14) 9 8 14) := hK26.u rfl
  have hF29 : FR 9 R (uR (zR (uR (zR (uR (zR (uR (zR (uR (zR R 10) 9 0 10) 11) 9 5 11) 12) 9 6 12) 13) 9 7 13) 14) 9 8 14) := hF27.u rfl
  exact ⟨rfl, fun z => absurd z (by decide), hQ _ _ _ hB25 hF29 hK28⟩
def lk_X0_init_15 : List (Nat × Nat × Nat) := (15, 8, 20) :: ((15, 7, 19) :: ((15, 6, 18) :: ((15, 5, 17) :: ((15, 0, 16) :: ([])))))
set_option maxHeartbeats 4000000 in
set_option maxRecDepth 100000 in
theorem ct_X0_init_15 {d : Nat} {Q : Qt} {I : Im} {J : Jm} {R : Rm} (hB : Bd I) (hQ : ∀ (I2 : Im) (J2 : Jm) (R2 : Rm), Bd I2 → FR 15 R R2 → RK lk_X0_init_15 R2 → Q 0 0 I2 J2 R2) : AM (d + 1) 0 15 [.ref 15] I J R Q := by
  refine amc_of (k := kX0_init) rfl rfl rfl rfl rfl rfl (Nat.le_of_ble_eq_true rfl) (fun P hc => ?_)
  refine cs_X0_init_15_0_15 hc _ _ _ ?_
  refine ⟨rfl, ?_⟩
  have hB1 : Bd (zI I 16) := hB.z
  have hK2 : RK ([]) (zR R 16) := (RK.nil (R := R)).z rfl
  have hF3 : FR 15 R (zR R 16) := (FR.refl 15 R).z rfl
  have hK4 : RK ((15, 0, 16) :: ([])) (uR (zR R 16) 15 0 16) := hK2.u rfl
  have hF5 : FR 15 R (uR (zR R 16) 15 0 16) := hF3.u rfl
  have hB6 : Bd (uI (zI I 16) 15 1 4) := hB1.kw rfl
  have hB7 : Bd (uI (uI (zI I 16) 15 1 4) 15 2 1073741823) := hB6.kw rfl
  have hB8 : Bd (uI (uI (uI (zI I 16) 15 1 4) 15 2 1073741823) 15 3 0) := hB7.kw rfl
  have hB9 : Bd (uI (uI (uI (uI (zI I 16) 15 1 4) 15 2 1073741823) 15 3 0) 15 4 0) := hB8.kw rfl
  refine ⟨rfl, ?_⟩
  have hB10 : Bd (zI (uI (uI (uI (uI (zI I 16) 15 1 4) 15 2 1073741823) 15 3 0) 15 4 0) 17) := hB9.z
  have hK11 : RK ((15, 0, 16) :: ([])) (zR (uR (zR R 16) 15 0 16) 17) := hK4.z rfl
  have hF12 : FR 15 R (zR (uR (zR R 16) 15 0 16) 17) := hF5.z rfl
  have hK13 : RK ((15, 5, 17) :: ((15, 0, 16) :: ([]))) (uR (zR (uR (zR R 16) 15 0 16) 17) 15 5 17) := hK11.u rfl
  have hF14 : FR 15 R (uR (zR (uR (zR R 16) 15 0 16) 17) 15 5 17) := hF12.u rfl
  refine ⟨rfl, ?_⟩
  have hB15 : Bd (zI (zI (uI (uI (uI (uI (zI I 16) 15 1 4) 15 2 1073741823) 15 3 0) 15 4 0) 17) 18) := hB10.z
  have hK16 : RK ((15, 5, 17) :: ((15, 0, 16) :: ([]))) (zR (uR (zR (uR (zR R 16) 15 0 16) 17) 15 5 17) 18) := hK13.z rfl
  have hF17 : FR 15 R (zR (uR (zR (uR (zR R 16) 15 0 16) 17) 15 5 17) 18) := hF14.z rfl
  have hK18 : RK ((15, 6, 18) :: ((15, 5, 17) :: ((15, 0, 16) :: ([])))) (uR (zR (uR (zR (uR (zR R 16) 15 0 16) 17) 15 5 17) 18) 15 6 18) := hK16.u rfl
  have hF19 : FR 15 R (uR (zR (uR (zR (uR (zR R 16) 15 0 16) 17) 15 5 17) 18) 15 6 18) := hF17.u rfl
  refine ⟨rfl, ?_⟩
  have hB20 : Bd (zI (zI (zI (uI (uI (uI (uI (zI I 16) 15 1 4) 15 2 1073741823) 15 3 0) 15 4 0) 17) 18) 19) := hB15.z
  have hK21 : RK ((15, 6, 18) :: ((15, 5, 17) :: ((15, 0, 16) :: ([])))) (zR (uR (zR (uR (zR (uR (zR R 16) 15 0 16) 17) 15 5 17) 18) 15 6 18) 19) := hK18.z rfl
  have hF22 : FR 15 R (zR (uR (zR (uR (zR (uR (zR R 16) 15 0 16) 17) 15 5 17) 18) 15 6 18) 19) := hF19.z rfl
  have hK23 : RK ((15, 7, 19) :: ((15, 6, 18) :: ((15, 5, 17) :: ((15, 0, 16) :: ([]))))) (uR (zR (uR (zR (uR (zR (uR (zR R 16) 15 0 16) 17) 15 5 17) 18) 15 6 18) 19) 15 7 19) := hK21.u rfl
  have hF24 : FR 15 R (uR (zR (uR (zR (uR (zR (uR (zR R 16) 15 0 16) 17) 15 5 17) 18) 15 6 18) 19) 15 7 19) := hF22.u rfl
  refine ⟨rfl, ?_⟩
  have hB25 : Bd (zI (zI (zI (zI (uI (uI (uI (uI (zI I 16) 15 1 4) 15 2 1073741823) 15 3 0) 15 4 0) 17) 18) 19) 20) := hB20.z
  have hK26 : RK ((15, 7, 19) :: ((15, 6, 18) :: ((15, 5, 17) :: ((15, 0, 16) :: ([]))))) (zR (uR (zR (uR (zR (uR (zR (uR (zR R 16) 15 0 16) 17) 15 5 17) 18) 15 6 18) 19) 15 7 19) 20) := hK23.z rfl
  have hF27 : FR 15 R (zR (uR (zR (uR (zR (uR (zR (uR (zR R 16) 15 0 16) 17) 15 5 17) 18) 15 6 18) 19) 15 7 19) 20) := hF24.z rfl
  have hK28 : RK ((15, 8, 20) :: ((15, 7, 19) :: ((15, 6, 18) :: ((15, 5, 17) :: ((15, 0, 16) :: ([])))))) (uR (zR (uR (zR (uR (zR (uR (zR (uR (zR R 16) 15 0 16) 17) 15 5 17) 18) 15 6 18) 19) 15 7 19) 20) 15 8 20) := hK26.u rfl
  have hF29 : FR 15 R (uR (zR (uR (zR (uR (zR (uR (zR (uR (zR R 16) 15 0 16) 17) 15 5 17) 18) 15 6 18) 19) 15 7 19) 20) 15 8 20) := hF27.u rfl
  exact ⟨rfl, fun z => absurd z (by decide), hQ _ _ _ hB25 hF29 hK28⟩
def lk_X2_init_21 : List (Nat × Nat × Nat) := (21, 7, 26) :: ((21, 6, 25) :: ((21, 5, 24) :: ((21, 4, 23) :: ((21, 3, 22) :: ([])))))
set_option maxHeartbeats 4000000 in
set_option maxRecDepth 100000 in
theorem ct_X2_init_21 {d : Nat} {Q : Qt} {I : Im} {J : Jm} {R : Rm} (hB : Bd I) (hQ : ∀ (I2 : Im) (J2 : Jm) (R2 : Rm), Bd I2 → FR 21 R R2 → RK lk_X2_init_21 R2 → Q 0 0 I2 J2 R2) : AM (d + 1) 27 21 [.ref 21] I J R Q := by
  refine amc_of (k := kX2_init) rfl rfl rfl rfl rfl rfl (Nat.le_of_ble_eq_true rfl) (fun P hc => ?_)
  refine cs_X2_init_21_0_21 hc _ _ _ ?_
  refine ⟨Or.inl rfl, ?_⟩
  have hB1 : Bd (uI I 21 0 0) := hB.kw rfl
  have hB2 : Bd (uI (uI I 21 0 0) 21 1 0) := hB1.kw rfl
  have hB3 : Bd (uI (uI (uI I 21 0 0) 21 1 0) 21 2 0) := hB2.kw rfl
  refine ⟨rfl, ?_⟩
  have hB4 : Bd (zI (uI (uI (uI I 21 0 0) 21 1 0) 21 2 0) 22) := hB3.z
  have hK5 : RK ([]) (zR R 22) := (RK.nil (R := R)).z rfl
  have hF6 : FR 21 R (zR R 22) := (FR.refl 21 R).z rfl
  have hK7 : RK ((21, 3, 22) :: ([])) (uR (zR R 22) 21 3 22) := hK5.u rfl
  have hF8 : FR 21 R (uR (zR R 22) 21 3 22) := hF6.u rfl
  refine ⟨rfl, ?_⟩
  have hB9 : Bd (zI (zI (uI (uI (uI I 21 0 0) 21 1 0) 21 2 0) 22) 23) := hB4.z
  have hK10 : RK ((21, 3, 22) :: ([])) (zR (uR (zR R 22) 21 3 22) 23) := hK7.z rfl
  have hF11 : FR 21 R (zR (uR (zR R 22) 21 3 22) 23) := hF8.z rfl
  have hK12 : RK ((21, 4, 23) :: ((21, 3, 22) :: ([]))) (uR (zR (uR (zR R 22) 21 3 22) 23) 21 4 23) := hK10.u rfl
  have hF13 : FR 21 R (uR (zR (uR (zR R 22) 21 3 22) 23) 21 4 23) := hF11.u rfl
  refine ⟨rfl, ?_⟩
  have hB14 : Bd (zI (zI (zI (uI (uI (uI I 21 0 0) 21 1 0) 21 2 0) 22) 23) 24) := hB9.z
  have hK15 : RK ((21, 4, 23) :: ((21, 3, 22) :: ([]))) (zR (uR (zR (uR (zR R 22) 21 3 22) 23) 21 4 23) 24) := hK12.z rfl
  have hF16 : FR 21 R (zR (uR (zR (uR (zR R 22) 21 3 22) 23) 21 4 23) 24) := hF13.z rfl
  have hK17 : RK ((21, 5, 24) :: ((21, 4, 23) :: ((21, 3, 22) :: ([])))) (uR (zR (uR (zR (uR (zR R 22) 21 3 22) 23) 21 4 23) 24) 21 5 24) := hK15.u rfl
  have hF18 : FR 21 R (uR (zR (uR (zR (uR (zR R 22) 21 3 22) 23) 21 4 23) 24) 21 5 24) := hF16.u rfl
  refine ⟨rfl, ?_⟩
  have hB19 : Bd (zI (zI (zI (zI (uI (uI (uI I 21 0 0) 21 1 0) 21 2 0) 22) 23) 24) 25) := hB14.z
  have hK20 : RK ((21, 5, 24) :: ((21, 4, 23) :: ((21, 3, 22) :: ([])))) (zR (uR (zR (uR (zR (uR (zR R 22) 21 3 22) 23) 21 4 23) 24) 21 5 24) 25) := hK17.z rfl
  have hF21 : FR 21 R (zR (uR (zR (uR (zR (uR (zR R 22) 21 3 22) 23) 21 4 23) 24) 21 5 24) 25) := hF18.z rfl
  have hK22 : RK ((21, 6, 25) :: ((21, 5, 24) :: ((21, 4, 23) :: ((21, 3, 22) :: ([]))))) (uR (zR (uR (zR (uR (zR (uR (zR R 22) 21 3 22) 23) 21 4 23) 24) 21 5 24) 25) 21 6 25) := hK20.u rfl
  have hF23 : FR 21 R (uR (zR (uR (zR (uR (zR (uR (zR R 22) 21 3 22) 23) 21 4 23) 24) 21 5 24) 25) 21 6 25) := hF21.u rfl
  refine ⟨rfl, ?_⟩
  have hB24 : Bd (zI (zI (zI (zI (zI (uI (uI (uI I 21 0 0) 21 1 0) 21 2 0) 22) 23) 24) 25) 26) := hB19.z
  have hK25 : RK ((21, 6, 25) :: ((21, 5, 24) :: ((21, 4, 23) :: ((21, 3, 22) :: ([]))))) (zR (uR (zR (uR (zR (uR (zR (uR (zR R 22) 21 3 22) 23) 21 4 23) 24) 21 5 24) 25) 21 6 25) 26) := hK22.z rfl
  have hF26 : FR 21 R (zR (uR (zR (uR (zR (uR (zR (uR (zR R 22) 21 3 22) 23) 21 4 23) 24) 21 5 24) 25) 21 6 25) 26) := hF23.z rfl
  have hK27 : RK ((21, 7, 26) :: ((21, 6, 25) :: ((21, 5, 24) :: ((21, 4, 23) :: ((21, 3, 22) :: ([])))))) (uR (zR (uR (zR (uR (zR (uR (zR (uR (zR R 22) 21 3 22) 23) 21 4 23) 24) 21 5 24) 25) 21 6 25) 26) 21 7 26) := hK25.u rfl
  have hF28 : FR 21 R (uR (zR (uR (zR (uR (zR (uR (zR (uR (zR R 22) 21 3 22) 23) 21 4 23) 24) 21 5 24) 25) 21 6 25) 26) 21 7 26) := hF26.u rfl
  exact ⟨rfl, fun z => absurd z (by decide), hQ _ _ _ hB24 hF28 hK27⟩
def lk_X2_init_27 : List (Nat × Nat × Nat) := (27, 7, 32) :: ((27, 6, 31) :: ((27, 5, 30) :: ((27, 4, 29) :: ((27, 3, 28) :: ([])))))
set_option maxHeartbeats 4000000 in
set_option maxRecDepth 100000 in
theorem ct_X2_init_27 {d : Nat} {Q : Qt} {I : Im} {J : Jm} {R : Rm} (hB : Bd I) (hQ : ∀ (I2 : Im) (J2 : Jm) (R2 : Rm), Bd I2 → FR 27 R R2 → RK lk_X2_init_27 R2 → Q 0 0 I2 J2 R2) : AM (d + 1) 27 27 [.ref 27] I J R Q := by
  refine amc_of (k := kX2_init) rfl rfl rfl rfl rfl rfl (Nat.le_of_ble_eq_true rfl) (fun P hc => ?_)
  refine cs_X2_init_27_0_27 hc _ _ _ ?_
  refine ⟨Or.inl rfl, ?_⟩
  have hB1 : Bd (uI I 27 0 0) := hB.kw rfl
  have hB2 : Bd (uI (uI I 27 0 0) 27 1 0) := hB1.kw rfl
  have hB3 : Bd (uI (uI (uI I 27 0 0) 27 1 0) 27 2 0) := hB2.kw rfl
  refine ⟨rfl, ?_⟩
  have hB4 : Bd (zI (uI (uI (uI I 27 0 0) 27 1 0) 27 2 0) 28) := hB3.z
  have hK5 : RK ([]) (zR R 28) := (RK.nil (R := R)).z rfl
  have hF6 : FR 27 R (zR R 28) := (FR.refl 27 R).z rfl
  have hK7 : RK ((27, 3, 28) :: ([])) (uR (zR R 28) 27 3 28) := hK5.u rfl
  have hF8 : FR 27 R (uR (zR R 28) 27 3 28) := hF6.u rfl
  refine ⟨rfl, ?_⟩
  have hB9 : Bd (zI (zI (uI (uI (uI I 27 0 0) 27 1 0) 27 2 0) 28) 29) := hB4.z
  have hK10 : RK ((27, 3, 28) :: ([])) (zR (uR (zR R 28) 27 3 28) 29) := hK7.z rfl
  have hF11 : FR 27 R (zR (uR (zR R 28) 27 3 28) 29) := hF8.z rfl
  have hK12 : RK ((27, 4, 29) :: ((27, 3, 28) :: ([]))) (uR (zR (uR (zR R 28) 27 3 28) 29) 27 4 29) := hK10.u rfl
  have hF13 : FR 27 R (uR (zR (uR (zR R 28) 27 3 28) 29) 27 4 29) := hF11.u rfl
  refine ⟨rfl, ?_⟩
  have hB14 : Bd (zI (zI (zI (uI (uI (uI I 27 0 0) 27 1 0) 27 2 0) 28) 29) 30) := hB9.z
  have hK15 : RK ((27, 4, 29) :: ((27, 3, 28) :: ([]))) (zR (uR (zR (uR (zR R 28) 27 3 28) 29) 27 4 29) 30) := hK12.z rfl
  have hF16 : FR 27 R (zR (uR (zR (uR (zR R 28) 27 3 28) 29) 27 4 29) 30) := hF13.z rfl
  have hK17 : RK ((27, 5, 30) :: ((27, 4, 29) :: ((27, 3, 28) :: ([])))) (uR (zR (uR (zR (uR (zR R 28) 27 3 28) 29) 27 4 29) 30) 27 5 30) := hK15.u rfl
  have hF18 : FR 27 R (uR (zR (uR (zR (uR (zR R 28) 27 3 28) 29) 27 4 29) 30) 27 5 30) := hF16.u rfl
  refine ⟨rfl, ?_⟩
  have hB19 : Bd (zI (zI (zI (zI (uI (uI (uI I 27 0 0) 27 1 0) 27 2 0) 28) 29) 30) 31) := hB14.z
  have hK20 : RK ((27, 5, 30) :: ((27, 4, 29) :: ((27, 3, 28) :: ([])))) (zR (uR (zR (uR (zR (uR (zR R 28) 27 3 28) 29) 27 4 29) 30) 27 5 30) 31) := hK17.z rfl
  have hF21 : FR 27 R (zR (uR (zR (uR (zR (uR (zR R 28) 27 3 28) 29) 27 4 29) 30) 27 5 30) 31) := hF18.z rfl
  have hK22 : RK ((27, 6, 31) :: ((27, 5, 30) :: ((27, 4, 29) :: ((27, 3, 28) :: ([]))))) (uR (zR (uR (zR (uR (zR (uR (zR R 28) 27 3 28) 29) 27 4 29) 30) 27 5 30) 31) 27 6 31) := hK20.u rfl
  have hF23 : FR 27 R (uR (zR (uR (zR (uR (zR (uR (zR R 28) 27 3 28) 29) 27 4 29) 30) 27 5 30) 31) 27 6 31) := hF21.u rfl
  refine ⟨rfl, ?_⟩
  have hB24 : Bd (zI (zI (zI (zI (zI (uI (uI (uI I 27 0 0) 27 1 0) 27 2 0) 28) 29) 30) 31) 32) := hB19.z
  have hK25 : RK ((27, 6, 31) :: ((27, 5, 30) :: ((27, 4, 29) :: ((27, 3, 28) :: ([]))))) (zR (uR (zR (uR (zR (uR (zR (uR (zR R 28) 27 3 28) 29) 27 4 29) 30) 27 5 30) 31) 27 6 31) 32) := hK22.z rfl
  have hF26 : FR 27 R (zR (uR (zR (uR (zR (uR (zR (uR (zR R 28) 27 3 28) 29) 27 4 29) 30) 27 5 30) 31) 27 6 31) 32) := hF23.z rfl
  have hK27 : RK ((27, 7, 32) :: ((27, 6, 31) :: ((27, 5, 30) :: ((27, 4, 29) :: ((27, 3, 28) :: ([])))))) (uR (zR (uR (zR (uR (zR (uR (zR (uR (zR R 28) 27 3 28) 29) 27 4 29) 30) 27 5 30) 31) 27 6 31) 32) 27 7 32) := hK25.u rfl
  have hF28 : FR 27 R (uR (zR (uR (zR (uR (zR (uR (zR (uR (zR R 28) 27 3 28) 29) 27 4 29) 30) 27 5 30) 31) 27 6 31) 32) 27 7 32) := hF26.u rfl
  exact ⟨rfl, fun z => absurd z (by decide), hQ _ _ _ hB24 hF28 hK27⟩
def lk_X7_init_35 : List (Nat × Nat × Nat) := (35, 7, 38) :: ((35, 4, 37) :: ((35, 3, 36) :: ([])))
set_option maxHeartbeats 4000000 in
set_option maxRecDepth 100000 in
theorem ct_X7_init_35 {d : Nat} {Q : Qt} {I : Im} {J : Jm} {R : Rm} (hB : Bd I) (hQ : ∀ (I2 : Im) (J2 : Jm) (R2 : Rm), Bd I2 → FR 35 R R2 → RK lk_X7_init_35 R2 → Q 0 0 I2 J2 R2) : AM (d + 1) 74 35 [.ref 35] I J R Q := by
  refine amc_of (k := kX7_init) rfl rfl rfl rfl rfl rfl (Nat.le_of_ble_eq_true rfl) (fun P hc => ?_)
  refine cs_X7_init_35_0_35 hc _ _ _ ?_
  have hB1 : Bd (uI I 35 0 0) := hB.kw rfl
  have hB2 : Bd (uI (uI I 35 0 0) 35 1 0) := hB1.kw rfl
  have hB3 : Bd (uI (uI (uI I 35 0 0) 35 1 0) 35 2 0) := hB2.kw rfl
  refine ⟨rfl, ?_⟩
  have hB4 : Bd (zI (uI (uI (uI I 35 0 0) 35 1 0) 35 2 0) 36) := hB3.z
  have hK5 : RK ([]) (zR R 36) := (RK.nil (R := R)).z rfl
  have hF6 : FR 35 R (zR R 36) := (FR.refl 35 R).z rfl
  have hK7 : RK ((35, 3, 36) :: ([])) (uR (zR R 36) 35 3 36) := hK5.u rfl
  have hF8 : FR 35 R (uR (zR R 36) 35 3 36) := hF6.u rfl
  refine ⟨rfl, ?_⟩
  have hB9 : Bd (zI (zI (uI (uI (uI I 35 0 0) 35 1 0) 35 2 0) 36) 37) := hB4.z
  have hK10 : RK ((35, 3, 36) :: ([])) (zR (uR (zR R 36) 35 3 36) 37) := hK7.z rfl
  have hF11 : FR 35 R (zR (uR (zR R 36) 35 3 36) 37) := hF8.z rfl
  have hK12 : RK ((35, 4, 37) :: ((35, 3, 36) :: ([]))) (uR (zR (uR (zR R 36) 35 3 36) 37) 35 4 37) := hK10.u rfl
  have hF13 : FR 35 R (uR (zR (uR (zR R 36) 35 3 36) 37) 35 4 37) := hF11.u rfl
  have hB14 : Bd (uI (zI (zI (uI (uI (uI I 35 0 0) 35 1 0) 35 2 0) 36) 37) 35 5 0) := hB9.kw rfl
  have hB15 : Bd (uI (uI (zI (zI (uI (uI (uI I 35 0 0) 35 1 0) 35 2 0) 36) 37) 35 5 0) 35 6 0) := hB14.kw rfl
  refine ⟨rfl, ?_⟩
  have hB16 : Bd (zI (uI (uI (zI (zI (uI (uI (uI I 35 0 0) 35 1 0) 35 2 0) 36) 37) 35 5 0) 35 6 0) 38) := hB15.z
  have hK17 : RK ((35, 4, 37) :: ((35, 3, 36) :: ([]))) (zR (uR (zR (uR (zR R 36) 35 3 36) 37) 35 4 37) 38) := hK12.z rfl
  have hF18 : FR 35 R (zR (uR (zR (uR (zR R 36) 35 3 36) 37) 35 4 37) 38) := hF13.z rfl
  have hK19 : RK ((35, 7, 38) :: ((35, 4, 37) :: ((35, 3, 36) :: ([])))) (uR (zR (uR (zR (uR (zR R 36) 35 3 36) 37) 35 4 37) 38) 35 7 38) := hK17.u rfl
  have hF20 : FR 35 R (uR (zR (uR (zR (uR (zR R 36) 35 3 36) 37) 35 4 37) 38) 35 7 38) := hF18.u rfl
  exact ⟨rfl, fun z => absurd z (by decide), hQ _ _ _ hB16 hF20 hK19⟩
def lk_X8_init_39 : List (Nat × Nat × Nat) := (39, 1, 41) :: ((39, 0, 40) :: ([]))
set_option maxHeartbeats 4000000 in
set_option maxRecDepth 100000 in
theorem ct_X8_init_39 {d : Nat} {Q : Qt} {I : Im} {J : Jm} {R : Rm} (hB : Bd I) (hQ : ∀ (I2 : Im) (J2 : Jm) (R2 : Rm), Bd I2 → FR 39 R R2 → RK lk_X8_init_39 R2 → Q 0 0 I2 J2 R2) : AM (d + 1) 85 39 [.ref 39] I J R Q := by
  refine amc_of (k := kX8_init) rfl rfl rfl rfl rfl rfl (Nat.le_of_ble_eq_true rfl) (fun P hc => ?_)
  refine cs_X8_init_39_0_39 hc _ _ _ ?_
  refine ⟨rfl, ?_⟩
  have hB1 : Bd (zI I 40) := hB.z
  have hK2 : RK ([]) (zR R 40) := (RK.nil (R := R)).z rfl
  have hF3 : FR 39 R (zR R 40) := (FR.refl 39 R).z rfl
  have hK4 : RK ((39, 0, 40) :: ([])) (uR (zR R 40) 39 0 40) := hK2.u rfl
  have hF5 : FR 39 R (uR (zR R 40) 39 0 40) := hF3.u rfl
  refine ⟨rfl, ?_⟩
  have hB6 : Bd (zI (zI I 40) 41) := hB1.z
  have hK7 : RK ((39, 0, 40) :: ([])) (zR (uR (zR R 40) 39 0 40) 41) := hK4.z rfl
  have hF8 : FR 39 R (zR (uR (zR R 40) 39 0 40) 41) := hF5.z rfl
  have hK9 : RK ((39, 1, 41) :: ((39, 0, 40) :: ([]))) (uR (zR (uR (zR R 40) 39 0 40) 41) 39 1 41) := hK7.u rfl
  have hF10 : FR 39 R (uR (zR (uR (zR R 40) 39 0 40) 41) 39 1 41) := hF8.u rfl
  have hB11 : Bd (uI (zI (zI I 40) 41) 39 2 0) := hB6.kw rfl
  exact ⟨rfl, fun z => absurd z (by decide), hQ _ _ _ hB11 hF10 hK9⟩
def lk_X5_init_42 : List (Nat × Nat × Nat) := (42, 1, 44) :: ((42, 0, 43) :: ([]))
set_option maxHeartbeats 4000000 in
set_option maxRecDepth 100000 in
theorem ct_X5_init_42 {d : Nat} {Q : Qt} {I : Im} {J : Jm} {R : Rm} (hB : Bd I) (hQ : ∀ (I2 : Im) (J2 : Jm) (R2 : Rm), Bd I2 → FR 42 R R2 → RK lk_X5_init_42 R2 → Q 0 0 I2 J2 R2) : AM (d + 1) 53 42 [.ref 42] I J R Q := by
  refine amc_of (k := kX5_init) rfl rfl rfl rfl rfl rfl (Nat.le_of_ble_eq_true rfl) (fun P hc => ?_)
  refine cs_X5_init_42_0_42 hc _ _ _ ?_
  refine ⟨rfl, ?_⟩
  have hB1 : Bd (zI I 43) := hB.z
  have hK2 : RK ([]) (zR R 43) := (RK.nil (R := R)).z rfl
  have hF3 : FR 42 R (zR R 43) := (FR.refl 42 R).z rfl
  have hK4 : RK ((42, 0, 43) :: ([])) (uR (zR R 43) 42 0 43) := hK2.u rfl
  have hF5 : FR 42 R (uR (zR R 43) 42 0 43) := hF3.u rfl
  refine ⟨rfl, ?_⟩
  have hB6 : Bd (zI (zI I 43) 44) := hB1.z
  have hK7 : RK ((42, 0, 43) :: ([])) (zR (uR (zR R 43) 42 0 43) 44) := hK4.z rfl
  have hF8 : FR 42 R (zR (uR (zR R 43) 42 0 43) 44) := hF5.z rfl
  have hK9 : RK ((42, 1, 44) :: ((42, 0, 43) :: ([]))) (uR (zR (uR (zR R 43) 42 0 43) 44) 42 1 44) := hK7.u rfl
  have hF10 : FR 42 R (uR (zR (uR (zR R 43) 42 0 43) 44) 42 1 44) := hF8.u rfl
  have hB11 : Bd (uI (zI (zI I 43) 44) 42 2 0) := hB6.kw rfl
  exact ⟨rfl, fun z => absurd z (by decide), hQ _ _ _ hB11 hF10 hK9⟩
def lk_X9_init_45 : List (Nat × Nat × Nat) := (45, 3, 48) :: ((45, 2, 47) :: ((45, 0, 46) :: ([])))
set_option maxHeartbeats 4000000 in
set_option maxRecDepth 100000 in
theorem ct_X9_init_45 {d : Nat} {Q : Qt} {I : Im} {J : Jm} {R : Rm} (hB : Bd I) (hQ : ∀ (I2 : Im) (J2 : Jm) (R2 : Rm), Bd I2 → FR 45 R R2 → RK lk_X9_init_45 R2 → Q 0 0 I2 J2 R2) : AM (d + 1) 88 45 [.ref 45] I J R Q := by
  refine amc_of (k := kX9_init) rfl rfl rfl rfl rfl rfl (Nat.le_of_ble_eq_true rfl) (fun P hc => ?_)
  refine cs_X9_init_45_0_45 hc _ _ _ ?_
  refine ⟨rfl, ?_⟩
  have hB1 : Bd (zI I 46) := hB.z
  have hK2 : RK ([]) (zR R 46) := (RK.nil (R := R)).z rfl
  have hF3 : FR 45 R (zR R 46) := (FR.refl 45 R).z rfl
  have hK4 : RK ((45, 0, 46) :: ([])) (uR (zR R 46) 45 0 46) := hK2.u rfl
  have hF5 : FR 45 R (uR (zR R 46) 45 0 46) := hF3.u rfl
  have hB6 : Bd (uI (zI I 46) 45 1 0) := hB1.kw rfl
  refine ⟨rfl, ?_⟩
  have hB7 : Bd (zI (uI (zI I 46) 45 1 0) 47) := hB6.z
  have hK8 : RK ((45, 0, 46) :: ([])) (zR (uR (zR R 46) 45 0 46) 47) := hK4.z rfl
  have hF9 : FR 45 R (zR (uR (zR R 46) 45 0 46) 47) := hF5.z rfl
  have hK10 : RK ((45, 2, 47) :: ((45, 0, 46) :: ([]))) (uR (zR (uR (zR R 46) 45 0 46) 47) 45 2 47) := hK8.u rfl
  have hF11 : FR 45 R (uR (zR (uR (zR R 46) 45 0 46) 47) 45 2 47) := hF9.u rfl
  refine ⟨rfl, ?_⟩
  have hB12 : Bd (zI (zI (uI (zI I 46) 45 1 0) 47) 48) := hB7.z
  have hK13 : RK ((45, 2, 47) :: ((45, 0, 46) :: ([]))) (zR (uR (zR (uR (zR R 46) 45 0 46) 47) 45 2 47) 48) := hK10.z rfl
  have hF14 : FR 45 R (zR (uR (zR (uR (zR R 46) 45 0 46) 47) 45 2 47) 48) := hF11.z rfl
  have hK15 : RK ((45, 3, 48) :: ((45, 2, 47) :: ((45, 0, 46) :: ([])))) (uR (zR (uR (zR (uR (zR R 46) 45 0 46) 47) 45 2 47) 48) 45 3 48) := hK13.u rfl
  have hF16 : FR 45 R (uR (zR (uR (zR (uR (zR R 46) 45 0 46) 47) 45 2 47) 48) 45 3 48) := hF14.u rfl
  exact ⟨rfl, fun z => absurd z (by decide), hQ _ _ _ hB12 hF16 hK15⟩
def lk_X4_init_49 : List (Nat × Nat × Nat) := (49, 8, 50) :: ([])
set_option maxHeartbeats 4000000 in
set_option maxRecDepth 100000 in
theorem ct_X4_init_49 {d : Nat} {Q : Qt} {I : Im} {J : Jm} {R : Rm} (hB : Bd I) (hQ : ∀ (I2 : Im) (J2 : Jm) (R2 : Rm), Bd I2 → FR 49 R R2 → RK lk_X4_init_49 R2 → Q 0 0 I2 J2 R2) : AM (d + 1) 40 49 [.ref 49] I J R Q := by
  refine amc_of (k := kX4_init) rfl rfl rfl rfl rfl rfl (Nat.le_of_ble_eq_true rfl) (fun P hc => ?_)
  refine cs_X4_init_49_0_49 hc _ _ _ ?_
  refine ⟨Or.inl rfl, ?_⟩
  have hB1 : Bd (uI I 49 0 0) := hB.kw rfl
  have hB2 : Bd (uI (uI I 49 0 0) 49 1 0) := hB1.kw rfl
  have hB3 : Bd (uI (uI (uI I 49 0 0) 49 1 0) 49 2 0) := hB2.kw rfl
  have hB4 : Bd (uI (uI (uI (uI I 49 0 0) 49 1 0) 49 2 0) 49 3 0) := hB3.kw rfl
  have hB5 : Bd (uI (uI (uI (uI (uI I 49 0 0) 49 1 0) 49 2 0) 49 3 0) 49 4 0) := hB4.kw rfl
  have hB6 : Bd (uI (uI (uI (uI (uI (uI I 49 0 0) 49 1 0) 49 2 0) 49 3 0) 49 4 0) 49 5 0) := hB5.kw rfl
  have hB7 : Bd (uI (uI (uI (uI (uI (uI (uI I 49 0 0) 49 1 0) 49 2 0) 49 3 0) 49 4 0) 49 5 0) 49 6 0) := hB6.kw rfl
  have hB8 : Bd (uI (uI (uI (uI (uI (uI (uI (uI I 49 0 0) 49 1 0) 49 2 0) 49 3 0) 49 4 0) 49 5 0) 49 6 0) 49 7 0) := hB7.kw rfl
  refine ⟨rfl, ?_⟩
  have hB9 : Bd (zI (uI (uI (uI (uI (uI (uI (uI (uI I 49 0 0) 49 1 0) 49 2 0) 49 3 0) 49 4 0) 49 5 0) 49 6 0) 49 7 0) 50) := hB8.z
  have hK10 : RK ([]) (zR R 50) := (RK.nil (R := R)).z rfl
  have hF11 : FR 49 R (zR R 50) := (FR.refl 49 R).z rfl
  have hK12 : RK ((49, 8, 50) :: ([])) (uR (zR R 50) 49 8 50) := hK10.u rfl
  have hF13 : FR 49 R (uR (zR R 50) 49 8 50) := hF11.u rfl
  exact ⟨rfl, fun z => absurd z (by decide), hQ _ _ _ hB9 hF13 hK12⟩
def lk_X4_init_51 : List (Nat × Nat × Nat) := (51, 8, 52) :: ([])
set_option maxHeartbeats 4000000 in
set_option maxRecDepth 100000 in
theorem ct_X4_init_51 {d : Nat} {Q : Qt} {I : Im} {J : Jm} {R : Rm} (hB : Bd I) (hQ : ∀ (I2 : Im) (J2 : Jm) (R2 : Rm), Bd I2 → FR 51 R R2 → RK lk_X4_init_51 R2 → Q 0 0 I2 J2 R2) : AM (d + 1) 40 51 [.ref 51] I J R Q := by
  refine amc_of (k := kX4_init) rfl rfl rfl rfl rfl rfl (Nat.le_of_ble_eq_true rfl) (fun P hc => ?_)
  refine cs_X4_init_51_0_51 hc _ _ _ ?_
  refine ⟨Or.inl rfl, ?_⟩
  have hB1 : Bd (uI I 51 0 0) := hB.kw rfl
  have hB2 : Bd (uI (uI I 51 0 0) 51 1 0) := hB1.kw rfl
  have hB3 : Bd (uI (uI (uI I 51 0 0) 51 1 0) 51 2 0) := hB2.kw rfl
  have hB4 : Bd (uI (uI (uI (uI I 51 0 0) 51 1 0) 51 2 0) 51 3 0) := hB3.kw rfl
  have hB5 : Bd (uI (uI (uI (uI (uI I 51 0 0) 51 1 0) 51 2 0) 51 3 0) 51 4 0) := hB4.kw rfl
  have hB6 : Bd (uI (uI (uI (uI (uI (uI I 51 0 0) 51 1 0) 51 2 0) 51 3 0) 51 4 0) 51 5 0) := hB5.kw rfl
  have hB7 : Bd (uI (uI (uI (uI (uI (uI (uI I 51 0 0) 51 1 0) 51 2 0) 51 3 0) 51 4 0) 51 5 0) 51 6 0) := hB6.kw rfl
  have hB8 : Bd (uI (uI (uI (uI (uI (uI (uI (uI I 51 0 0) 51 1 0) 51 2 0) 51 3 0) 51 4 0) 51 5 0) 51 6 0) 51 7 0) := hB7.kw rfl
  refine ⟨rfl, ?_⟩
  have hB9 : Bd (zI (uI (uI (uI (uI (uI (uI (uI (uI I 51 0 0) 51 1 0) 51 2 0) 51 3 0) 51 4 0) 51 5 0) 51 6 0) 51 7 0) 52) := hB8.z
  have hK10 : RK ([]) (zR R 52) := (RK.nil (R := R)).z rfl
  have hF11 : FR 51 R (zR R 52) := (FR.refl 51 R).z rfl
  have hK12 : RK ((51, 8, 52) :: ([])) (uR (zR R 52) 51 8 52) := hK10.u rfl
  have hF13 : FR 51 R (uR (zR R 52) 51 8 52) := hF11.u rfl
  exact ⟨rfl, fun z => absurd z (by decide), hQ _ _ _ hB9 hF13 hK12⟩
def lk_X10_init_53 : List (Nat × Nat × Nat) := (53, 2, 54) :: ([])
set_option maxHeartbeats 4000000 in
set_option maxRecDepth 100000 in
theorem ct_X10_init_53 {d : Nat} {Q : Qt} {I : Im} {J : Jm} {R : Rm} (hB : Bd I) (hQ : ∀ (I2 : Im) (J2 : Jm) (R2 : Rm), Bd I2 → FR 53 R R2 → RK lk_X10_init_53 R2 → Q 0 0 I2 J2 R2) : AM (d + 1) 94 53 [.ref 53] I J R Q := by
  refine amc_of (k := kX10_init) rfl rfl rfl rfl rfl rfl (Nat.le_of_ble_eq_true rfl) (fun P hc => ?_)
  refine cs_X10_init_53_0_53 hc _ _ _ ?_
  have hB1 : Bd (uI I 53 0 0) := hB.kw rfl
  have hB2 : Bd (uI (uI I 53 0 0) 53 1 (-1)) := hB1.kw rfl
  refine ⟨rfl, ?_⟩
  have hB3 : Bd (zI (uI (uI I 53 0 0) 53 1 (-1)) 54) := hB2.z
  have hK4 : RK ([]) (zR R 54) := (RK.nil (R := R)).z rfl
  have hF5 : FR 53 R (zR R 54) := (FR.refl 53 R).z rfl
  have hK6 : RK ((53, 2, 54) :: ([])) (uR (zR R 54) 53 2 54) := hK4.u rfl
  have hF7 : FR 53 R (uR (zR R 54) 53 2 54) := hF5.u rfl
  exact ⟨rfl, fun z => absurd z (by decide), hQ _ _ _ hB3 hF7 hK6⟩
def lk_X10_init_55 : List (Nat × Nat × Nat) := (55, 2, 56) :: ([])
set_option maxHeartbeats 4000000 in
set_option maxRecDepth 100000 in
theorem ct_X10_init_55 {d : Nat} {Q : Qt} {I : Im} {J : Jm} {R : Rm} (hB : Bd I) (hQ : ∀ (I2 : Im) (J2 : Jm) (R2 : Rm), Bd I2 → FR 55 R R2 → RK lk_X10_init_55 R2 → Q 0 0 I2 J2 R2) : AM (d + 1) 94 55 [.ref 55] I J R Q := by
  refine amc_of (k := kX10_init) rfl rfl rfl rfl rfl rfl (Nat.le_of_ble_eq_true rfl) (fun P hc => ?_)
  refine cs_X10_init_55_0_55 hc _ _ _ ?_
  have hB1 : Bd (uI I 55 0 0) := hB.kw rfl
  have hB2 : Bd (uI (uI I 55 0 0) 55 1 (-1)) := hB1.kw rfl
  refine ⟨rfl, ?_⟩
  have hB3 : Bd (zI (uI (uI I 55 0 0) 55 1 (-1)) 56) := hB2.z
  have hK4 : RK ([]) (zR R 56) := (RK.nil (R := R)).z rfl
  have hF5 : FR 55 R (zR R 56) := (FR.refl 55 R).z rfl
  have hK6 : RK ((55, 2, 56) :: ([])) (uR (zR R 56) 55 2 56) := hK4.u rfl
  have hF7 : FR 55 R (uR (zR R 56) 55 2 56) := hF5.u rfl
  exact ⟨rfl, fun z => absurd z (by decide), hQ _ _ _ hB3 hF7 hK6⟩
def lk_X10_init_57 : List (Nat × Nat × Nat) := (57, 2, 58) :: ([])
set_option maxHeartbeats 4000000 in
set_option maxRecDepth 100000 in
theorem ct_X10_init_57 {d : Nat} {Q : Qt} {I : Im} {J : Jm} {R : Rm} (hB : Bd I) (hQ : ∀ (I2 : Im) (J2 : Jm) (R2 : Rm), Bd I2 → FR 57 R R2 → RK lk_X10_init_57 R2 → Q 0 0 I2 J2 R2) : AM (d + 1) 94 57 [.ref 57] I J R Q := by
  refine amc_of (k := kX10_init) rfl rfl rfl rfl rfl rfl (Nat.le_of_ble_eq_true rfl) (fun P hc => ?_)
  refine cs_X10_init_57_0_57 hc _ _ _ ?_
  have hB1 : Bd (uI I 57 0 0) := hB.kw rfl
  have hB2 : Bd (uI (uI I 57 0 0) 57 1 (-1)) := hB1.kw rfl
  refine ⟨rfl, ?_⟩
  have hB3 : Bd (zI (uI (uI I 57 0 0) 57 1 (-1)) 58) := hB2.z
  have hK4 : RK ([]) (zR R 58) := (RK.nil (R := R)).z rfl
  have hF5 : FR 57 R (zR R 58) := (FR.refl 57 R).z rfl
  have hK6 : RK ((57, 2, 58) :: ([])) (uR (zR R 58) 57 2 58) := hK4.u rfl
  have hF7 : FR 57 R (uR (zR R 58) 57 2 58) := hF5.u rfl
  exact ⟨rfl, fun z => absurd z (by decide), hQ _ _ _ hB3 hF7 hK6⟩
def lk_X10_init_59 : List (Nat × Nat × Nat) := (59, 2, 60) :: ([])
set_option maxHeartbeats 4000000 in
set_option maxRecDepth 100000 in
theorem ct_X10_init_59 {d : Nat} {Q : Qt} {I : Im} {J : Jm} {R : Rm} (hB : Bd I) (hQ : ∀ (I2 : Im) (J2 : Jm) (R2 : Rm), Bd I2 → FR 59 R R2 → RK lk_X10_init_59 R2 → Q 0 0 I2 J2 R2) : AM (d + 1) 94 59 [.ref 59] I J R Q := by
  refine amc_of (k := kX10_init) rfl rfl rfl rfl rfl rfl (Nat.le_of_ble_eq_true rfl) (fun P hc => ?_)
  refine cs_X10_init_59_0_59 hc _ _ _ ?_
  have hB1 : Bd (uI I 59 0 0) := hB.kw rfl
  have hB2 : Bd (uI (uI I 59 0 0) 59 1 (-1)) := hB1.kw rfl
  refine ⟨rfl, ?_⟩
  have hB3 : Bd (zI (uI (uI I 59 0 0) 59 1 (-1)) 60) := hB2.z
  have hK4 : RK ([]) (zR R 60) := (RK.nil (R := R)).z rfl
  have hF5 : FR 59 R (zR R 60) := (FR.refl 59 R).z rfl
  have hK6 : RK ((59, 2, 60) :: ([])) (uR (zR R 60) 59 2 60) := hK4.u rfl
  have hF7 : FR 59 R (uR (zR R 60) 59 2 60) := hF5.u rfl
  exact ⟨rfl, fun z => absurd z (by decide), hQ _ _ _ hB3 hF7 hK6⟩
def lk_X0_init_61 : List (Nat × Nat × Nat) := (61, 8, 66) :: ((61, 7, 65) :: ((61, 6, 64) :: ((61, 5, 63) :: ((61, 0, 62) :: ([])))))
set_option maxHeartbeats 4000000 in
set_option maxRecDepth 100000 in
theorem ct_X0_init_61 {d : Nat} {Q : Qt} {I : Im} {J : Jm} {R : Rm} (hB : Bd I) (hQ : ∀ (I2 : Im) (J2 : Jm) (R2 : Rm), Bd I2 → FR 61 R R2 → RK lk_X0_init_61 R2 → Q 0 0 I2 J2 R2) : AM (d + 1) 0 61 [.ref 61] I J R Q := by
  refine amc_of (k := kX0_init) rfl rfl rfl rfl rfl rfl (Nat.le_of_ble_eq_true rfl) (fun P hc => ?_)
  refine cs_X0_init_61_0_61 hc _ _ _ ?_
  refine ⟨rfl, ?_⟩
  have hB1 : Bd (zI I 62) := hB.z
  have hK2 : RK ([]) (zR R 62) := (RK.nil (R := R)).z rfl
  have hF3 : FR 61 R (zR R 62) := (FR.refl 61 R).z rfl
  have hK4 : RK ((61, 0, 62) :: ([])) (uR (zR R 62) 61 0 62) := hK2.u rfl
  have hF5 : FR 61 R (uR (zR R 62) 61 0 62) := hF3.u rfl
  have hB6 : Bd (uI (zI I 62) 61 1 4) := hB1.kw rfl
  have hB7 : Bd (uI (uI (zI I 62) 61 1 4) 61 2 1073741823) := hB6.kw rfl
  have hB8 : Bd (uI (uI (uI (zI I 62) 61 1 4) 61 2 1073741823) 61 3 0) := hB7.kw rfl
  have hB9 : Bd (uI (uI (uI (uI (zI I 62) 61 1 4) 61 2 1073741823) 61 3 0) 61 4 0) := hB8.kw rfl
  refine ⟨rfl, ?_⟩
  have hB10 : Bd (zI (uI (uI (uI (uI (zI I 62) 61 1 4) 61 2 1073741823) 61 3 0) 61 4 0) 63) := hB9.z
  have hK11 : RK ((61, 0, 62) :: ([])) (zR (uR (zR R 62) 61 0 62) 63) := hK4.z rfl
  have hF12 : FR 61 R (zR (uR (zR R 62) 61 0 62) 63) := hF5.z rfl
  have hK13 : RK ((61, 5, 63) :: ((61, 0, 62) :: ([]))) (uR (zR (uR (zR R 62) 61 0 62) 63) 61 5 63) := hK11.u rfl
  have hF14 : FR 61 R (uR (zR (uR (zR R 62) 61 0 62) 63) 61 5 63) := hF12.u rfl
  refine ⟨rfl, ?_⟩
  have hB15 : Bd (zI (zI (uI (uI (uI (uI (zI I 62) 61 1 4) 61 2 1073741823) 61 3 0) 61 4 0) 63) 64) := hB10.z
  have hK16 : RK ((61, 5, 63) :: ((61, 0, 62) :: ([]))) (zR (uR (zR (uR (zR R 62) 61 0 62) 63) 61 5 63) 64) := hK13.z rfl
  have hF17 : FR 61 R (zR (uR (zR (uR (zR R 62) 61 0 62) 63) 61 5 63) 64) := hF14.z rfl
  have hK18 : RK ((61, 6, 64) :: ((61, 5, 63) :: ((61, 0, 62) :: ([])))) (uR (zR (uR (zR (uR (zR R 62) 61 0 62) 63) 61 5 63) 64) 61 6 64) := hK16.u rfl
  have hF19 : FR 61 R (uR (zR (uR (zR (uR (zR R 62) 61 0 62) 63) 61 5 63) 64) 61 6 64) := hF17.u rfl
  refine ⟨rfl, ?_⟩
  have hB20 : Bd (zI (zI (zI (uI (uI (uI (uI (zI I 62) 61 1 4) 61 2 1073741823) 61 3 0) 61 4 0) 63) 64) 65) := hB15.z
  have hK21 : RK ((61, 6, 64) :: ((61, 5, 63) :: ((61, 0, 62) :: ([])))) (zR (uR (zR (uR (zR (uR (zR R 62) 61 0 62) 63) 61 5 63) 64) 61 6 64) 65) := hK18.z rfl
  have hF22 : FR 61 R (zR (uR (zR (uR (zR (uR (zR R 62) 61 0 62) 63) 61 5 63) 64) 61 6 64) 65) := hF19.z rfl
  have hK23 : RK ((61, 7, 65) :: ((61, 6, 64) :: ((61, 5, 63) :: ((61, 0, 62) :: ([]))))) (uR (zR (uR (zR (uR (zR (uR (zR R 62) 61 0 62) 63) 61 5 63) 64) 61 6 64) 65) 61 7 65) := hK21.u rfl
  have hF24 : FR 61 R (uR (zR (uR (zR (uR (zR (uR (zR R 62) 61 0 62) 63) 61 5 63) 64) 61 6 64) 65) 61 7 65) := hF22.u rfl
  refine ⟨rfl, ?_⟩
  have hB25 : Bd (zI (zI (zI (zI (uI (uI (uI (uI (zI I 62) 61 1 4) 61 2 1073741823) 61 3 0) 61 4 0) 63) 64) 65) 66) := hB20.z
  have hK26 : RK ((61, 7, 65) :: ((61, 6, 64) :: ((61, 5, 63) :: ((61, 0, 62) :: ([]))))) (zR (uR (zR (uR (zR (uR (zR (uR (zR R 62) 61 0 62) 63) 61 5 63) 64) 61 6 64) 65) 61 7 65) 66) := hK23.z rfl
  have hF27 : FR 61 R (zR (uR (zR (uR (zR (uR (zR (uR (zR R 62) 61 0 62) 63) 61 5 63) 64) 61 6 64) 65) 61 7 65) 66) := hF24.z rfl
  have hK28 : RK ((61, 8, 66) :: ((61, 7, 65) :: ((61, 6, 64) :: ((61, 5, 63) :: ((61, 0, 62) :: ([])))))) (uR (zR (uR (zR (uR (zR (uR (zR (uR (zR R 62) 61 0 62) 63) 61 5 63) 64) 61 6 64) 65) 61 7 65) 66) 61 8 66) := hK26.u rfl
  have hF29 : FR 61 R (uR (zR (uR (zR (uR (zR (uR (zR (uR (zR R 62) 61 0 62) 63) 61 5 63) 64) 61 6 64) 65) 61 7 65) 66) 61 8 66) := hF27.u rfl
  exact ⟨rfl, fun z => absurd z (by decide), hQ _ _ _ hB25 hF29 hK28⟩
def lk_X2_init_67 : List (Nat × Nat × Nat) := (67, 7, 72) :: ((67, 6, 71) :: ((67, 5, 70) :: ((67, 4, 69) :: ((67, 3, 68) :: ([])))))
set_option maxHeartbeats 4000000 in
set_option maxRecDepth 100000 in
theorem ct_X2_init_67 {d : Nat} {Q : Qt} {I : Im} {J : Jm} {R : Rm} (hB : Bd I) (hQ : ∀ (I2 : Im) (J2 : Jm) (R2 : Rm), Bd I2 → FR 67 R R2 → RK lk_X2_init_67 R2 → Q 0 0 I2 J2 R2) : AM (d + 1) 27 67 [.ref 67] I J R Q := by
  refine amc_of (k := kX2_init) rfl rfl rfl rfl rfl rfl (Nat.le_of_ble_eq_true rfl) (fun P hc => ?_)
  refine cs_X2_init_67_0_67 hc _ _ _ ?_
  refine ⟨Or.inl rfl, ?_⟩
  have hB1 : Bd (uI I 67 0 0) := hB.kw rfl
  have hB2 : Bd (uI (uI I 67 0 0) 67 1 0) := hB1.kw rfl
  have hB3 : Bd (uI (uI (uI I 67 0 0) 67 1 0) 67 2 0) := hB2.kw rfl
  refine ⟨rfl, ?_⟩
  have hB4 : Bd (zI (uI (uI (uI I 67 0 0) 67 1 0) 67 2 0) 68) := hB3.z
  have hK5 : RK ([]) (zR R 68) := (RK.nil (R := R)).z rfl
  have hF6 : FR 67 R (zR R 68) := (FR.refl 67 R).z rfl
  have hK7 : RK ((67, 3, 68) :: ([])) (uR (zR R 68) 67 3 68) := hK5.u rfl
  have hF8 : FR 67 R (uR (zR R 68) 67 3 68) := hF6.u rfl
  refine ⟨rfl, ?_⟩
  have hB9 : Bd (zI (zI (uI (uI (uI I 67 0 0) 67 1 0) 67 2 0) 68) 69) := hB4.z
  have hK10 : RK ((67, 3, 68) :: ([])) (zR (uR (zR R 68) 67 3 68) 69) := hK7.z rfl
  have hF11 : FR 67 R (zR (uR (zR R 68) 67 3 68) 69) := hF8.z rfl
  have hK12 : RK ((67, 4, 69) :: ((67, 3, 68) :: ([]))) (uR (zR (uR (zR R 68) 67 3 68) 69) 67 4 69) := hK10.u rfl
  have hF13 : FR 67 R (uR (zR (uR (zR R 68) 67 3 68) 69) 67 4 69) := hF11.u rfl
  refine ⟨rfl, ?_⟩
  have hB14 : Bd (zI (zI (zI (uI (uI (uI I 67 0 0) 67 1 0) 67 2 0) 68) 69) 70) := hB9.z
  have hK15 : RK ((67, 4, 69) :: ((67, 3, 68) :: ([]))) (zR (uR (zR (uR (zR R 68) 67 3 68) 69) 67 4 69) 70) := hK12.z rfl
  have hF16 : FR 67 R (zR (uR (zR (uR (zR R 68) 67 3 68) 69) 67 4 69) 70) := hF13.z rfl
  have hK17 : RK ((67, 5, 70) :: ((67, 4, 69) :: ((67, 3, 68) :: ([])))) (uR (zR (uR (zR (uR (zR R 68) 67 3 68) 69) 67 4 69) 70) 67 5 70) := hK15.u rfl
  have hF18 : FR 67 R (uR (zR (uR (zR (uR (zR R 68) 67 3 68) 69) 67 4 69) 70) 67 5 70) := hF16.u rfl
  refine ⟨rfl, ?_⟩
  have hB19 : Bd (zI (zI (zI (zI (uI (uI (uI I 67 0 0) 67 1 0) 67 2 0) 68) 69) 70) 71) := hB14.z
  have hK20 : RK ((67, 5, 70) :: ((67, 4, 69) :: ((67, 3, 68) :: ([])))) (zR (uR (zR (uR (zR (uR (zR R 68) 67 3 68) 69) 67 4 69) 70) 67 5 70) 71) := hK17.z rfl
  have hF21 : FR 67 R (zR (uR (zR (uR (zR (uR (zR R 68) 67 3 68) 69) 67 4 69) 70) 67 5 70) 71) := hF18.z rfl
  have hK22 : RK ((67, 6, 71) :: ((67, 5, 70) :: ((67, 4, 69) :: ((67, 3, 68) :: ([]))))) (uR (zR (uR (zR (uR (zR (uR (zR R 68) 67 3 68) 69) 67 4 69) 70) 67 5 70) 71) 67 6 71) := hK20.u rfl
  have hF23 : FR 67 R (uR (zR (uR (zR (uR (zR (uR (zR R 68) 67 3 68) 69) 67 4 69) 70) 67 5 70) 71) 67 6 71) := hF21.u rfl
  refine ⟨rfl, ?_⟩
  have hB24 : Bd (zI (zI (zI (zI (zI (uI (uI (uI I 67 0 0) 67 1 0) 67 2 0) 68) 69) 70) 71) 72) := hB19.z
  have hK25 : RK ((67, 6, 71) :: ((67, 5, 70) :: ((67, 4, 69) :: ((67, 3, 68) :: ([]))))) (zR (uR (zR (uR (zR (uR (zR (uR (zR R 68) 67 3 68) 69) 67 4 69) 70) 67 5 70) 71) 67 6 71) 72) := hK22.z rfl
  have hF26 : FR 67 R (zR (uR (zR (uR (zR (uR (zR (uR (zR R 68) 67 3 68) 69) 67 4 69) 70) 67 5 70) 71) 67 6 71) 72) := hF23.z rfl
  have hK27 : RK ((67, 7, 72) :: ((67, 6, 71) :: ((67, 5, 70) :: ((67, 4, 69) :: ((67, 3, 68) :: ([])))))) (uR (zR (uR (zR (uR (zR (uR (zR (uR (zR R 68) 67 3 68) 69) 67 4 69) 70) 67 5 70) 71) 67 6 71) 72) 67 7 72) := hK25.u rfl
  have hF28 : FR 67 R (uR (zR (uR (zR (uR (zR (uR (zR (uR (zR R 68) 67 3 68) 69) 67 4 69) 70) 67 5 70) 71) 67 6 71) 72) 67 7 72) := hF26.u rfl
  exact ⟨rfl, fun z => absurd z (by decide), hQ _ _ _ hB24 hF28 hK27⟩
def lk_X0_init_73 : List (Nat × Nat × Nat) := (73, 8, 78) :: ((73, 7, 77) :: ((73, 6, 76) :: ((73, 5, 75) :: ((73, 0, 74) :: ([])))))
set_option maxHeartbeats 4000000 in
set_option maxRecDepth 100000 in
theorem ct_X0_init_73 {d : Nat} {Q : Qt} {I : Im} {J : Jm} {R : Rm} (hB : Bd I) (hQ : ∀ (I2 : Im) (J2 : Jm) (R2 : Rm), Bd I2 → FR 73 R R2 → RK lk_X0_init_73 R2 → Q 0 0 I2 J2 R2) : AM (d + 1) 0 73 [.ref 73] I J R Q := by
  refine amc_of (k := kX0_init) rfl rfl rfl rfl rfl rfl (Nat.le_of_ble_eq_true rfl) (fun P hc => ?_)
  refine cs_X0_init_73_0_73 hc _ _ _ ?_
  refine ⟨rfl, ?_⟩
  have hB1 : Bd (zI I 74) := hB.z
  have hK2 : RK ([]) (zR R 74) := (RK.nil (R := R)).z rfl
  have hF3 : FR 73 R (zR R 74) := (FR.refl 73 R).z rfl
  have hK4 : RK ((73, 0, 74) :: ([])) (uR (zR R 74) 73 0 74) := hK2.u rfl
  have hF5 : FR 73 R (uR (zR R 74) 73 0 74) := hF3.u rfl
  have hB6 : Bd (uI (zI I 74) 73 1 4) := hB1.kw rfl
  have hB7 : Bd (uI (uI (zI I 74) 73 1 4) 73 2 1073741823) := hB6.kw rfl
  have hB8 : Bd (uI (uI (uI (zI I 74) 73 1 4) 73 2 1073741823) 73 3 0) := hB7.kw rfl
  have hB9 : Bd (uI (uI (uI (uI (zI I 74) 73 1 4) 73 2 1073741823) 73 3 0) 73 4 0) := hB8.kw rfl
  refine ⟨rfl, ?_⟩
  have hB10 : Bd (zI (uI (uI (uI (uI (zI I 74) 73 1 4) 73 2 1073741823) 73 3 0) 73 4 0) 75) := hB9.z
  have hK11 : RK ((73, 0, 74) :: ([])) (zR (uR (zR R 74) 73 0 74) 75) := hK4.z rfl
  have hF12 : FR 73 R (zR (uR (zR R 74) 73 0 74) 75) := hF5.z rfl
  have hK13 : RK ((73, 5, 75) :: ((73, 0, 74) :: ([]))) (uR (zR (uR (zR R 74) 73 0 74) 75) 73 5 75) := hK11.u rfl
  have hF14 : FR 73 R (uR (zR (uR (zR R 74) 73 0 74) 75) 73 5 75) := hF12.u rfl
  refine ⟨rfl, ?_⟩
  have hB15 : Bd (zI (zI (uI (uI (uI (uI (zI I 74) 73 1 4) 73 2 1073741823) 73 3 0) 73 4 0) 75) 76) := hB10.z
  have hK16 : RK ((73, 5, 75) :: ((73, 0, 74) :: ([]))) (zR (uR (zR (uR (zR R 74) 73 0 74) 75) 73 5 75) 76) := hK13.z rfl
  have hF17 : FR 73 R (zR (uR (zR (uR (zR R 74) 73 0 74) 75) 73 5 75) 76) := hF14.z rfl
  have hK18 : RK ((73, 6, 76) :: ((73, 5, 75) :: ((73, 0, 74) :: ([])))) (uR (zR (uR (zR (uR (zR R 74) 73 0 74) 75) 73 5 75) 76) 73 6 76) := hK16.u rfl
  have hF19 : FR 73 R (uR (zR (uR (zR (uR (zR R 74) 73 0 74) 75) 73 5 75) 76) 73 6 76) := hF17.u rfl
  refine ⟨rfl, ?_⟩
  have hB20 : Bd (zI (zI (zI (uI (uI (uI (uI (zI I 74) 73 1 4) 73 2 1073741823) 73 3 0) 73 4 0) 75) 76) 77) := hB15.z
  have hK21 : RK ((73, 6, 76) :: ((73, 5, 75) :: ((73, 0, 74) :: ([])))) (zR (uR (zR (uR (zR (uR (zR R 74) 73 0 74) 75) 73 5 75) 76) 73 6 76) 77) := hK18.z rfl
  have hF22 : FR 73 R (zR (uR (zR (uR (zR (uR (zR R 74) 73 0 74) 75) 73 5 75) 76) 73 6 76) 77) := hF19.z rfl
  have hK23 : RK ((73, 7, 77) :: ((73, 6, 76) :: ((73, 5, 75) :: ((73, 0, 74) :: ([]))))) (uR (zR (uR (zR (uR (zR (uR (zR R 74) 73 0 74) 75) 73 5 75) 76) 73 6 76) 77) 73 7 77) := hK21.u rfl
  have hF24 : FR 73 R (uR (zR (uR (zR (uR (zR (uR (zR R 74) 73 0 74) 75) 73 5 75) 76) 73 6 76) 77) 73 7 77) := hF22.u rfl
  refine ⟨rfl, ?_⟩
  have hB25 : Bd (zI (zI (zI (zI (uI (uI (uI (uI (zI I 74) 73 1 4) 73 2 1073741823) 73 3 0) 73 4 0) 75) 76) 77) 78) := hB20.z
  have hK26 : RK ((73, 7, 77) :: ((73, 6, 76) :: ((73, 5, 75) :: ((73, 0, 74) :: ([]))))) (zR (uR (zR (uR (zR (uR (zR (uR (zR R 74) 73 0 74) 75) 73 5 75) 76) 73 6 76) 77) 73 7 77) 78) := hK23.z rfl
  have hF27 : FR 73 R (zR (uR (zR (uR (zR (uR (zR (uR (zR R 74) 73 0 74) 75) 73 5 75) 76) 73 6 76) 77) 73 7 77) 78) := hF24.z rfl
  have hK28 : RK ((73, 8, 78) :: ((73, 7, 77) :: ((73, 6, 76) :: ((73, 5, 75) :: ((73, 0, 74) :: ([])))))) (uR (zR (uR (zR (uR (zR (uR (zR (uR (zR R 74) 73 0 74) 75) 73 5 75) 76) 73 6 76) 77) 73 7 77) 78) 73 8 78) := hK26.u rfl
  have hF29 : FR 73 R (uR (zR (uR (zR (uR (zR (uR (zR (uR (zR R 74) 73 0 74) 75) 73 5 75) 76) 73 6 76) 77) 73 7 77) 78) 73 8 78) := hF27.u rfl
  exact ⟨rfl, fun z => absurd z (by decide), hQ _ _ _ hB25 hF29 hK28⟩
def lk_X2_init_79 : List (Nat × Nat × Nat) := (79, 7, 84) :: ((79, 6, 83) :: ((79, 5, 82) :: ((79, 4, 81) :: ((79, 3, 80) :: ([])))))
set_option maxHeartbeats 4000000 in
set_option maxRecDepth 100000 in
theorem ct_X2_init_79 {d : Nat} {Q : Qt} {I : Im} {J : Jm} {R : Rm} (hB : Bd I) (hQ : ∀ (I2 : Im) (J2 : Jm) (R2 : Rm), Bd I2 → FR 79 R R2 → RK lk_X2_init_79 R2 → Q 0 0 I2 J2 R2) : AM (d + 1) 27 79 [.ref 79] I J R Q := by
  refine amc_of (k := kX2_init) rfl rfl rfl rfl rfl rfl (Nat.le_of_ble_eq_true rfl) (fun P hc => ?_)
  refine cs_X2_init_79_0_79 hc _ _ _ ?_
  refine ⟨Or.inl rfl, ?_⟩
  have hB1 : Bd (uI I 79 0 0) := hB.kw rfl
  have hB2 : Bd (uI (uI I 79 0 0) 79 1 0) := hB1.kw rfl
  have hB3 : Bd (uI (uI (uI I 79 0 0) 79 1 0) 79 2 0) := hB2.kw rfl
  refine ⟨rfl, ?_⟩
  have hB4 : Bd (zI (uI (uI (uI I 79 0 0) 79 1 0) 79 2 0) 80) := hB3.z
  have hK5 : RK ([]) (zR R 80) := (RK.nil (R := R)).z rfl
  have hF6 : FR 79 R (zR R 80) := (FR.refl 79 R).z rfl
  have hK7 : RK ((79, 3, 80) :: ([])) (uR (zR R 80) 79 3 80) := hK5.u rfl
  have hF8 : FR 79 R (uR (zR R 80) 79 3 80) := hF6.u rfl
  refine ⟨rfl, ?_⟩
  have hB9 : Bd (zI (zI (uI (uI (uI I 79 0 0) 79 1 0) 79 2 0) 80) 81) := hB4.z
  have hK10 : RK ((79, 3, 80) :: ([])) (zR (uR (zR R 80) 79 3 80) 81) := hK7.z rfl
  have hF11 : FR 79 R (zR (uR (zR R 80) 79 3 80) 81) := hF8.z rfl
  have hK12 : RK ((79, 4, 81) :: ((79, 3, 80) :: ([]))) (uR (zR (uR (zR R 80) 79 3 80) 81) 79 4 81) := hK10.u rfl
  have hF13 : FR 79 R (uR (zR (uR (zR R 80) 79 3 80) 81) 79 4 81) := hF11.u rfl
  refine ⟨rfl, ?_⟩
  have hB14 : Bd (zI (zI (zI (uI (uI (uI I 79 0 0) 79 1 0) 79 2 0) 80) 81) 82) := hB9.z
  have hK15 : RK ((79, 4, 81) :: ((79, 3, 80) :: ([]))) (zR (uR (zR (uR (zR R 80) 79 3 80) 81) 79 4 81) 82) := hK12.z rfl
  have hF16 : FR 79 R (zR (uR (zR (uR (zR R 80) 79 3 80) 81) 79 4 81) 82) := hF13.z rfl
  have hK17 : RK ((79, 5, 82) :: ((79, 4, 81) :: ((79, 3, 80) :: ([])))) (uR (zR (uR (zR (uR (zR R 80) 79 3 80) 81) 79 4 81) 82) 79 5 82) := hK15.u rfl
  have hF18 : FR 79 R (uR (zR (uR (zR (uR (zR R 80) 79 3 80) 81) 79 4 81) 82) 79 5 82) := hF16.u rfl
  refine ⟨rfl, ?_⟩
  have hB19 : Bd (zI (zI (zI (zI (uI (uI (uI I 79 0 0) 79 1 0) 79 2 0) 80) 81) 82) 83) := hB14.z
  have hK20 : RK ((79, 5, 82) :: ((79, 4, 81) :: ((79, 3, 80) :: ([])))) (zR (uR (zR (uR (zR (uR (zR R 80) 79 3 80) 81) 79 4 81) 82) 79 5 82) 83) := hK17.z rfl
  have hF21 : FR 79 R (zR (uR (zR (uR (zR (uR (zR R 80) 79 3 80) 81) 79 4 81) 82) 79 5 82) 83) := hF18.z rfl
  have hK22 : RK ((79, 6, 83) :: ((79, 5, 82) :: ((79, 4, 81) :: ((79, 3, 80) :: ([]))))) (uR (zR (uR (zR (uR (zR (uR (zR R 80) 79 3 80) 81) 79 4 81) 82) 79 5 82) 83) 79 6 83) := hK20.u rfl
  have hF23 : FR 79 R (uR (zR (uR (zR (uR (zR (uR (zR R 80) 79 3 80) 81) 79 4 81) 82) 79 5 82) 83) 79 6 83) := hF21.u rfl
  refine ⟨rfl, ?_⟩
  have hB24 : Bd (zI (zI (zI (zI (zI (uI (uI (uI I 79 0 0) 79 1 0) 79 2 0) 80) 81) 82) 83) 84) := hB19.z
  have hK25 : RK ((79, 6, 83) :: ((79, 5, 82) :: ((79, 4, 81) :: ((79, 3, 80) :: ([]))))) (zR (uR (zR (uR (zR (uR (zR (uR (zR R 80) 79 3 80) 81) 79 4 81) 82) 79 5 82) 83) 79 6 83) 84) := hK22.z rfl
  have hF26 : FR 79 R (zR (uR (zR (uR (zR (uR (zR (uR (zR R 80) 79 3 80) 81) 79 4 81) 82) 79 5 82) 83) 79 6 83) 84) := hF23.z rfl
  have hK27 : RK ((79, 7, 84) :: ((79, 6, 83) :: ((79, 5, 82) :: ((79, 4, 81) :: ((79, 3, 80) :: ([])))))) (uR (zR (uR (zR (uR (zR (uR (zR (uR (zR R 80) 79 3 80) 81) 79 4 81) 82) 79 5 82) 83) 79 6 83) 84) 79 7 84) := hK25.u rfl
  have hF28 : FR 79 R (uR (zR (uR (zR (uR (zR (uR (zR (uR (zR R 80) 79 3 80) 81) 79 4 81) 82) 79 5 82) 83) 79 6 83) 84) 79 7 84) := hF26.u rfl
  exact ⟨rfl, fun z => absurd z (by decide), hQ _ _ _ hB24 hF28 hK27⟩
def lk_X0_init_85 : List (Nat × Nat × Nat) := (85, 8, 90) :: ((85, 7, 89) :: ((85, 6, 88) :: ((85, 5, 87) :: ((85, 0, 86) :: ([])))))
set_option maxHeartbeats 4000000 in
set_option maxRecDepth 100000 in
theorem ct_X0_init_85 {d : Nat} {Q : Qt} {I : Im} {J : Jm} {R : Rm} (hB : Bd I) (hQ : ∀ (I2 : Im) (J2 : Jm) (R2 : Rm), Bd I2 → FR 85 R R2 → RK lk_X0_init_85 R2 → Q 0 0 I2 J2 R2) : AM (d + 1) 0 85 [.ref 85] I J R Q := by
  refine amc_of (k := kX0_init) rfl rfl rfl rfl rfl rfl (Nat.le_of_ble_eq_true rfl) (fun P hc => ?_)
  refine cs_X0_init_85_0_85 hc _ _ _ ?_
  refine ⟨rfl, ?_⟩
  have hB1 : Bd (zI I 86) := hB.z
  have hK2 : RK ([]) (zR R 86) := (RK.nil (R := R)).z rfl
  have hF3 : FR 85 R (zR R 86) := (FR.refl 85 R).z rfl
  have hK4 : RK ((85, 0, 86) :: ([])) (uR (zR R 86) 85 0 86) := hK2.u rfl
  have hF5 : FR 85 R (uR (zR R 86) 85 0 86) := hF3.u rfl
  have hB6 : Bd (uI (zI I 86) 85 1 4) := hB1.kw rfl
  have hB7 : Bd (uI (uI (zI I 86) 85 1 4) 85 2 1073741823) := hB6.kw rfl
  have hB8 : Bd (uI (uI (uI (zI I 86) 85 1 4) 85 2 1073741823) 85 3 0) := hB7.kw rfl
  have hB9 : Bd (uI (uI (uI (uI (zI I 86) 85 1 4) 85 2 1073741823) 85 3 0) 85 4 0) := hB8.kw rfl
  refine ⟨rfl, ?_⟩
  have hB10 : Bd (zI (uI (uI (uI (uI (zI I 86) 85 1 4) 85 2 1073741823) 85 3 0) 85 4 0) 87) := hB9.z
  have hK11 : RK ((85, 0, 86) :: ([])) (zR (uR (zR R 86) 85 0 86) 87) := hK4.z rfl
  have hF12 : FR 85 R (zR (uR (zR R 86) 85 0 86) 87) := hF5.z rfl
  have hK13 : RK ((85, 5, 87) :: ((85, 0, 86) :: ([]))) (uR (zR (uR (zR R 86) 85 0 86) 87) 85 5 87) := hK11.u rfl
  have hF14 : FR 85 R (uR (zR (uR (zR R 86) 85 0 86) 87) 85 5 87) := hF12.u rfl
  refine ⟨rfl, ?_⟩
  have hB15 : Bd (zI (zI (uI (uI (uI (uI (zI I 86) 85 1 4) 85 2 1073741823) 85 3 0) 85 4 0) 87) 88) := hB10.z
  have hK16 : RK ((85, 5, 87) :: ((85, 0, 86) :: ([]))) (zR (uR (zR (uR (zR R 86) 85 0 86) 87) 85 5 87) 88) := hK13.z rfl
  have hF17 : FR 85 R (zR (uR (zR (uR (zR R 86) 85 0 86) 87) 85 5 87) 88) := hF14.z rfl
  have hK18 : RK ((85, 6, 88) :: ((85, 5, 87) :: ((85, 0, 86) :: ([])))) (uR (zR (uR (zR (uR (zR R 86) 85 0 86) 87) 85 5 87) 88) 85 6 88) := hK16.u rfl
  have hF19 : FR 85 R (uR (zR (uR (zR (uR (zR R 86) 85 0 86) 87) 85 5 87) 88) 85 6 88) := hF17.u rfl
  refine ⟨rfl, ?_⟩
  have hB20 : Bd (zI (zI (zI (uI (uI (uI (uI (zI I 86) 85 1 4) 85 2 1073741823) 85 3 0) 85 4 0) 87) 88) 89) := hB15.z
  have hK21 : RK ((85, 6, 88) :: ((85, 5, 87) :: ((85, 0, 86) :: ([])))) (zR (uR (zR (uR (zR (uR (zR R 86) 85 0 86) 87) 85 5 87) 88) 85 6 88) 89) := hK18.z rfl
  have hF22 : FR 85 R (zR (uR (zR (uR (zR (uR (zR R 86) 85 0 86) 87) 85 5 87) 88) 85 6 88) 89) := hF19.z rfl
  have hK23 : RK ((85, 7, 89) :: ((85, 6, 88) :: ((85, 5, 87) :: ((85, 0, 86) :: ([]))))) (uR (zR (uR (zR (uR (zR (uR (zR R 86) 85 0 86) 87) 85 5 87) 88) 85 6 88) 89) 85 7 89) := hK21.u rfl
  have hF24 : FR 85 R (uR (zR (uR (zR (uR (zR (uR (zR R 86) 85 0 86) 87) 85 5 87) 88) 85 6 88) 89) 85 7 89) := hF22.u rfl
  refine ⟨rfl, ?_⟩
  have hB25 : Bd (zI (zI (zI (zI (uI (uI (uI (uI (zI I 86) 85 1 4) 85 2 1073741823) 85 3 0) 85 4 0) 87) 88) 89) 90) := hB20.z
  have hK26 : RK ((85, 7, 89) :: ((85, 6, 88) :: ((85, 5, 87) :: ((85, 0, 86) :: ([]))))) (zR (uR (zR (uR (zR (uR (zR (uR (zR R 86) 85 0 86) 87) 85 5 87) 88) 85 6 88) 89) 85 7 89) 90) := hK23.z rfl
  have hF27 : FR 85 R (zR (uR (zR (uR (zR (uR (zR (uR (zR R 86) 85 0 86) 87) 85 5 87) 88) 85 6 88) 89) 85 7 89) 90) := hF24.z rfl
  have hK28 : RK ((85, 8, 90) :: ((85, 7, 89) :: ((85, 6, 88) :: ((85, 5, 87) :: ((85, 0, 86) :: ([])))))) (uR (zR (uR (zR (uR (zR (uR (zR (uR (zR R 86) 85 0 86) 87) 85 5 87) 88) 85 6 88) 89) 85 7 89) 90) 85 8 90) := hK26.u rfl
  have hF29 : FR 85 R (uR (zR (uR (zR (uR (zR (uR (zR (uR (zR R 86) 85 0 86) 87) 85 5 87) 88) 85 6 88) 89) 85 7 89) 90) 85 8 90) := hF27.u rfl
  exact ⟨rfl, fun z => absurd z (by decide), hQ _ _ _ hB25 hF29 hK28⟩
def lk_X2_init_91 : List (Nat × Nat × Nat) := (91, 7, 96) :: ((91, 6, 95) :: ((91, 5, 94) :: ((91, 4, 93) :: ((91, 3, 92) :: ([])))))
set_option maxHeartbeats 4000000 in
set_option maxRecDepth 100000 in
theorem ct_X2_init_91 {d : Nat} {Q : Qt} {I : Im} {J : Jm} {R : Rm} (hB : Bd I) (hQ : ∀ (I2 : Im) (J2 : Jm) (R2 : Rm), Bd I2 → FR 91 R R2 → RK lk_X2_init_91 R2 → Q 0 0 I2 J2 R2) : AM (d + 1) 27 91 [.ref 91] I J R Q := by
  refine amc_of (k := kX2_init) rfl rfl rfl rfl rfl rfl (Nat.le_of_ble_eq_true rfl) (fun P hc => ?_)
  refine cs_X2_init_91_0_91 hc _ _ _ ?_
  refine ⟨Or.inl rfl, ?_⟩
  have hB1 : Bd (uI I 91 0 0) := hB.kw rfl
  have hB2 : Bd (uI (uI I 91 0 0) 91 1 0) := hB1.kw rfl
  have hB3 : Bd (uI (uI (uI I 91 0 0) 91 1 0) 91 2 0) := hB2.kw rfl
  refine ⟨rfl, ?_⟩
  have hB4 : Bd (zI (uI (uI (uI I 91 0 0) 91 1 0) 91 2 0) 92) := hB3.z
  have hK5 : RK ([]) (zR R 92) := (RK.nil (R := R)).z rfl
  have hF6 : FR 91 R (zR R 92) := (FR.refl 91 R).z rfl
  have hK7 : RK ((91, 3, 92) :: ([])) (uR (zR R 92) 91 3 92) := hK5.u rfl
  have hF8 : FR 91 R (uR (zR R 92) 91 3 92) := hF6.u rfl
  refine ⟨rfl, ?_⟩
  have hB9 : Bd (zI (zI (uI (uI (uI I 91 0 0) 91 1 0) 91 2 0) 92) 93) := hB4.z
  have hK10 : RK ((91, 3, 92) :: ([])) (zR (uR (zR R 92) 91 3 92) 93) := hK7.z rfl
  have hF11 : FR 91 R (zR (uR (zR R 92) 91 3 92) 93) := hF8.z rfl
  have hK12 : RK ((91, 4, 93) :: ((91, 3, 92) :: ([]))) (uR (zR (uR (zR R 92) 91 3 92) 93) 91 4 93) := hK10.u rfl
  have hF13 : FR 91 R (uR (zR (uR (zR R 92) 91 3 92) 93) 91 4 93) := hF11.u rfl
  refine ⟨rfl, ?_⟩
  have hB14 : Bd (zI (zI (zI (uI (uI (uI I 91 0 0) 91 1 0) 91 2 0) 92) 93) 94) := hB9.z
  have hK15 : RK ((91, 4, 93) :: ((91, 3, 92) :: ([]))) (zR (uR (zR (uR (zR R 92) 91 3 92) 93) 91 4 93) 94) := hK12.z rfl
  have hF16 : FR 91 R (zR (uR (zR (uR (zR R 92) 91 3 92) 93) 91 4 93) 94) := hF13.z rfl
  have hK17 : RK ((91, 5, 94) :: ((91, 4, 93) :: ((91, 3, 92) :: ([])))) (uR (zR (uR (zR (uR (zR R 92) 91 3 92) 93) 91 4 93) 94) 91 5 94) := hK15.u rfl
  have hF18 : FR 91 R (uR (zR (uR (zR (uR (zR R 92) 91 3 92) 93) 91 4 93) 94) 91 5 94) := hF16.u rfl
  refine ⟨rfl, ?_⟩
  have hB19 : Bd (zI (zI (zI (zI (uI (uI (uI I 91 0 0) 91 1 0) 91 2 0) 92) 93) 94) 95) := hB14.z
  have hK20 : RK ((91, 5, 94) :: ((91, 4, 93) :: ((91, 3, 92) :: ([])))) (zR (uR (zR (uR (zR (uR (zR R 92) 91 3 92) 93) 91 4 93) 94) 91 5 94) 95) := hK17.z rfl
  have hF21 : FR 91 R (zR (uR (zR (uR (zR (uR (zR R 92) 91 3 92) 93) 91 4 93) 94) 91 5 94) 95) := hF18.z rfl
  have hK22 : RK ((91, 6, 95) :: ((91, 5, 94) :: ((91, 4, 93) :: ((91, 3, 92) :: ([]))))) (uR (zR (uR (zR (uR (zR (uR (zR R 92) 91 3 92) 93) 91 4 93) 94) 91 5 94) 95) 91 6 95) := hK20.u rfl
  have hF23 : FR 91 R (uR (zR (uR (zR (uR (zR (uR (zR R 92) 91 3 92) 93) 91 4 93) 94) 91 5 94) 95) 91 6 95) := hF21.u rfl
  refine ⟨rfl, ?_⟩
  have hB24 : Bd (zI (zI (zI (zI (zI (uI (uI (uI I 91 0 0) 91 1 0) 91 2 0) 92) 93) 94) 95) 96) := hB19.z
  have hK25 : RK ((91, 6, 95) :: ((91, 5, 94) :: ((91, 4, 93) :: ((91, 3, 92) :: ([]))))) (zR (uR (zR (uR (zR (uR (zR (uR (zR R 92) 91 3 92) 93) 91 4 93) 94) 91 5 94) 95) 91 6 95) 96) := hK22.z rfl
  have hF26 : FR 91 R (zR (uR (zR (uR (zR (uR (zR (uR (zR R 92) 91 3 92) 93) 91 4 93) 94) 91 5 94) 95) 91 6 95) 96) := hF23.z rfl
  have hK27 : RK ((91, 7, 96) :: ((91, 6, 95) :: ((91, 5, 94) :: ((91, 4, 93) :: ((91, 3, 92) :: ([])))))) (uR (zR (uR (zR (uR (zR (uR (zR (uR (zR R 92) 91 3 92) 93) 91 4 93) 94) 91 5 94) 95) 91 6 95) 96) 91 7 96) := hK25.u rfl
  have hF28 : FR 91 R (uR (zR (uR (zR (uR (zR (uR (zR (uR (zR R 92) 91 3 92) 93) 91 4 93) 94) 91 5 94) 95) 91 6 95) 96) 91 7 96) := hF26.u rfl
  exact ⟨rfl, fun z => absurd z (by decide), hQ _ _ _ hB24 hF28 hK27⟩
def lk_X11_init_1 : List (Nat × Nat × Nat) := (34, 2, 91) :: (lk_X2_init_91 ++ ((33, 2, 85) :: (lk_X0_init_85 ++ ((34, 1, 79) :: (lk_X2_init_79 ++ ((33, 1, 73) :: (lk_X0_init_73 ++ ((34, 0, 67) :: (lk_X2_init_67 ++ ((33, 0, 61) :: (lk_X0_init_61 ++ ((2, 3, 59) :: (lk_X10_init_59 ++ ((2, 2, 57) :: (lk_X10_init_57 ++ ((2, 1, 55) :: (lk_X10_init_55 ++ ((2, 0, 53) :: (lk_X10_init_53 ++ ((1, 19, 51) :: (lk_X4_init_51 ++ ((1, 18, 49) :: (lk_X4_init_49 ++ ((1, 17, 45) :: (lk_X9_init_45 ++ ((1, 16, 42) :: (lk_X5_init_42 ++ ((1, 15, 39) :: (lk_X8_init_39 ++ ((1, 14, 35) :: (lk_X7_init_35 ++ ((1, 12, 34) :: ((1, 11, 33) :: ((1, 10, 27) :: (lk_X2_init_27 ++ ((1, 9, 21) :: (lk_X2_init_21 ++ ((1, 8, 15) :: (lk_X0_init_15 ++ ((1, 7, 9) :: (lk_X0_init_9 ++ ((1, 6, 7) :: (lk_X3_init_7 ++ ((1, 5, 6) :: ((1, 4, 3) :: (lk_X6_init_3 ++ ((1, 3, 2) :: ([]))))))))))))))))))))))))))))))))))))))))))))))))
set_option maxHeartbeats 4000000 in
set_option maxRecDepth 100000 in
theorem ct_X11_init_1 {d : Nat} {Q : Qt} {I : Im} {J : Jm} {R : Rm} (hB : Bd I) (hQ : ∀ (I2 : Im) (J2 : Jm) (R2 : Rm), Bd I2 → FR 1 R R2 → RK lk_X11_init_1 R2 → Q 0 0 I2 J2 R2) : AM (d + 7) 99 1 [.ref 1] I J R Q := by
  refine amc_of (k := kX11_init) rfl rfl rfl rfl rfl rfl (Nat.le_of_ble_eq_true rfl) (fun P hc => ?_)
  refine cs_X11_init_1_0_1 hc _ _ _ ?_
  have hB1 : Bd (uI I 1 0 0) := hB.kw rfl
  refine ⟨rfl, ?_⟩
  have hB2 : Bd (zI (uI I 1 0 0) 2) := hB1.z
  have hK3 : RK ([]) (zR R 2) := (RK.nil (R := R)).z rfl
  have hF4 : FR 1 R (zR R 2) := (FR.refl 1 R).z rfl
  have hK5 : RK ((1, 3, 2) :: ([])) (uR (zR R 2) 1 3 2) := hK3.u rfl
  have hF6 : FR 1 R (uR (zR R 2) 1 3 2) := hF4.u rfl
  have hB7 : Bd (zI (zI (uI I 1 0 0) 2) 3) := hB2.z
  have hK8 : RK ((1, 3, 2) :: ([])) (zR (uR (zR R 2) 1 3 2) 3) := hK5.z rfl
  have hF9 : FR 1 R (zR (uR (zR R 2) 1 3 2) 3) := hF6.z rfl
  refine ct_X6_init_3 hB7 (fun I10 J11 R12 hB13 hF14 hK15 => ?_)
  have hK16 : RK (lk_X6_init_3 ++ ((1, 3, 2) :: ([]))) R12 := hK15.app (hK8.fr hF14 rfl)
  have hF17 : FR 1 R R12 := fun o ho => (hF14 o (by omega)).trans (hF9 o ho)
  have hK18 : RK ((1, 4, 3) :: (lk_X6_init_3 ++ ((1, 3, 2) :: ([])))) (uR R12 1 4 3) := hK16.u rfl
  have hF19 : FR 1 R (uR R12 1 4 3) := hF17.u rfl
  have hB20 : Bd (zI I10 6) := hB13.z
  have hK21 : RK ((1, 4, 3) :: (lk_X6_init_3 ++ ((1, 3, 2) :: ([])))) (zR (uR R12 1 4 3) 6) := hK18.z rfl
  have hF22 : FR 1 R (zR (uR R12 1 4 3) 6) := hF19.z rfl
  refine ct_X1_init_6 hB20 (fun I23 J24 R25 hB26 hF27 hK28 => ?_)
  subst hF27
  have hK29 : RK ((1, 5, 6) :: ((1, 4, 3) :: (lk_X6_init_3 ++ ((1, 3, 2) :: ([]))))) (uR (zR (uR R12 1 4 3) 6) 1 5 6) := hK21.u rfl
  have hF30 : FR 1 R (uR (zR (uR R12 1 4 3) 6) 1 5 6) := hF22.u rfl
  have hB31 : Bd (zI I23 7) := hB26.z
  have hK32 : RK ((1, 5, 6) :: ((1, 4, 3) :: (lk_X6_init_3 ++ ((1, 3, 2) :: ([]))))) (zR (uR (zR (uR R12 1 4 3) 6) 1 5 6) 7) := hK29.z rfl
  have hF33 : FR 1 R (zR (uR (zR (uR R12 1 4 3) 6) 1 5 6) 7) := hF30.z rfl
  refine ct_X3_init_7 hB31 (fun I34 J35 R36 hB37 hF38 hK39 => ?_)
  have hK40 : RK (lk_X3_init_7 ++ ((1, 5, 6) :: ((1, 4, 3) :: (lk_X6_init_3 ++ ((1, 3, 2) :: ([])))))) R36 := hK39.app (hK32.fr hF38 rfl)
  have hF41 : FR 1 R R36 := fun o ho => (hF38 o (by omega)).trans (hF33 o ho)
  have hK42 : RK ((1, 6, 7) :: (lk_X3_init_7 ++ ((1, 5, 6) :: ((1, 4, 3) :: (lk_X6_init_3 ++ ((1, 3, 2) :: ([]))))))) (uR R36 1 6 7) := hK40.u rfl
  have hF43 : FR 1 R (uR R36 1 6 7) := hF41.u rfl
  have hB44 : Bd (zI I34 9) := hB37.z
  have hK45 : RK ((1, 6, 7) :: (lk_X3_init_7 ++ ((1, 5, 6) :: ((1, 4, 3) :: (lk_X6_init_3 ++ ((1, 3, 2) :: ([]))))))) (zR (uR R36 1 6 7) 9) := hK42.z rfl
  have hF46 : FR 1 R (zR (uR R36 1 6 7) 9) := hF43.z rfl
  refine ct_X0_init_9 hB44 (fun I47 J48 R49 hB50 hF51 hK52 => ?_)
  have hK53 : RK (lk_X0_init_9 ++ ((1, 6, 7) :: (lk_X3_init_7 ++ ((1, 5, 6) :: ((1, 4, 3) :: (lk_X6_init_3 ++ ((1, 3, 2) :: ([])))))))) R49 := hK52.app (hK45.fr hF51 rfl)
  have hF54 : FR 1 R R49 := fun o ho => (hF51 o (by omega)).trans (hF46 o ho)
  refine ⟨by decide, ?_⟩
  have hK55 : RK ((1, 7, 9) :: (lk_X0_init_9 ++ ((1, 6, 7) :: (lk_X3_init_7 ++ ((1, 5, 6) :: ((1, 4, 3) :: (lk_X6_init_3 ++ ((1, 3, 2) :: ([]))))))))) (uR R49 1 7 9) := hK53.u rfl
  have hF56 : FR 1 R (uR R49 1 7 9) := hF54.u rfl
  have hB57 : Bd (zI I47 15) := hB50.z
  have hK58 : RK ((1, 7, 9) :: (lk_X0_init_9 ++ ((1, 6, 7) :: (lk_X3_init_7 ++ ((1, 5, 6) :: ((1, 4, 3) :: (lk_X6_init_3 ++ ((1, 3, 2) :: ([]))))))))) (zR (uR R49 1 7 9) 15) := hK55.z rfl
  have hF59 : FR 1 R (zR (uR R49 1 7 9) 15) := hF56.z rfl
  refine ct_X0_init_15 hB57 (fun I60 J61 R62 hB63 hF64 hK65 => ?_)
  have hK66 : RK (lk_X0_init_15 ++ ((1, 7, 9) :: (lk_X0_init_9 ++ ((1, 6, 7) :: (lk_X3_init_7 ++ ((1, 5, 6) :: ((1, 4, 3) :: (lk_X6_init_3 ++ ((1, 3, 2) :: ([])))))))))) R62 := hK65.app (hK58.fr hF64 rfl)
  have hF67 : FR 1 R R62 := fun o ho => (hF64 o (by omega)).trans (hF59 o ho)
  refine ⟨by decide, ?_⟩
  have hK68 : RK ((1, 8, 15) :: (lk_X0_init_15 ++ ((1, 7, 9) :: (lk_X0_init_9 ++ ((1, 6, 7) :: (lk_X3_init_7 ++ ((1, 5, 6) :: ((1, 4, 3) :: (lk_X6_init_3 ++ ((1, 3, 2) :: ([]))))))))))) (uR R62 1 8 15) := hK66.u rfl
  have hF69 : FR 1 R (uR R62 1 8 15) := hF67.u rfl
  have hB70 : Bd (zI I60 21) := hB63.z
  have hK71 : RK ((1, 8, 15) :: (lk_X0_init_15 ++ ((1, 7, 9) :: (lk_X0_init_9 ++ ((1, 6, 7) :: (lk_X3_init_7 ++ ((1, 5, 6) :: ((1, 4, 3) :: (lk_X6_init_3 ++ ((1, 3, 2) :: ([]))))))))))) (zR (uR R62 1 8 15) 21) := hK68.z rfl
  have hF72 : FR 1 R (zR (uR R62 1 8 15) 21) := hF69.z rfl
  refine ct_X2_init_21 hB70 (fun I73 J74 R75 hB76 hF77 hK78 => ?_)
  have hK79 : RK (lk_X2_init_21 ++ ((1, 8, 15) :: (lk_X0_init_15 ++ ((1, 7, 9) :: (lk_X0_init_9 ++ ((1, 6, 7) :: (lk_X3_init_7 ++ ((1, 5, 6) :: ((1, 4, 3) :: (lk_X6_init_3 ++ ((1, 3, 2) :: ([])))))))))))) R75 := hK78.app (hK71.fr hF77 rfl)
  have hF80 : FR 1 R R75 := fun o ho => (hF77 o (by omega)).trans (hF72 o ho)
  refine ⟨by decide, ?_⟩
  have hK81 : RK ((1, 9, 21) :: (lk_X2_init_21 ++ ((1, 8, 15) :: (lk_X0_init_15 ++ ((1, 7, 9) :: (lk_X0_init_9 ++ ((1, 6, 7) :: (lk_X3_init_7 ++ ((1, 5, 6) :: ((1, 4, 3) :: (lk_X6_init_3 ++ ((1, 3, 2) :: ([]))))))))))))) (uR R75 1 9 21) := hK79.u rfl
  have hF82 : FR 1 R (uR R75 1 9 21) := hF80.u rfl
  have hB83 : Bd (zI I73 27) := hB76.z
  have hK84 : RK ((1, 9, 21) :: (lk_X2_init_21 ++ ((1, 8, 15) :: (lk_X0_init_15 ++ ((1, 7, 9) :: (lk_X0_init_9 ++ ((1, 6, 7) :: (lk_X3_init_7 ++ ((1, 5, 6) :: ((1, 4, 3) :: (lk_X6_init_3 ++ ((1, 3, 2) :: ([]))))))))))))) (zR (uR R75 1 9 21) 27) := hK81.z rfl
  have hF85 : FR 1 R (zR (uR R75 1 9 21) 27) := hF82.z rfl
  refine ct_X2_init_27 hB83 (fun I86 J87 R88 hB89 hF90 hK91 => ?_)
  have hK92 : RK (lk_X2_init_27 ++ ((1, 9, 21) :: (lk_X2_init_21 ++ ((1, 8, 15) :: (lk_X0_init_15 ++ ((1, 7, 9) :: (lk_X0_init_9 ++ ((1, 6, 7) :: (lk_X3_init_7 ++ ((1, 5, 6) :: ((1, 4, 3) :: (lk_X6_init_3 ++ ((1, 3, 2) :: ([])))))))))))))) R88 := hK91.app (hK84.fr hF90 rfl)
  have hF93 : FR 1 R R88 := fun o ho => (hF90 o (by omega)).trans (hF85 o ho)
  refine ⟨by decide, ?_⟩
  have hK94 : RK ((1, 10, 27) :: (lk_X2_init_27 ++ ((1, 9, 21) :: (lk_X2_init_21 ++ ((1, 8, 15) :: (lk_X0_init_15 ++ ((1, 7, 9) :: (lk_X0_init_9 ++ ((1, 6, 7) :: (lk_X3_init_7 ++ ((1, 5, 6) :: ((1, 4, 3) :: (lk_X6_init_3 ++ ((1, 3, 2) :: ([]))))))))))))))) (uR R88 1 10 27) := hK92.u rfl
  have hF95 : FR 1 R (uR R88 1 10 27) := hF93.u rfl
  refine ⟨rfl, ?_⟩
  have hB96 : Bd (zI I86 33) := hB89.z
  have hK97 : RK ((1, 10, 27) :: (lk_X2_init_27 ++ ((1, 9, 21) :: (lk_X2_init_21 ++ ((1, 8, 15) :: (lk_X0_init_15 ++ ((1, 7, 9) :: (lk_X0_init_9 ++ ((1, 6, 7) :: (lk_X3_init_7 ++ ((1, 5, 6) :: ((1, 4, 3) :: (lk_X6_init_3 ++ ((1, 3, 2) :: ([]))))))))))))))) (zR (uR R88 1 10 27) 33) := hK94.z rfl
  have hF98 : FR 1 R (zR (uR R88 1 10 27) 33) := hF95.z rfl
  have hK99 : RK ((1, 11, 33) :: ((1, 10, 27) :: (lk_X2_init_27 ++ ((1, 9, 21) :: (lk_X2_init_21 ++ ((1, 8, 15) :: (lk_X0_init_15 ++ ((1, 7, 9) :: (lk_X0_init_9 ++ ((1, 6, 7) :: (lk_X3_init_7 ++ ((1, 5, 6) :: ((1, 4, 3) :: (lk_X6_init_3 ++ ((1, 3, 2) :: ([])))))))))))))))) (uR (zR (uR R88 1 10 27) 33) 1 11 33) := hK97.u rfl
  have hF100 : FR 1 R (uR (zR (uR R88 1 10 27) 33) 1 11 33) := hF98.u rfl
  refine ⟨rfl, ?_⟩
  have hB101 : Bd (zI (zI I86 33) 34) := hB96.z
  have hK102 : RK ((1, 11, 33) :: ((1, 10, 27) :: (lk_X2_init_27 ++ ((1, 9, 21) :: (lk_X2_init_21 ++ ((1, 8, 15) :: (lk_X0_init_15 ++ ((1, 7, 9) :: (lk_X0_init_9 ++ ((1, 6, 7) :: (lk_X3_init_7 ++ ((1, 5, 6) :: ((1, 4, 3) :: (lk_X6_init_3 ++ ((1, 3, 2) :: ([])))))))))))))))) (zR (uR (zR (uR R88 1 10 27) 33) 1 11 33) 34) := hK99.z rfl
  have hF103 : FR 1 R (zR (uR (zR (uR R88 1 10 27) 33) 1 11 33) 34) := hF100.z rfl
  have hK104 : RK ((1, 12, 34) :: ((1, 11, 33) :: ((1, 10, 27) :: (lk_X2_init_27 ++ ((1, 9, 21) :: (lk_X2_init_21 ++ ((1, 8, 15) :: (lk_X0_init_15 ++ ((1, 7, 9) :: (lk_X0_init_9 ++ ((1, 6, 7) :: (lk_X3_init_7 ++ ((1, 5, 6) :: ((1, 4, 3) :: (lk_X6_init_3 ++ ((1, 3, 2) :: ([]))))))))))))))))) (uR (zR (uR (zR (uR R88 1 10 27) 33) 1 11 33) 34) 1 12 34) := hK102.u rfl
  have hF105 : FR 1 R (uR (zR (uR (zR (uR R88 1 10 27) 33) 1 11 33) 34) 1 12 34) := hF103.u rfl
  have hB106 : Bd (uI (zI (zI I86 33) 34) 1 13 0) := hB101.kw rfl
  have hB107 : Bd (zI (uI (zI (zI I86 33) 34) 1 13 0) 35) := hB106.z
  have hK108 : RK ((1, 12, 34) :: ((1, 11, 33) :: ((1, 10, 27) :: (lk_X2_init_27 ++ ((1, 9, 21) :: (lk_X2_init_21 ++ ((1, 8, 15) :: (lk_X0_init_15 ++ ((1, 7, 9) :: (lk_X0_init_9 ++ ((1, 6, 7) :: (lk_X3_init_7 ++ ((1, 5, 6) :: ((1, 4, 3) :: (lk_X6_init_3 ++ ((1, 3, 2) :: ([]))))))))))))))))) (zR (uR (zR (uR (zR (uR R88 1 10 27) 33) 1 11 33) 34) 1 12 34) 35) := hK104.z rfl
  have hF109 : FR 1 R (zR (uR (zR (uR (zR (uR R88 1 10 27) 33) 1 11 33) 34) 1 12 34) 35) := hF105.z rfl
  refine ct_X7_init_35 hB107 (fun I110 J111 R112 hB113 hF114 hK115 => ?_)
  have hK116 : RK (lk_X7_init_35 ++ ((1, 12, 34) :: ((1, 11, 33) :: ((1, 10, 27) :: (lk_X2_init_27 ++ ((1, 9, 21) :: (lk_X2_init_21 ++ ((1, 8, 15) :: (lk_X0_init_15 ++ ((1, 7, 9) :: (lk_X0_init_9 ++ ((1, 6, 7) :: (lk_X3_init_7 ++ ((1, 5, 6) :: ((1, 4, 3) :: (lk_X6_init_3 ++ ((1, 3, 2) :: ([])))))))))))))))))) R112 := hK115.app (hK108.fr hF114 rfl)
  have hF117 : FR 1 R R112 := fun o ho => (hF114 o (by omega)).trans (hF109 o ho)
  have hK118 : RK ((1, 14, 35) :: (lk_X7_init_35 ++ ((1, 12, 34) :: ((1, 11, 33) :: ((1, 10, 27) :: (lk_X2_init_27 ++ ((1, 9, 21) :: (lk_X2_init_21 ++ ((1, 8, 15) :: (lk_X0_init_15 ++ ((1, 7, 9) :: (lk_X0_init_9 ++ ((1, 6, 7) :: (lk_X3_init_7 ++ ((1, 5, 6) :: ((1, 4, 3) :: (lk_X6_init_3 ++ ((1, 3, 2) :: ([]))))))))))))))))))) (uR R112 1 14 35) := hK116.u rfl
  have hF119 : FR 1 R (uR R112 1 14 35) := hF117.u rfl
  have hB120 : Bd (zI I110 39) := hB113.z
  have hK121 : RK ((1, 14, 35) :: (lk_X7_init_35 ++ ((1, 12, 34) :: ((1, 11, 33) :: ((1, 10, 27) :: (lk_X2_init_27 ++ ((1, 9, 21) :: (lk_X2_init_21 ++ ((1, 8, 15) :: (lk_X0_init_15 ++ ((1, 7, 9) :: (lk_X0_init_9 ++ ((1, 6, 7) :: (lk_X3_init_7 ++ ((1, 5, 6) :: ((1, 4, 3) :: (lk_X6_init_3 ++ ((1, 3, 2) :: ([]))))))))))))))))))) (zR (uR R112 1 14 35) 39) := hK118.z rfl
  have hF122 : FR 1 R (zR (uR R112 1 14 35) 39) := hF119.z rfl
  refine ct_X8_init_39 hB120 (fun I123 J124 R125 hB126 hF127 hK128 => ?_)
  have hK129 : RK (lk_X8_init_39 ++ ((1, 14, 35) :: (lk_X7_init_35 ++ ((1, 12, 34) :: ((1, 11, 33) :: ((1, 10, 27) :: (lk_X2_init_27 ++ ((1, 9, 21) :: (lk_X2_init_21 ++ ((1, 8, 15) :: (lk_X0_init_15 ++ ((1, 7, 9) :: (lk_X0_init_9 ++ ((1, 6, 7) :: (lk_X3_init_7 ++ ((1, 5, 6) :: ((1, 4, 3) :: (lk_X6_init_3 ++ ((1, 3, 2) :: ([])))))))))))))))))))) R125 := hK128.app (hK121.fr hF127 rfl)
  have hF130 : FR 1 R R125 := fun o ho => (hF127 o (by omega)).trans (hF122 o ho)
  have hK131 : RK ((1, 15, 39) :: (lk_X8_init_39 ++ ((1, 14, 35) :: (lk_X7_init_35 ++ ((1, 12, 34) :: ((1, 11, 33) :: ((1, 10, 27) :: (lk_X2_init_27 ++ ((1, 9, 21) :: (lk_X2_init_21 ++ ((1, 8, 15) :: (lk_X0_init_15 ++ ((1, 7, 9) :: (lk_X0_init_9 ++ ((1, 6, 7) :: (lk_X3_init_7 ++ ((1, 5, 6) :: ((1, 4, 3) :: (lk_X6_init_3 ++ ((1, 3, 2) :: ([]))))))))))))))))))))) (uR R125 1 15 39) := hK129.u rfl
  have hF132 : FR 1 R (uR R125 1 15 39) := hF130.u rfl
  have hB133 : Bd (zI I123 42) := hB126.z
  have hK134 : RK ((1, 15, 39) :: (lk_X8_init_39 ++ ((1, 14, 35) :: (lk_X7_init_35 ++ ((1, 12, 34) :: ((1, 11, 33) :: ((1, 10, 27) :: (lk_X2_init_27 ++ ((1, 9, 21) :: (lk_X2_init_21 ++ ((1, 8, 15) :: (lk_X0_init_15 ++ ((1, 7, 9) :: (lk_X0_init_9 ++ ((1, 6, 7) :: (lk_X3_init_7 ++ ((1, 5, 6) :: ((1, 4, 3) :: (lk_X6_init_3 ++ ((1, 3, 2) :: ([]))))))))))))))))))))) (zR (uR R125 1 15 39) 42) := hK131.z rfl
  have hF135 : FR 1 R (zR (uR R125 1 15 39) 42) := hF132.z rfl
  refine ct_X5_init_42 hB133 (fun I136 J137 R138 hB139 hF140 hK141 => ?_)
  have hK142 : RK (lk_X5_init_42 ++ ((1, 15, 39) :: (lk_X8_init_39 ++ ((1, 14, 35) :: (lk_X7_init_35 ++ ((1, 12, 34) :: ((1, 11, 33) :: ((1, 10, 27) :: (lk_X2_init_27 ++ ((1, 9, 21) :: (lk_X2_init_21 ++ ((1, 8, 15) :: (lk_X0_init_15 ++ ((1, 7, 9) :: (lk_X0_init_9 ++ ((1, 6, 7) :: (lk_X3_init_7 ++ ((1, 5, 6) :: ((1, 4, 3) :: (lk_X6_init_3 ++ ((1, 3, 2) :: ([])))))))))))))))))))))) R138 := hK141.app (hK134.fr hF140 rfl)
  have hF143 : FR 1 R R138 := fun o ho => (hF140 o (by omega)).trans (hF135 o ho)
  have hK144 : RK ((1, 16, 42) :: (lk_X5_init_42 ++ ((1, 15, 39) :: (lk_X8_init_39 ++ ((1, 14, 35) :: (lk_X7_init_35 ++ ((1, 12, 34) :: ((1, 11, 33) :: ((1, 10, 27) :: (lk_X2_init_27 ++ ((1, 9, 21) :: (lk_X2_init_21 ++ ((1, 8, 15) :: (lk_X0_init_15 ++ ((1, 7, 9) :: (lk_X0_init_9 ++ ((1, 6, 7) :: (lk_X3_init_7 ++ ((1, 5, 6) :: ((1, 4, 3) :: (lk_X6_init_3 ++ ((1, 3, 2) :: ([]))))))))))))))))))))))) (uR R138 1 16 42) := hK142.u rfl
  have hF145 : FR 1 R (uR R138 1 16 42) := hF143.u rfl
  have hB146 : Bd (zI I136 45) := hB139.z
  have hK147 : RK ((1, 16, 42) :: (lk_X5_init_42 ++ ((1, 15, 39) :: (lk_X8_init_39 ++ ((1, 14, 35) :: (lk_X7_init_35 ++ ((1, 12, 34) :: ((1, 11, 33) :: ((1, 10, 27) :: (lk_X2_init_27 ++ ((1, 9, 21) :: (lk_X2_init_21 ++ ((1, 8, 15) :: (lk_X0_init_15 ++ ((1, 7, 9) :: (lk_X0_init_9 ++ ((1, 6, 7) :: (lk_X3_init_7 ++ ((1, 5, 6) :: ((1, 4, 3) :: (lk_X6_init_3 ++ ((1, 3, 2) :: ([]))))))))))))))))))))))) (zR (uR R138 1 16 42) 45) := hK144.z rfl
  have hF148 : FR 1 R (zR (uR R138 1 16 42) 45) := hF145.z rfl
  refine ct_X9_init_45 hB146 (fun I149 J150 R151 hB152 hF153 hK154 => ?_)
  have hK155 : RK (lk_X9_init_45 ++ ((1, 16, 42) :: (lk_X5_init_42 ++ ((1, 15, 39) :: (lk_X8_init_39 ++ ((1, 14, 35) :: (lk_X7_init_35 ++ ((1, 12, 34) :: ((1, 11, 33) :: ((1, 10, 27) :: (lk_X2_init_27 ++ ((1, 9, 21) :: (lk_X2_init_21 ++ ((1, 8, 15) :: (lk_X0_init_15 ++ ((1, 7, 9) :: (lk_X0_init_9 ++ ((1, 6, 7) :: (lk_X3_init_7 ++ ((1, 5, 6) :: ((1, 4, 3) :: (lk_X6_init_3 ++ ((1, 3, 2) :: ([])))))))))))))))))))))))) R151 := hK154.app (hK147.fr hF153 rfl)
  have hF156 : FR 1 R R151 := fun o ho => (hF153 o (by omega)).trans (hF148 o ho)
  have hK157 : RK ((1, 17, 45) :: (lk_X9_init_45 ++ ((1, 16, 42) :: (lk_X5_init_42 ++ ((1, 15, 39) :: (lk_X8_init_39 ++ ((1, 14, 35) :: (lk_X7_init_35 ++ ((1, 12, 34) :: ((1, 11, 33) :: ((1, 10, 27) :: (lk_X2_init_27 ++ ((1, 9, 21) :: (lk_X2_init_21 ++ ((1, 8, 15) :: (lk_X0_init_15 ++ ((1, 7, 9) :: (lk_X0_init_9 ++ ((1, 6, 7) :: (lk_X3_init_7 ++ ((1, 5, 6) :: ((1, 4, 3) :: (lk_X6_init_3 ++ ((1, 3, 2) :: ([]))))))))))))))))))))))))) (uR R151 1 17 45) := hK155.u rfl
  have hF158 : FR 1 R (uR R151 1 17 45) := hF156.u rfl
  have hB159 : Bd (zI I149 49) := hB152.z
  have hK160 : RK ((1, 17, 45) :: (lk_X9_init_45 ++ ((1, 16, 42) :: (lk_X5_init_42 ++ ((1, 15, 39) :: (lk_X8_init_39 ++ ((1, 14, 35) :: (lk_X7_init_35 ++ ((1, 12, 34) :: ((1, 11, 33) :: ((1, 10, 27) :: (lk_X2_init_27 ++ ((1, 9, 21) :: (lk_X2_init_21 ++ ((1, 8, 15) :: (lk_X0_init_15 ++ ((1, 7, 9) :: (lk_X0_init_9 ++ ((1, 6, 7) :: (lk_X3_init_7 ++ ((1, 5, 6) :: ((1, 4, 3) :: (lk_X6_init_3 ++ ((1, 3, 2) :: ([]))))))))))))))))))))))))) (zR (uR R151 1 17 45) 49) := hK157.z rfl
  have hF161 : FR 1 R (zR (uR R151 1 17 45) 49) := hF158.z rfl
  refine ct_X4_init_49 hB159 (fun I162 J163 R164 hB165 hF166 hK167 => ?_)
  have hK168 : RK (lk_X4_init_49 ++ ((1, 17, 45) :: (lk_X9_init_45 ++ ((1, 16, 42) :: (lk_X5_init_42 ++ ((1, 15, 39) :: (lk_X8_init_39 ++ ((1, 14, 35) :: (lk_X7_init_35 ++ ((1, 12, 34) :: ((1, 11, 33) :: ((1, 10, 27) :: (lk_X2_init_27 ++ ((1, 9, 21) :: (lk_X2_init_21 ++ ((1, 8, 15) :: (lk_X0_init_15 ++ ((1, 7, 9) :: (lk_X0_init_9 ++ ((1, 6, 7) :: (lk_X3_init_7 ++ ((1, 5, 6) :: ((1, 4, 3) :: (lk_X6_init_3 ++ ((1, 3, 2) :: ([])))))))))))))))))))))))))) R164 := hK167.app (hK160.fr hF166 rfl)
  have hF169 : FR 1 R R164 := fun o ho => (hF166 o (by omega)).trans (hF161 o ho)
  have hK170 : RK ((1, 18, 49) :: (lk_X4_init_49 ++ ((1, 17, 45) :: (lk_X9_init_45 ++ ((1, 16, 42) :: (lk_X5_init_42 ++ ((1, 15, 39) :: (lk_X8_init_39 ++ ((1, 14, 35) :: (lk_X7_init_35 ++ ((1, 12, 34) :: ((1, 11, 33) :: ((1, 10, 27) :: (lk_X2_init_27 ++ ((1, 9, 21) :: (lk_X2_init_21 ++ ((1, 8, 15) :: (lk_X0_init_15 ++ ((1, 7, 9) :: (lk_X0_init_9 ++ ((1, 6, 7) :: (lk_X3_init_7 ++ ((1, 5, 6) :: ((1, 4, 3) :: (lk_X6_init_3 ++ ((1, 3, 2) :: ([]))))))))))))))))))))))))))) (uR R164 1 18 49) := hK168.u rfl
  have hF171 : FR 1 R (uR R164 1 18 49) := hF169.u rfl
  have hB172 : Bd (zI I162 51) := hB165.z
  have hK173 : RK ((1, 18, 49) :: (lk_X4_init_49 ++ ((1, 17, 45) :: (lk_X9_init_45 ++ ((1, 16, 42) :: (lk_X5_init_42 ++ ((1, 15, 39) :: (lk_X8_init_39 ++ ((1, 14, 35) :: (lk_X7_init_35 ++ ((1, 12, 34) :: ((1, 11, 33) :: ((1, 10, 27) :: (lk_X2_init_27 ++ ((1, 9, 21) :: (lk_X2_init_21 ++ ((1, 8, 15) :: (lk_X0_init_15 ++ ((1, 7, 9) :: (lk_X0_init_9 ++ ((1, 6, 7) :: (lk_X3_init_7 ++ ((1, 5, 6) :: ((1, 4, 3) :: (lk_X6_init_3 ++ ((1, 3, 2) :: ([]))))))))))))))))))))))))))) (zR (uR R164 1 18 49) 51) := hK170.z rfl
  have hF174 : FR 1 R (zR (uR R164 1 18 49) 51) := hF171.z rfl
  refine ct_X4_init_51 hB172 (fun I175 J176 R177 hB178 hF179 hK180 => ?_)
  have hK181 : RK (lk_X4_init_51 ++ ((1, 18, 49) :: (lk_X4_init_49 ++ ((1, 17, 45) :: (lk_X9_init_45 ++ ((1, 16, 42) :: (lk_X5_init_42 ++ ((1, 15, 39) :: (lk_X8_init_39 ++ ((1, 14, 35) :: (lk_X7_init_35 ++ ((1, 12, 34) :: ((1, 11, 33) :: ((1, 10, 27) :: (lk_X2_init_27 ++ ((1, 9, 21) :: (lk_X2_init_21 ++ ((1, 8, 15) :: (lk_X0_init_15 ++ ((1, 7, 9) :: (lk_X0_init_9 ++ ((1, 6, 7) :: (lk_X3_init_7 ++ ((1, 5, 6) :: ((1, 4, 3) :: (lk_X6_init_3 ++ ((1, 3, 2) :: ([])))))))))))))))))))))))))))) R177 := hK180.app (hK173.fr hF179 rfl)
  have hF182 : FR 1 R R177 := fun o ho => (hF179 o (by omega)).trans (hF174 o ho)
  have hK183 : RK ((1, 19, 51) :: (lk_X4_init_51 ++ ((1, 18, 49) :: (lk_X4_init_49 ++ ((1, 17, 45) :: (lk_X9_init_45 ++ ((1, 16, 42) :: (lk_X5_init_42 ++ ((1, 15, 39) :: (lk_X8_init_39 ++ ((1, 14, 35) :: (lk_X7_init_35 ++ ((1, 12, 34) :: ((1, 11, 33) :: ((1, 10, 27) :: (lk_X2_init_27 ++ ((1, 9, 21) :: (lk_X2_init_21 ++ ((1, 8, 15) :: (lk_X0_init_15 ++ ((1, 7, 9) :: (lk_X0_init_9 ++ ((1, 6, 7) :: (lk_X3_init_7 ++ ((1, 5, 6) :: ((1, 4, 3) :: (lk_X6_init_3 ++ ((1, 3, 2) :: ([]))))))))))))))))))))))))))))) (uR R177 1 19 51) := hK181.u rfl
  have hF184 : FR 1 R (uR R177 1 19 51) := hF182.u rfl
  refine cs_X11_init_1_193_52 hc _ _ _ ?_
  refine ⟨fun c => absurd c (by decide), fun _ => ?_⟩
  refine ⟨hK183.ne (show lkq ((1, 19, 51) :: (lk_X4_init_51 ++ ((1, 18, 49) :: (lk_X4_init_49 ++ ((1, 17, 45) :: (lk_X9_init_45 ++ ((1, 16, 42) :: (lk_X5_init_42 ++ ((1, 15, 39) :: (lk_X8_init_39 ++ ((1, 14, 35) :: (lk_X7_init_35 ++ ((1, 12, 34) :: ((1, 11, 33) :: ((1, 10, 27) :: (lk_X2_init_27 ++ ((1, 9, 21) :: (lk_X2_init_21 ++ ((1, 8, 15) :: (lk_X0_init_15 ++ ((1, 7, 9) :: (lk_X0_init_9 ++ ((1, 6, 7) :: (lk_X3_init_7 ++ ((1, 5, 6) :: ((1, 4, 3) :: (lk_X6_init_3 ++ ((1, 3, 2) :: ([]))))))))))))))))))))))))))))) 1 3 = true from rfl), ?_⟩
  have hB185 : Bd (zI I175 53) := hB178.z
  have hK186 : RK ((1, 19, 51) :: (lk_X4_init_51 ++ ((1, 18, 49) :: (lk_X4_init_49 ++ ((1, 17, 45) :: (lk_X9_init_45 ++ ((1, 16, 42) :: (lk_X5_init_42 ++ ((1, 15, 39) :: (lk_X8_init_39 ++ ((1, 14, 35) :: (lk_X7_init_35 ++ ((1, 12, 34) :: ((1, 11, 33) :: ((1, 10, 27) :: (lk_X2_init_27 ++ ((1, 9, 21) :: (lk_X2_init_21 ++ ((1, 8, 15) :: (lk_X0_init_15 ++ ((1, 7, 9) :: (lk_X0_init_9 ++ ((1, 6, 7) :: (lk_X3_init_7 ++ ((1, 5, 6) :: ((1, 4, 3) :: (lk_X6_init_3 ++ ((1, 3, 2) :: ([]))))))))))))))))))))))))))))) (zR (uR R177 1 19 51) 53) := hK183.z rfl
  have hF187 : FR 1 R (zR (uR R177 1 19 51) 53) := hF184.z rfl
  refine ct_X10_init_53 hB185 (fun I188 J189 R190 hB191 hF192 hK193 => ?_)
  have hK194 : RK (lk_X10_init_53 ++ ((1, 19, 51) :: (lk_X4_init_51 ++ ((1, 18, 49) :: (lk_X4_init_49 ++ ((1, 17, 45) :: (lk_X9_init_45 ++ ((1, 16, 42) :: (lk_X5_init_42 ++ ((1, 15, 39) :: (lk_X8_init_39 ++ ((1, 14, 35) :: (lk_X7_init_35 ++ ((1, 12, 34) :: ((1, 11, 33) :: ((1, 10, 27) :: (lk_X2_init_27 ++ ((1, 9, 21) :: (lk_X2_init_21 ++ ((1, 8, 15) :: (lk_X0_init_15 ++ ((1, 7, 9) :: (lk_X0_init_9 ++ ((1, 6, 7) :: (lk_X3_init_7 ++ ((1, 5, 6) :: ((1, 4, 3) :: (lk_X6_init_3 ++ ((1, 3, 2) :: ([])))))))))))))))))))))))))))))) R190 := hK193.app (hK186.fr hF192 rfl)
  have hF195 : FR 1 R R190 := fun o ho => (hF192 o (by omega)).trans (hF187 o ho)
  refine ⟨vp_of rfl (by decide) (by decide), ?_⟩
  have hK196 : RK ((2, 0, 53) :: (lk_X10_init_53 ++ ((1, 19, 51) :: (lk_X4_init_51 ++ ((1, 18, 49) :: (lk_X4_init_49 ++ ((1, 17, 45) :: (lk_X9_init_45 ++ ((1, 16, 42) :: (lk_X5_init_42 ++ ((1, 15, 39) :: (lk_X8_init_39 ++ ((1, 14, 35) :: (lk_X7_init_35 ++ ((1, 12, 34) :: ((1, 11, 33) :: ((1, 10, 27) :: (lk_X2_init_27 ++ ((1, 9, 21) :: (lk_X2_init_21 ++ ((1, 8, 15) :: (lk_X0_init_15 ++ ((1, 7, 9) :: (lk_X0_init_9 ++ ((1, 6, 7) :: (lk_X3_init_7 ++ ((1, 5, 6) :: ((1, 4, 3) :: (lk_X6_init_3 ++ ((1, 3, 2) :: ([]))))))))))))))))))))))))))))))) (uR R190 2 (Int32.toNatClampNeg 0) 53) := hK194.u rfl
  have hF197 : FR 1 R (uR R190 2 (Int32.toNatClampNeg 0) 53) := hF195.u rfl
  refine cs_X11_init_1_193_54 hc _ _ _ ?_
  refine ⟨fun c => absurd c (by decide), fun _ => ?_⟩
  refine ⟨hK196.ne (show lkq ((2, 0, 53) :: (lk_X10_init_53 ++ ((1, 19, 51) :: (lk_X4_init_51 ++ ((1, 18, 49) :: (lk_X4_init_49 ++ ((1, 17, 45) :: (lk_X9_init_45 ++ ((1, 16, 42) :: (lk_X5_init_42 ++ ((1, 15, 39) :: (lk_X8_init_39 ++ ((1, 14, 35) :: (lk_X7_init_35 ++ ((1, 12, 34) :: ((1, 11, 33) :: ((1, 10, 27) :: (lk_X2_init_27 ++ ((1, 9, 21) :: (lk_X2_init_21 ++ ((1, 8, 15) :: (lk_X0_init_15 ++ ((1, 7, 9) :: (lk_X0_init_9 ++ ((1, 6, 7) :: (lk_X3_init_7 ++ ((1, 5, 6) :: ((1, 4, 3) :: (lk_X6_init_3 ++ ((1, 3, 2) :: ([]))))))))))))))))))))))))))))))) 1 3 = true from rfl), ?_⟩
  have hB198 : Bd (zI I188 55) := hB191.z
  have hK199 : RK ((2, 0, 53) :: (lk_X10_init_53 ++ ((1, 19, 51) :: (lk_X4_init_51 ++ ((1, 18, 49) :: (lk_X4_init_49 ++ ((1, 17, 45) :: (lk_X9_init_45 ++ ((1, 16, 42) :: (lk_X5_init_42 ++ ((1, 15, 39) :: (lk_X8_init_39 ++ ((1, 14, 35) :: (lk_X7_init_35 ++ ((1, 12, 34) :: ((1, 11, 33) :: ((1, 10, 27) :: (lk_X2_init_27 ++ ((1, 9, 21) :: (lk_X2_init_21 ++ ((1, 8, 15) :: (lk_X0_init_15 ++ ((1, 7, 9) :: (lk_X0_init_9 ++ ((1, 6, 7) :: (lk_X3_init_7 ++ ((1, 5, 6) :: ((1, 4, 3) :: (lk_X6_init_3 ++ ((1, 3, 2) :: ([]))))))))))))))))))))))))))))))) (zR (uR R190 2 (Int32.toNatClampNeg 0) 53) 55) := hK196.z rfl
  have hF200 : FR 1 R (zR (uR R190 2 (Int32.toNatClampNeg 0) 53) 55) := hF197.z rfl
  refine ct_X10_init_55 hB198 (fun I201 J202 R203 hB204 hF205 hK206 => ?_)
  have hK207 : RK (lk_X10_init_55 ++ ((2, 0, 53) :: (lk_X10_init_53 ++ ((1, 19, 51) :: (lk_X4_init_51 ++ ((1, 18, 49) :: (lk_X4_init_49 ++ ((1, 17, 45) :: (lk_X9_init_45 ++ ((1, 16, 42) :: (lk_X5_init_42 ++ ((1, 15, 39) :: (lk_X8_init_39 ++ ((1, 14, 35) :: (lk_X7_init_35 ++ ((1, 12, 34) :: ((1, 11, 33) :: ((1, 10, 27) :: (lk_X2_init_27 ++ ((1, 9, 21) :: (lk_X2_init_21 ++ ((1, 8, 15) :: (lk_X0_init_15 ++ ((1, 7, 9) :: (lk_X0_init_9 ++ ((1, 6, 7) :: (lk_X3_init_7 ++ ((1, 5, 6) :: ((1, 4, 3) :: (lk_X6_init_3 ++ ((1, 3, 2) :: ([])))))))))))))))))))))))))))))))) R203 := hK206.app (hK199.fr hF205 rfl)
  have hF208 : FR 1 R R203 := fun o ho => (hF205 o (by omega)).trans (hF200 o ho)
  refine ⟨vp_of rfl (by decide) (by decide), ?_⟩
  have hK209 : RK ((2, 1, 55) :: (lk_X10_init_55 ++ ((2, 0, 53) :: (lk_X10_init_53 ++ ((1, 19, 51) :: (lk_X4_init_51 ++ ((1, 18, 49) :: (lk_X4_init_49 ++ ((1, 17, 45) :: (lk_X9_init_45 ++ ((1, 16, 42) :: (lk_X5_init_42 ++ ((1, 15, 39) :: (lk_X8_init_39 ++ ((1, 14, 35) :: (lk_X7_init_35 ++ ((1, 12, 34) :: ((1, 11, 33) :: ((1, 10, 27) :: (lk_X2_init_27 ++ ((1, 9, 21) :: (lk_X2_init_21 ++ ((1, 8, 15) :: (lk_X0_init_15 ++ ((1, 7, 9) :: (lk_X0_init_9 ++ ((1, 6, 7) :: (lk_X3_init_7 ++ ((1, 5, 6) :: ((1, 4, 3) :: (lk_X6_init_3 ++ ((1, 3, 2) :: ([]))))))))))))))))))))))))))))))))) (uR R203 2 (Int32.toNatClampNeg (0 + 1)) 55) := hK207.u rfl
  have hF210 : FR 1 R (uR R203 2 (Int32.toNatClampNeg (0 + 1)) 55) := hF208.u rfl
  refine cs_X11_init_1_193_56 hc _ _ _ ?_
  refine ⟨fun c => absurd c (by decide), fun _ => ?_⟩
  refine ⟨hK209.ne (show lkq ((2, 1, 55) :: (lk_X10_init_55 ++ ((2, 0, 53) :: (lk_X10_init_53 ++ ((1, 19, 51) :: (lk_X4_init_51 ++ ((1, 18, 49) :: (lk_X4_init_49 ++ ((1, 17, 45) :: (lk_X9_init_45 ++ ((1, 16, 42) :: (lk_X5_init_42 ++ ((1, 15, 39) :: (lk_X8_init_39 ++ ((1, 14, 35) :: (lk_X7_init_35 ++ ((1, 12, 34) :: ((1, 11, 33) :: ((1, 10, 27) :: (lk_X2_init_27 ++ ((1, 9, 21) :: (lk_X2_init_21 ++ ((1, 8, 15) :: (lk_X0_init_15 ++ ((1, 7, 9) :: (lk_X0_init_9 ++ ((1, 6, 7) :: (lk_X3_init_7 ++ ((1, 5, 6) :: ((1, 4, 3) :: (lk_X6_init_3 ++ ((1, 3, 2) :: ([]))))))))))))))))))))))))))))))))) 1 3 = true from rfl), ?_⟩
  have hB211 : Bd (zI I201 57) := hB204.z
  have hK212 : RK ((2, 1, 55) :: (lk_X10_init_55 ++ ((2, 0, 53) :: (lk_X10_init_53 ++ ((1, 19, 51) :: (lk_X4_init_51 ++ ((1, 18, 49) :: (lk_X4_init_49 ++ ((1, 17, 45) :: (lk_X9_init_45 ++ ((1, 16, 42) :: (lk_X5_init_42 ++ ((1, 15, 39) :: (lk_X8_init_39 ++ ((1, 14, 35) :: (lk_X7_init_35 ++ ((1, 12, 34) :: ((1, 11, 33) :: ((1, 10, 27) :: (lk_X2_init_27 ++ ((1, 9, 21) :: (lk_X2_init_21 ++ ((1, 8, 15) :: (lk_X0_init_15 ++ ((1, 7, 9) :: (lk_X0_init_9 ++ ((1, 6, 7) :: (lk_X3_init_7 ++ ((1, 5, 6) :: ((1, 4, 3) :: (lk_X6_init_3 ++ ((1, 3, 2) :: ([]))))))))))))))))))))))))))))))))) (zR (uR R203 2 (Int32.toNatClampNeg (0 + 1)) 55) 57) := hK209.z rfl
  have hF213 : FR 1 R (zR (uR R203 2 (Int32.toNatClampNeg (0 + 1)) 55) 57) := hF210.z rfl
  refine ct_X10_init_57 hB211 (fun I214 J215 R216 hB217 hF218 hK219 => ?_)
  have hK220 : RK (lk_X10_init_57 ++ ((2, 1, 55) :: (lk_X10_init_55 ++ ((2, 0, 53) :: (lk_X10_init_53 ++ ((1, 19, 51) :: (lk_X4_init_51 ++ ((1, 18, 49) :: (lk_X4_init_49 ++ ((1, 17, 45) :: (lk_X9_init_45 ++ ((1, 16, 42) :: (lk_X5_init_42 ++ ((1, 15, 39) :: (lk_X8_init_39 ++ ((1, 14, 35) :: (lk_X7_init_35 ++ ((1, 12, 34) :: ((1, 11, 33) :: ((1, 10, 27) :: (lk_X2_init_27 ++ ((1, 9, 21) :: (lk_X2_init_21 ++ ((1, 8, 15) :: (lk_X0_init_15 ++ ((1, 7, 9) :: (lk_X0_init_9 ++ ((1, 6, 7) :: (lk_X3_init_7 ++ ((1, 5, 6) :: ((1, 4, 3) :: (lk_X6_init_3 ++ ((1, 3, 2) :: ([])))))))))))))))))))))))))))))))))) R216 := hK219.app (hK212.fr hF218 rfl)
  have hF221 : FR 1 R R216 := fun o ho => (hF218 o (by omega)).trans (hF213 o ho)
  refine ⟨vp_of rfl (by decide) (by decide), ?_⟩
  have hK222 : RK ((2, 2, 57) :: (lk_X10_init_57 ++ ((2, 1, 55) :: (lk_X10_init_55 ++ ((2, 0, 53) :: (lk_X10_init_53 ++ ((1, 19, 51) :: (lk_X4_init_51 ++ ((1, 18, 49) :: (lk_X4_init_49 ++ ((1, 17, 45) :: (lk_X9_init_45 ++ ((1, 16, 42) :: (lk_X5_init_42 ++ ((1, 15, 39) :: (lk_X8_init_39 ++ ((1, 14, 35) :: (lk_X7_init_35 ++ ((1, 12, 34) :: ((1, 11, 33) :: ((1, 10, 27) :: (lk_X2_init_27 ++ ((1, 9, 21) :: (lk_X2_init_21 ++ ((1, 8, 15) :: (lk_X0_init_15 ++ ((1, 7, 9) :: (lk_X0_init_9 ++ ((1, 6, 7) :: (lk_X3_init_7 ++ ((1, 5, 6) :: ((1, 4, 3) :: (lk_X6_init_3 ++ ((1, 3, 2) :: ([]))))))))))))))))))))))))))))))))))) (uR R216 2 (Int32.toNatClampNeg ((0 + 1) + 1)) 57) := hK220.u rfl
  have hF223 : FR 1 R (uR R216 2 (Int32.toNatClampNeg ((0 + 1) + 1)) 57) := hF221.u rfl
  refine cs_X11_init_1_193_58 hc _ _ _ ?_
  refine ⟨fun c => absurd c (by decide), fun _ => ?_⟩
  refine ⟨hK222.ne (show lkq ((2, 2, 57) :: (lk_X10_init_57 ++ ((2, 1, 55) :: (lk_X10_init_55 ++ ((2, 0, 53) :: (lk_X10_init_53 ++ ((1, 19, 51) :: (lk_X4_init_51 ++ ((1, 18, 49) :: (lk_X4_init_49 ++ ((1, 17, 45) :: (lk_X9_init_45 ++ ((1, 16, 42) :: (lk_X5_init_42 ++ ((1, 15, 39) :: (lk_X8_init_39 ++ ((1, 14, 35) :: (lk_X7_init_35 ++ ((1, 12, 34) :: ((1, 11, 33) :: ((1, 10, 27) :: (lk_X2_init_27 ++ ((1, 9, 21) :: (lk_X2_init_21 ++ ((1, 8, 15) :: (lk_X0_init_15 ++ ((1, 7, 9) :: (lk_X0_init_9 ++ ((1, 6, 7) :: (lk_X3_init_7 ++ ((1, 5, 6) :: ((1, 4, 3) :: (lk_X6_init_3 ++ ((1, 3, 2) :: ([]))))))))))))))))))))))))))))))))))) 1 3 = true from rfl), ?_⟩
  have hB224 : Bd (zI I214 59) := hB217.z
  have hK225 : RK ((2, 2, 57) :: (lk_X10_init_57 ++ ((2, 1, 55) :: (lk_X10_init_55 ++ ((2, 0, 53) :: (lk_X10_init_53 ++ ((1, 19, 51) :: (lk_X4_init_51 ++ ((1, 18, 49) :: (lk_X4_init_49 ++ ((1, 17, 45) :: (lk_X9_init_45 ++ ((1, 16, 42) :: (lk_X5_init_42 ++ ((1, 15, 39) :: (lk_X8_init_39 ++ ((1, 14, 35) :: (lk_X7_init_35 ++ ((1, 12, 34) :: ((1, 11, 33) :: ((1, 10, 27) :: (lk_X2_init_27 ++ ((1, 9, 21) :: (lk_X2_init_21 ++ ((1, 8, 15) :: (lk_X0_init_15 ++ ((1, 7, 9) :: (lk_X0_init_9 ++ ((1, 6, 7) :: (lk_X3_init_7 ++ ((1, 5, 6) :: ((1, 4, 3) :: (lk_X6_init_3 ++ ((1, 3, 2) :: ([]))))))))))))))))))))))))))))))))))) (zR (uR R216 2 (Int32.toNatClampNeg ((0 + 1) + 1)) 57) 59) := hK222.z rfl
  have hF226 : FR 1 R (zR (uR R216 2 (Int32.toNatClampNeg ((0 + 1) + 1)) 57) 59) := hF223.z rfl
  refine ct_X10_init_59 hB224 (fun I227 J228 R229 hB230 hF231 hK232 => ?_)
  have hK233 : RK (lk_X10_init_59 ++ ((2, 2, 57) :: (lk_X10_init_57 ++ ((2, 1, 55) :: (lk_X10_init_55 ++ ((2, 0, 53) :: (lk_X10_init_53 ++ ((1, 19, 51) :: (lk_X4_init_51 ++ ((1, 18, 49) :: (lk_X4_init_49 ++ ((1, 17, 45) :: (lk_X9_init_45 ++ ((1, 16, 42) :: (lk_X5_init_42 ++ ((1, 15, 39) :: (lk_X8_init_39 ++ ((1, 14, 35) :: (lk_X7_init_35 ++ ((1, 12, 34) :: ((1, 11, 33) :: ((1, 10, 27) :: (lk_X2_init_27 ++ ((1, 9, 21) :: (lk_X2_init_21 ++ ((1, 8, 15) :: (lk_X0_init_15 ++ ((1, 7, 9) :: (lk_X0_init_9 ++ ((1, 6, 7) :: (lk_X3_init_7 ++ ((1, 5, 6) :: ((1, 4, 3) :: (lk_X6_init_3 ++ ((1, 3, 2) :: ([])))))))))))))))))))))))))))))))))))) R229 := hK232.app (hK225.fr hF231 rfl)
  have hF234 : FR 1 R R229 := fun o ho => (hF231 o (by omega)).trans (hF226 o ho)
  refine ⟨vp_of rfl (by decide) (by decide), ?_⟩
  have hK235 : RK ((2, 3, 59) :: (lk_X10_init_59 ++ ((2, 2, 57) :: (lk_X10_init_57 ++ ((2, 1, 55) :: (lk_X10_init_55 ++ ((2, 0, 53) :: (lk_X10_init_53 ++ ((1, 19, 51) :: (lk_X4_init_51 ++ ((1, 18, 49) :: (lk_X4_init_49 ++ ((1, 17, 45) :: (lk_X9_init_45 ++ ((1, 16, 42) :: (lk_X5_init_42 ++ ((1, 15, 39) :: (lk_X8_init_39 ++ ((1, 14, 35) :: (lk_X7_init_35 ++ ((1, 12, 34) :: ((1, 11, 33) :: ((1, 10, 27) :: (lk_X2_init_27 ++ ((1, 9, 21) :: (lk_X2_init_21 ++ ((1, 8, 15) :: (lk_X0_init_15 ++ ((1, 7, 9) :: (lk_X0_init_9 ++ ((1, 6, 7) :: (lk_X3_init_7 ++ ((1, 5, 6) :: ((1, 4, 3) :: (lk_X6_init_3 ++ ((1, 3, 2) :: ([]))))))))))))))))))))))))))))))))))))) (uR R229 2 (Int32.toNatClampNeg (((0 + 1) + 1) + 1)) 59) := hK233.u rfl
  have hF236 : FR 1 R (uR R229 2 (Int32.toNatClampNeg (((0 + 1) + 1) + 1)) 59) := hF234.u rfl
  refine cs_X11_init_1_193_60 hc _ _ _ ?_
  refine ⟨fun _ => ?_, fun c => absurd (by decide) c⟩
  refine cs_X11_init_1_219_60 hc _ _ _ ?_
  refine ⟨fun c => absurd c (by decide), fun _ => ?_⟩
  refine ⟨hK235.ne (show lkq ((2, 3, 59) :: (lk_X10_init_59 ++ ((2, 2, 57) :: (lk_X10_init_57 ++ ((2, 1, 55) :: (lk_X10_init_55 ++ ((2, 0, 53) :: (lk_X10_init_53 ++ ((1, 19, 51) :: (lk_X4_init_51 ++ ((1, 18, 49) :: (lk_X4_init_49 ++ ((1, 17, 45) :: (lk_X9_init_45 ++ ((1, 16, 42) :: (lk_X5_init_42 ++ ((1, 15, 39) :: (lk_X8_init_39 ++ ((1, 14, 35) :: (lk_X7_init_35 ++ ((1, 12, 34) :: ((1, 11, 33) :: ((1, 10, 27) :: (lk_X2_init_27 ++ ((1, 9, 21) :: (lk_X2_init_21 ++ ((1, 8, 15) :: (lk_X0_init_15 ++ ((1, 7, 9) :: (lk_X0_init_9 ++ ((1, 6, 7) :: (lk_X3_init_7 ++ ((1, 5, 6) :: ((1, 4, 3) :: (lk_X6_init_3 ++ ((1, 3, 2) :: ([]))))))))))))))))))))))))))))))))))))) 1 11 = true from rfl), ?_⟩
  have hB237 : Bd (zI I227 61) := hB230.z
  have hK238 : RK ((2, 3, 59) :: (lk_X10_init_59 ++ ((2, 2, 57) :: (lk_X10_init_57 ++ ((2, 1, 55) :: (lk_X10_init_55 ++ ((2, 0, 53) :: (lk_X10_init_53 ++ ((1, 19, 51) :: (lk_X4_init_51 ++ ((1, 18, 49) :: (lk_X4_init_49 ++ ((1, 17, 45) :: (lk_X9_init_45 ++ ((1, 16, 42) :: (lk_X5_init_42 ++ ((1, 15, 39) :: (lk_X8_init_39 ++ ((1, 14, 35) :: (lk_X7_init_35 ++ ((1, 12, 34) :: ((1, 11, 33) :: ((1, 10, 27) :: (lk_X2_init_27 ++ ((1, 9, 21) :: (lk_X2_init_21 ++ ((1, 8, 15) :: (lk_X0_init_15 ++ ((1, 7, 9) :: (lk_X0_init_9 ++ ((1, 6, 7) :: (lk_X3_init_7 ++ ((1, 5, 6) :: ((1, 4, 3) :: (lk_X6_init_3 ++ ((1, 3, 2) :: ([]))))))))))))))))))))))))))))))))))))) (zR (uR R229 2 (Int32.toNatClampNeg (((0 + 1) + 1) + 1)) 59) 61) := hK235.z rfl
  have hF239 : FR 1 R (zR (uR R229 2 (Int32.toNatClampNeg (((0 + 1) + 1) + 1)) 59) 61) := hF236.z rfl
  refine ct_X0_init_61 hB237 (fun I240 J241 R242 hB243 hF244 hK245 => ?_)
  have hK246 : RK (lk_X0_init_61 ++ ((2, 3, 59) :: (lk_X10_init_59 ++ ((2, 2, 57) :: (lk_X10_init_57 ++ ((2, 1, 55) :: (lk_X10_init_55 ++ ((2, 0, 53) :: (lk_X10_init_53 ++ ((1, 19, 51) :: (lk_X4_init_51 ++ ((1, 18, 49) :: (lk_X4_init_49 ++ ((1, 17, 45) :: (lk_X9_init_45 ++ ((1, 16, 42) :: (lk_X5_init_42 ++ ((1, 15, 39) :: (lk_X8_init_39 ++ ((1, 14, 35) :: (lk_X7_init_35 ++ ((1, 12, 34) :: ((1, 11, 33) :: ((1, 10, 27) :: (lk_X2_init_27 ++ ((1, 9, 21) :: (lk_X2_init_21 ++ ((1, 8, 15) :: (lk_X0_init_15 ++ ((1, 7, 9) :: (lk_X0_init_9 ++ ((1, 6, 7) :: (lk_X3_init_7 ++ ((1, 5, 6) :: ((1, 4, 3) :: (lk_X6_init_3 ++ ((1, 3, 2) :: ([])))))))))))))))))))))))))))))))))))))) R242 := hK245.app (hK238.fr hF244 rfl)
  have hF247 : FR 1 R R242 := fun o ho => (hF244 o (by omega)).trans (hF239 o ho)
  refine ⟨vp_of rfl (by decide) (by decide), ?_⟩
  have hK248 : RK ((33, 0, 61) :: (lk_X0_init_61 ++ ((2, 3, 59) :: (lk_X10_init_59 ++ ((2, 2, 57) :: (lk_X10_init_57 ++ ((2, 1, 55) :: (lk_X10_init_55 ++ ((2, 0, 53) :: (lk_X10_init_53 ++ ((1, 19, 51) :: (lk_X4_init_51 ++ ((1, 18, 49) :: (lk_X4_init_49 ++ ((1, 17, 45) :: (lk_X9_init_45 ++ ((1, 16, 42) :: (lk_X5_init_42 ++ ((1, 15, 39) :: (lk_X8_init_39 ++ ((1, 14, 35) :: (lk_X7_init_35 ++ ((1, 12, 34) :: ((1, 11, 33) :: ((1, 10, 27) :: (lk_X2_init_27 ++ ((1, 9, 21) :: (lk_X2_init_21 ++ ((1, 8, 15) :: (lk_X0_init_15 ++ ((1, 7, 9) :: (lk_X0_init_9 ++ ((1, 6, 7) :: (lk_X3_init_7 ++ ((1, 5, 6) :: ((1, 4, 3) :: (lk_X6_init_3 ++ ((1, 3, 2) :: ([]))))))))))))))))))))))))))))))))))))))) (uR R242 33 (Int32.toNatClampNeg 0) 61) := hK246.u rfl
  have hF249 : FR 1 R (uR R242 33 (Int32.toNatClampNeg 0) 61) := hF247.u rfl
  refine ⟨hK248.ne (show lkq ((33, 0, 61) :: (lk_X0_init_61 ++ ((2, 3, 59) :: (lk_X10_init_59 ++ ((2, 2, 57) :: (lk_X10_init_57 ++ ((2, 1, 55) :: (lk_X10_init_55 ++ ((2, 0, 53) :: (lk_X10_init_53 ++ ((1, 19, 51) :: (lk_X4_init_51 ++ ((1, 18, 49) :: (lk_X4_init_49 ++ ((1, 17, 45) :: (lk_X9_init_45 ++ ((1, 16, 42) :: (lk_X5_init_42 ++ ((1, 15, 39) :: (lk_X8_init_39 ++ ((1, 14, 35) :: (lk_X7_init_35 ++ ((1, 12, 34) :: ((1, 11, 33) :: ((1, 10, 27) :: (lk_X2_init_27 ++ ((1, 9, 21) :: (lk_X2_init_21 ++ ((1, 8, 15) :: (lk_X0_init_15 ++ ((1, 7, 9) :: (lk_X0_init_9 ++ ((1, 6, 7) :: (lk_X3_init_7 ++ ((1, 5, 6) :: ((1, 4, 3) :: (lk_X6_init_3 ++ ((1, 3, 2) :: ([]))))))))))))))))))))))))))))))))))))))) 1 12 = true from rfl), ?_⟩
  have hB250 : Bd (zI I240 67) := hB243.z
  have hK251 : RK ((33, 0, 61) :: (lk_X0_init_61 ++ ((2, 3, 59) :: (lk_X10_init_59 ++ ((2, 2, 57) :: (lk_X10_init_57 ++ ((2, 1, 55) :: (lk_X10_init_55 ++ ((2, 0, 53) :: (lk_X10_init_53 ++ ((1, 19, 51) :: (lk_X4_init_51 ++ ((1, 18, 49) :: (lk_X4_init_49 ++ ((1, 17, 45) :: (lk_X9_init_45 ++ ((1, 16, 42) :: (lk_X5_init_42 ++ ((1, 15, 39) :: (lk_X8_init_39 ++ ((1, 14, 35) :: (lk_X7_init_35 ++ ((1, 12, 34) :: ((1, 11, 33) :: ((1, 10, 27) :: (lk_X2_init_27 ++ ((1, 9, 21) :: (lk_X2_init_21 ++ ((1, 8, 15) :: (lk_X0_init_15 ++ ((1, 7, 9) :: (lk_X0_init_9 ++ ((1, 6, 7) :: (lk_X3_init_7 ++ ((1, 5, 6) :: ((1, 4, 3) :: (lk_X6_init_3 ++ ((1, 3, 2) :: ([]))))))))))))))))))))))))))))))))))))))) (zR (uR R242 33 (Int32.toNatClampNeg 0) 61) 67) := hK248.z rfl
  have hF252 : FR 1 R (zR (uR R242 33 (Int32.toNatClampNeg 0) 61) 67) := hF249.z rfl
  refine ct_X2_init_67 hB250 (fun I253 J254 R255 hB256 hF257 hK258 => ?_)
  have hK259 : RK (lk_X2_init_67 ++ ((33, 0, 61) :: (lk_X0_init_61 ++ ((2, 3, 59) :: (lk_X10_init_59 ++ ((2, 2, 57) :: (lk_X10_init_57 ++ ((2, 1, 55) :: (lk_X10_init_55 ++ ((2, 0, 53) :: (lk_X10_init_53 ++ ((1, 19, 51) :: (lk_X4_init_51 ++ ((1, 18, 49) :: (lk_X4_init_49 ++ ((1, 17, 45) :: (lk_X9_init_45 ++ ((1, 16, 42) :: (lk_X5_init_42 ++ ((1, 15, 39) :: (lk_X8_init_39 ++ ((1, 14, 35) :: (lk_X7_init_35 ++ ((1, 12, 34) :: ((1, 11, 33) :: ((1, 10, 27) :: (lk_X2_init_27 ++ ((1, 9, 21) :: (lk_X2_init_21 ++ ((1, 8, 15) :: (lk_X0_init_15 ++ ((1, 7, 9) :: (lk_X0_init_9 ++ ((1, 6, 7) :: (lk_X3_init_7 ++ ((1, 5, 6) :: ((1, 4, 3) :: (lk_X6_init_3 ++ ((1, 3, 2) :: ([])))))))))))))))))))))))))))))))))))))))) R255 := hK258.app (hK251.fr hF257 rfl)
  have hF260 : FR 1 R R255 := fun o ho => (hF257 o (by omega)).trans (hF252 o ho)
  refine ⟨vp_of rfl (by decide) (by decide), ?_⟩
  have hK261 : RK ((34, 0, 67) :: (lk_X2_init_67 ++ ((33, 0, 61) :: (lk_X0_init_61 ++ ((2, 3, 59) :: (lk_X10_init_59 ++ ((2, 2, 57) :: (lk_X10_init_57 ++ ((2, 1, 55) :: (lk_X10_init_55 ++ ((2, 0, 53) :: (lk_X10_init_53 ++ ((1, 19, 51) :: (lk_X4_init_51 ++ ((1, 18, 49) :: (lk_X4_init_49 ++ ((1, 17, 45) :: (lk_X9_init_45 ++ ((1, 16, 42) :: (lk_X5_init_42 ++ ((1, 15, 39) :: (lk_X8_init_39 ++ ((1, 14, 35) :: (lk_X7_init_35 ++ ((1, 12, 34) :: ((1, 11, 33) :: ((1, 10, 27) :: (lk_X2_init_27 ++ ((1, 9, 21) :: (lk_X2_init_21 ++ ((1, 8, 15) :: (lk_X0_init_15 ++ ((1, 7, 9) :: (lk_X0_init_9 ++ ((1, 6, 7) :: (lk_X3_init_7 ++ ((1, 5, 6) :: ((1, 4, 3) :: (lk_X6_init_3 ++ ((1, 3, 2) :: ([]))))))))))))))))))))))))))))))))))))))))) (uR R255 34 (Int32.toNatClampNeg 0) 67) := hK259.u rfl
  have hF262 : FR 1 R (uR R255 34 (Int32.toNatClampNeg 0) 67) := hF260.u rfl
  refine cs_X11_init_1_219_72 hc _ _ _ ?_
  refine ⟨fun c => absurd c (by decide), fun _ => ?_⟩
  refine ⟨hK261.ne (show lkq ((34, 0, 67) :: (lk_X2_init_67 ++ ((33, 0, 61) :: (lk_X0_init_61 ++ ((2, 3, 59) :: (lk_X10_init_59 ++ ((2, 2, 57) :: (lk_X10_init_57 ++ ((2, 1, 55) :: (lk_X10_init_55 ++ ((2, 0, 53) :: (lk_X10_init_53 ++ ((1, 19, 51) :: (lk_X4_init_51 ++ ((1, 18, 49) :: (lk_X4_init_49 ++ ((1, 17, 45) :: (lk_X9_init_45 ++ ((1, 16, 42) :: (lk_X5_init_42 ++ ((1, 15, 39) :: (lk_X8_init_39 ++ ((1, 14, 35) :: (lk_X7_init_35 ++ ((1, 12, 34) :: ((1, 11, 33) :: ((1, 10, 27) :: (lk_X2_init_27 ++ ((1, 9, 21) :: (lk_X2_init_21 ++ ((1, 8, 15) :: (lk_X0_init_15 ++ ((1, 7, 9) :: (lk_X0_init_9 ++ ((1, 6, 7) :: (lk_X3_init_7 ++ ((1, 5, 6) :: ((1, 4, 3) :: (lk_X6_init_3 ++ ((1, 3, 2) :: ([]))))))))))))))))))))))))))))))))))))))))) 1 11 = true from rfl), ?_⟩
  have hB263 : Bd (zI I253 73) := hB256.z
  have hK264 : RK ((34, 0, 67) :: (lk_X2_init_67 ++ ((33, 0, 61) :: (lk_X0_init_61 ++ ((2, 3, 59) :: (lk_X10_init_59 ++ ((2, 2, 57) :: (lk_X10_init_57 ++ ((2, 1, 55) :: (lk_X10_init_55 ++ ((2, 0, 53) :: (lk_X10_init_53 ++ ((1, 19, 51) :: (lk_X4_init_51 ++ ((1, 18, 49) :: (lk_X4_init_49 ++ ((1, 17, 45) :: (lk_X9_init_45 ++ ((1, 16, 42) :: (lk_X5_init_42 ++ ((1, 15, 39) :: (lk_X8_init_39 ++ ((1, 14, 35) :: (lk_X7_init_35 ++ ((1, 12, 34) :: ((1, 11, 33) :: ((1, 10, 27) :: (lk_X2_init_27 ++ ((1, 9, 21) :: (lk_X2_init_21 ++ ((1, 8, 15) :: (lk_X0_init_15 ++ ((1, 7, 9) :: (lk_X0_init_9 ++ ((1, 6, 7) :: (lk_X3_init_7 ++ ((1, 5, 6) :: ((1, 4, 3) :: (lk_X6_init_3 ++ ((1, 3, 2) :: ([]))))))))))))))))))))))))))))))))))))))))) (zR (uR R255 34 (Int32.toNatClampNeg 0) 67) 73) := hK261.z rfl
  have hF265 : FR 1 R (zR (uR R255 34 (Int32.toNatClampNeg 0) 67) 73) := hF262.z rfl
  refine ct_X0_init_73 hB263 (fun I266 J267 R268 hB269 hF270 hK271 => ?_)
  have hK272 : RK (lk_X0_init_73 ++ ((34, 0, 67) :: (lk_X2_init_67 ++ ((33, 0, 61) :: (lk_X0_init_61 ++ ((2, 3, 59) :: (lk_X10_init_59 ++ ((2, 2, 57) :: (lk_X10_init_57 ++ ((2, 1, 55) :: (lk_X10_init_55 ++ ((2, 0, 53) :: (lk_X10_init_53 ++ ((1, 19, 51) :: (lk_X4_init_51 ++ ((1, 18, 49) :: (lk_X4_init_49 ++ ((1, 17, 45) :: (lk_X9_init_45 ++ ((1, 16, 42) :: (lk_X5_init_42 ++ ((1, 15, 39) :: (lk_X8_init_39 ++ ((1, 14, 35) :: (lk_X7_init_35 ++ ((1, 12, 34) :: ((1, 11, 33) :: ((1, 10, 27) :: (lk_X2_init_27 ++ ((1, 9, 21) :: (lk_X2_init_21 ++ ((1, 8, 15) :: (lk_X0_init_15 ++ ((1, 7, 9) :: (lk_X0_init_9 ++ ((1, 6, 7) :: (lk_X3_init_7 ++ ((1, 5, 6) :: ((1, 4, 3) :: (lk_X6_init_3 ++ ((1, 3, 2) :: ([])))))))))))))))))))))))))))))))))))))))))) R268 := hK271.app (hK264.fr hF270 rfl)
  have hF273 : FR 1 R R268 := fun o ho => (hF270 o (by omega)).trans (hF265 o ho)
  refine ⟨vp_of rfl (by decide) (by decide), ?_⟩
  have hK274 : RK ((33, 1, 73) :: (lk_X0_init_73 ++ ((34, 0, 67) :: (lk_X2_init_67 ++ ((33, 0, 61) :: (lk_X0_init_61 ++ ((2, 3, 59) :: (lk_X10_init_59 ++ ((2, 2, 57) :: (lk_X10_init_57 ++ ((2, 1, 55) :: (lk_X10_init_55 ++ ((2, 0, 53) :: (lk_X10_init_53 ++ ((1, 19, 51) :: (lk_X4_init_51 ++ ((1, 18, 49) :: (lk_X4_init_49 ++ ((1, 17, 45) :: (lk_X9_init_45 ++ ((1, 16, 42) :: (lk_X5_init_42 ++ ((1, 15, 39) :: (lk_X8_init_39 ++ ((1, 14, 35) :: (lk_X7_init_35 ++ ((1, 12, 34) :: ((1, 11, 33) :: ((1, 10, 27) :: (lk_X2_init_27 ++ ((1, 9, 21) :: (lk_X2_init_21 ++ ((1, 8, 15) :: (lk_X0_init_15 ++ ((1, 7, 9) :: (lk_X0_init_9 ++ ((1, 6, 7) :: (lk_X3_init_7 ++ ((1, 5, 6) :: ((1, 4, 3) :: (lk_X6_init_3 ++ ((1, 3, 2) :: ([]))))))))))))))))))))))))))))))))))))))))))) (uR R268 33 (Int32.toNatClampNeg (0 + 1)) 73) := hK272.u rfl
  have hF275 : FR 1 R (uR R268 33 (Int32.toNatClampNeg (0 + 1)) 73) := hF273.u rfl
  refine ⟨hK274.ne (show lkq ((33, 1, 73) :: (lk_X0_init_73 ++ ((34, 0, 67) :: (lk_X2_init_67 ++ ((33, 0, 61) :: (lk_X0_init_61 ++ ((2, 3, 59) :: (lk_X10_init_59 ++ ((2, 2, 57) :: (lk_X10_init_57 ++ ((2, 1, 55) :: (lk_X10_init_55 ++ ((2, 0, 53) :: (lk_X10_init_53 ++ ((1, 19, 51) :: (lk_X4_init_51 ++ ((1, 18, 49) :: (lk_X4_init_49 ++ ((1, 17, 45) :: (lk_X9_init_45 ++ ((1, 16, 42) :: (lk_X5_init_42 ++ ((1, 15, 39) :: (lk_X8_init_39 ++ ((1, 14, 35) :: (lk_X7_init_35 ++ ((1, 12, 34) :: ((1, 11, 33) :: ((1, 10, 27) :: (lk_X2_init_27 ++ ((1, 9, 21) :: (lk_X2_init_21 ++ ((1, 8, 15) :: (lk_X0_init_15 ++ ((1, 7, 9) :: (lk_X0_init_9 ++ ((1, 6, 7) :: (lk_X3_init_7 ++ ((1, 5, 6) :: ((1, 4, 3) :: (lk_X6_init_3 ++ ((1, 3, 2) :: ([]))))))))))))))))))))))))))))))))))))))))))) 1 12 = true from rfl), ?_⟩
  have hB276 : Bd (zI I266 79) := hB269.z
  have hK277 : RK ((33, 1, 73) :: (lk_X0_init_73 ++ ((34, 0, 67) :: (lk_X2_init_67 ++ ((33, 0, 61) :: (lk_X0_init_61 ++ ((2, 3, 59) :: (lk_X10_init_59 ++ ((2, 2, 57) :: (lk_X10_init_57 ++ ((2, 1, 55) :: (lk_X10_init_55 ++ ((2, 0, 53) :: (lk_X10_init_53 ++ ((1, 19, 51) :: (lk_X4_init_51 ++ ((1, 18, 49) :: (lk_X4_init_49 ++ ((1, 17, 45) :: (lk_X9_init_45 ++ ((1, 16, 42) :: (lk_X5_init_42 ++ ((1, 15, 39) :: (lk_X8_init_39 ++ ((1, 14, 35) :: (lk_X7_init_35 ++ ((1, 12, 34) :: ((1, 11, 33) :: ((1, 10, 27) :: (lk_X2_init_27 ++ ((1, 9, 21) :: (lk_X2_init_21 ++ ((1, 8, 15) :: (lk_X0_init_15 ++ ((1, 7, 9) :: (lk_X0_init_9 ++ ((1, 6, 7) :: (lk_X3_init_7 ++ ((1, 5, 6) :: ((1, 4, 3) :: (lk_X6_init_3 ++ ((1, 3, 2) :: ([]))))))))))))))))))))))))))))))))))))))))))) (zR (uR R268 33 (Int32.toNatClampNeg (0 + 1)) 73) 79) := hK274.z rfl
  have hF278 : FR 1 R (zR (uR R268 33 (Int32.toNatClampNeg (0 + 1)) 73) 79) := hF275.z rfl
  refine ct_X2_init_79 hB276 (fun I279 J280 R281 hB282 hF283 hK284 => ?_)
  have hK285 : RK (lk_X2_init_79 ++ ((33, 1, 73) :: (lk_X0_init_73 ++ ((34, 0, 67) :: (lk_X2_init_67 ++ ((33, 0, 61) :: (lk_X0_init_61 ++ ((2, 3, 59) :: (lk_X10_init_59 ++ ((2, 2, 57) :: (lk_X10_init_57 ++ ((2, 1, 55) :: (lk_X10_init_55 ++ ((2, 0, 53) :: (lk_X10_init_53 ++ ((1, 19, 51) :: (lk_X4_init_51 ++ ((1, 18, 49) :: (lk_X4_init_49 ++ ((1, 17, 45) :: (lk_X9_init_45 ++ ((1, 16, 42) :: (lk_X5_init_42 ++ ((1, 15, 39) :: (lk_X8_init_39 ++ ((1, 14, 35) :: (lk_X7_init_35 ++ ((1, 12, 34) :: ((1, 11, 33) :: ((1, 10, 27) :: (lk_X2_init_27 ++ ((1, 9, 21) :: (lk_X2_init_21 ++ ((1, 8, 15) :: (lk_X0_init_15 ++ ((1, 7, 9) :: (lk_X0_init_9 ++ ((1, 6, 7) :: (lk_X3_init_7 ++ ((1, 5, 6) :: ((1, 4, 3) :: (lk_X6_init_3 ++ ((1, 3, 2) :: ([])))))))))))))))))))))))))))))))))))))))))))) R281 := hK284.app (hK277.fr hF283 rfl)
  have hF286 : FR 1 R R281 := fun o ho => (hF283 o (by omega)).trans (hF278 o ho)
  refine ⟨vp_of rfl (by decide) (by decide), ?_⟩
  have hK287 : RK ((34, 1, 79) :: (lk_X2_init_79 ++ ((33, 1, 73) :: (lk_X0_init_73 ++ ((34, 0, 67) :: (lk_X2_init_67 ++ ((33, 0, 61) :: (lk_X0_init_61 ++ ((2, 3, 59) :: (lk_X10_init_59 ++ ((2, 2, 57) :: (lk_X10_init_57 ++ ((2, 1, 55) :: (lk_X10_init_55 ++ ((2, 0, 53) :: (lk_X10_init_53 ++ ((1, 19, 51) :: (lk_X4_init_51 ++ ((1, 18, 49) :: (lk_X4_init_49 ++ ((1, 17, 45) :: (lk_X9_init_45 ++ ((1, 16, 42) :: (lk_X5_init_42 ++ ((1, 15, 39) :: (lk_X8_init_39 ++ ((1, 14, 35) :: (lk_X7_init_35 ++ ((1, 12, 34) :: ((1, 11, 33) :: ((1, 10, 27) :: (lk_X2_init_27 ++ ((1, 9, 21) :: (lk_X2_init_21 ++ ((1, 8, 15) :: (lk_X0_init_15 ++ ((1, 7, 9) :: (lk_X0_init_9 ++ ((1, 6, 7) :: (lk_X3_init_7 ++ ((1, 5, 6) :: ((1, 4, 3) :: (lk_X6_init_3 ++ ((1, 3, 2) :: ([]))))))))))))))))))))))))))))))))))))))))))))) (uR R281 34 (Int32.toNatClampNeg (0 + 1)) 79) := hK285.u rfl
  have hF288 : FR 1 R (uR R281 34 (Int32.toNatClampNeg (0 + 1)) 79) := hF286.u rfl
  refine cs_X11_init_1_219_84 hc _ _ _ ?_
  refine ⟨fun c => absurd c (by decide), fun _ => ?_⟩
  refine ⟨hK287.ne (show lkq ((34, 1, 79) :: (lk_X2_init_79 ++ ((33, 1, 73) :: (lk_X0_init_73 ++ ((34, 0, 67) :: (lk_X2_init_67 ++ ((33, 0, 61) :: (lk_X0_init_61 ++ ((2, 3, 59) :: (lk_X10_init_59 ++ ((2, 2, 57) :: (lk_X10_init_57 ++ ((2, 1, 55) :: (lk_X10_init_55 ++ ((2, 0, 53) :: (lk_X10_init_53 ++ ((1, 19, 51) :: (lk_X4_init_51 ++ ((1, 18, 49) :: (lk_X4_init_49 ++ ((1, 17, 45) :: (lk_X9_init_45 ++ ((1, 16, 42) :: (lk_X5_init_42 ++ ((1, 15, 39) :: (lk_X8_init_39 ++ ((1, 14, 35) :: (lk_X7_init_35 ++ ((1, 12, 34) :: ((1, 11, 33) :: ((1, 10, 27) :: (lk_X2_init_27 ++ ((1, 9, 21) :: (lk_X2_init_21 ++ ((1, 8, 15) :: (lk_X0_init_15 ++ ((1, 7, 9) :: (lk_X0_init_9 ++ ((1, 6, 7) :: (lk_X3_init_7 ++ ((1, 5, 6) :: ((1, 4, 3) :: (lk_X6_init_3 ++ ((1, 3, 2) :: ([]))))))))))))))))))))))))))))))))))))))))))))) 1 11 = true from rfl), ?_⟩
  have hB289 : Bd (zI I279 85) := hB282.z
  have hK290 : RK ((34, 1, 79) :: (lk_X2_init_79 ++ ((33, 1, 73) :: (lk_X0_init_73 ++ ((34, 0, 67) :: (lk_X2_init_67 ++ ((33, 0, 61) :: (lk_X0_init_61 ++ ((2, 3, 59) :: (lk_X10_init_59 ++ ((2, 2, 57) :: (lk_X10_init_57 ++ ((2, 1, 55) :: (lk_X10_init_55 ++ ((2, 0, 53) :: (lk_X10_init_53 ++ ((1, 19, 51) :: (lk_X4_init_51 ++ ((1, 18, 49) :: (lk_X4_init_49 ++ ((1, 17, 45) :: (lk_X9_init_45 ++ ((1, 16, 42) :: (lk_X5_init_42 ++ ((1, 15, 39) :: (lk_X8_init_39 ++ ((1, 14, 35) :: (lk_X7_init_35 ++ ((1, 12, 34) :: ((1, 11, 33) :: ((1, 10, 27) :: (lk_X2_init_27 ++ ((1, 9, 21) :: (lk_X2_init_21 ++ ((1, 8, 15) :: (lk_X0_init_15 ++ ((1, 7, 9) :: (lk_X0_init_9 ++ ((1, 6, 7) :: (lk_X3_init_7 ++ ((1, 5, 6) :: ((1, 4, 3) :: (lk_X6_init_3 ++ ((1, 3, 2) :: ([]))))))))))))))))))))))))))))))))))))))))))))) (zR (uR R281 34 (Int32.toNatClampNeg (0 + 1)) 79) 85) := hK287.z rfl
  have hF291 : FR 1 R (zR (uR R281 34 (Int32.toNatClampNeg (0 + 1)) 79) 85) := hF288.z rfl
  refine ct_X0_init_85 hB289 (fun I292 J293 R294 hB295 hF296 hK297 => ?_)
  have hK298 : RK (lk_X0_init_85 ++ ((34, 1, 79) :: (lk_X2_init_79 ++ ((33, 1, 73) :: (lk_X0_init_73 ++ ((34, 0, 67) :: (lk_X2_init_67 ++ ((33, 0, 61) :: (lk_X0_init_61 ++ ((2, 3, 59) :: (lk_X10_init_59 ++ ((2, 2, 57) :: (lk_X10_init_57 ++ ((2, 1, 55) :: (lk_X10_init_55 ++ ((2, 0, 53) :: (lk_X10_init_53 ++ ((1, 19, 51) :: (lk_X4_init_51 ++ ((1, 18, 49) :: (lk_X4_init_49 ++ ((1, 17, 45) :: (lk_X9_init_45 ++ ((1, 16, 42) :: (lk_X5_init_42 ++ ((1, 15, 39) :: (lk_X8_init_39 ++ ((1, 14, 35) :: (lk_X7_init_35 ++ ((1, 12, 34) :: ((1, 11, 33) :: ((1, 10, 27) :: (lk_X2_init_27 ++ ((1, 9, 21) :: (lk_X2_init_21 ++ ((1, 8, 15) :: (lk_X0_init_15 ++ ((1, 7, 9) :: (lk_X0_init_9 ++ ((1, 6, 7) :: (lk_X3_init_7 ++ ((1, 5, 6) :: ((1, 4, 3) :: (lk_X6_init_3 ++ ((1, 3, 2) :: ([])))))))))))))))))))))))))))))))))))))))))))))) R294 := hK297.app (hK290.fr hF296 rfl)
  have hF299 : FR 1 R R294 := fun o ho => (hF296 o (by omega)).trans (hF291 o ho)
  refine ⟨vp_of rfl (by decide) (by decide), ?_⟩
  have hK300 : RK ((33, 2, 85) :: (lk_X0_init_85 ++ ((34, 1, 79) :: (lk_X2_init_79 ++ ((33, 1, 73) :: (lk_X0_init_73 ++ ((34, 0, 67) :: (lk_X2_init_67 ++ ((33, 0, 61) :: (lk_X0_init_61 ++ ((2, 3, 59) :: (lk_X10_init_59 ++ ((2, 2, 57) :: (lk_X10_init_57 ++ ((2, 1, 55) :: (lk_X10_init_55 ++ ((2, 0, 53) :: (lk_X10_init_53 ++ ((1, 19, 51) :: (lk_X4_init_51 ++ ((1, 18, 49) :: (lk_X4_init_49 ++ ((1, 17, 45) :: (lk_X9_init_45 ++ ((1, 16, 42) :: (lk_X5_init_42 ++ ((1, 15, 39) :: (lk_X8_init_39 ++ ((1, 14, 35) :: (lk_X7_init_35 ++ ((1, 12, 34) :: ((1, 11, 33) :: ((1, 10, 27) :: (lk_X2_init_27 ++ ((1, 9, 21) :: (lk_X2_init_21 ++ ((1, 8, 15) :: (lk_X0_init_15 ++ ((1, 7, 9) :: (lk_X0_init_9 ++ ((1, 6, 7) :: (lk_X3_init_7 ++ ((1, 5, 6) :: ((1, 4, 3) :: (lk_X6_init_3 ++ ((1, 3, 2) :: ([]))))))))))))))))))))))))))))))))))))))))))))))) (uR R294 33 (Int32.toNatClampNeg ((0 + 1) + 1)) 85) := hK298.u rfl
  have hF301 : FR 1 R (uR R294 33 (Int32.toNatClampNeg ((0 + 1) + 1)) 85) := hF299.u rfl
  refine ⟨hK300.ne (show lkq ((33, 2, 85) :: (lk_X0_init_85 ++ ((34, 1, 79) :: (lk_X2_init_79 ++ ((33, 1, 73) :: (lk_X0_init_73 ++ ((34, 0, 67) :: (lk_X2_init_67 ++ ((33, 0, 61) :: (lk_X0_init_61 ++ ((2, 3, 59) :: (lk_X10_init_59 ++ ((2, 2, 57) :: (lk_X10_init_57 ++ ((2, 1, 55) :: (lk_X10_init_55 ++ ((2, 0, 53) :: (lk_X10_init_53 ++ ((1, 19, 51) :: (lk_X4_init_51 ++ ((1, 18, 49) :: (lk_X4_init_49 ++ ((1, 17, 45) :: (lk_X9_init_45 ++ ((1, 16, 42) :: (lk_X5_init_42 ++ ((1, 15, 39) :: (lk_X8_init_39 ++ ((1, 14, 35) :: (lk_X7_init_35 ++ ((1, 12, 34) :: ((1, 11, 33) :: ((1, 10, 27) :: (lk_X2_init_27 ++ ((1, 9, 21) :: (lk_X2_init_21 ++ ((1, 8, 15) :: (lk_X0_init_15 ++ ((1, 7, 9) :: (lk_X0_init_9 ++ ((1, 6, 7) :: (lk_X3_init_7 ++ ((1, 5, 6) :: ((1, 4, 3) :: (lk_X6_init_3 ++ ((1, 3, 2) :: ([]))))))))))))))))))))))))))))))))))))))))))))))) 1 12 = true from rfl), ?_⟩
  have hB302 : Bd (zI I292 91) := hB295.z
  have hK303 : RK ((33, 2, 85) :: (lk_X0_init_85 ++ ((34, 1, 79) :: (lk_X2_init_79 ++ ((33, 1, 73) :: (lk_X0_init_73 ++ ((34, 0, 67) :: (lk_X2_init_67 ++ ((33, 0, 61) :: (lk_X0_init_61 ++ ((2, 3, 59) :: (lk_X10_init_59 ++ ((2, 2, 57) :: (lk_X10_init_57 ++ ((2, 1, 55) :: (lk_X10_init_55 ++ ((2, 0, 53) :: (lk_X10_init_53 ++ ((1, 19, 51) :: (lk_X4_init_51 ++ ((1, 18, 49) :: (lk_X4_init_49 ++ ((1, 17, 45) :: (lk_X9_init_45 ++ ((1, 16, 42) :: (lk_X5_init_42 ++ ((1, 15, 39) :: (lk_X8_init_39 ++ ((1, 14, 35) :: (lk_X7_init_35 ++ ((1, 12, 34) :: ((1, 11, 33) :: ((1, 10, 27) :: (lk_X2_init_27 ++ ((1, 9, 21) :: (lk_X2_init_21 ++ ((1, 8, 15) :: (lk_X0_init_15 ++ ((1, 7, 9) :: (lk_X0_init_9 ++ ((1, 6, 7) :: (lk_X3_init_7 ++ ((1, 5, 6) :: ((1, 4, 3) :: (lk_X6_init_3 ++ ((1, 3, 2) :: ([]))))))))))))))))))))))))))))))))))))))))))))))) (zR (uR R294 33 (Int32.toNatClampNeg ((0 + 1) + 1)) 85) 91) := hK300.z rfl
  have hF304 : FR 1 R (zR (uR R294 33 (Int32.toNatClampNeg ((0 + 1) + 1)) 85) 91) := hF301.z rfl
  refine ct_X2_init_91 hB302 (fun I305 J306 R307 hB308 hF309 hK310 => ?_)
  have hK311 : RK (lk_X2_init_91 ++ ((33, 2, 85) :: (lk_X0_init_85 ++ ((34, 1, 79) :: (lk_X2_init_79 ++ ((33, 1, 73) :: (lk_X0_init_73 ++ ((34, 0, 67) :: (lk_X2_init_67 ++ ((33, 0, 61) :: (lk_X0_init_61 ++ ((2, 3, 59) :: (lk_X10_init_59 ++ ((2, 2, 57) :: (lk_X10_init_57 ++ ((2, 1, 55) :: (lk_X10_init_55 ++ ((2, 0, 53) :: (lk_X10_init_53 ++ ((1, 19, 51) :: (lk_X4_init_51 ++ ((1, 18, 49) :: (lk_X4_init_49 ++ ((1, 17, 45) :: (lk_X9_init_45 ++ ((1, 16, 42) :: (lk_X5_init_42 ++ ((1, 15, 39) :: (lk_X8_init_39 ++ ((1, 14, 35) :: (lk_X7_init_35 ++ ((1, 12, 34) :: ((1, 11, 33) :: ((1, 10, 27) :: (lk_X2_init_27 ++ ((1, 9, 21) :: (lk_X2_init_21 ++ ((1, 8, 15) :: (lk_X0_init_15 ++ ((1, 7, 9) :: (lk_X0_init_9 ++ ((1, 6, 7) :: (lk_X3_init_7 ++ ((1, 5, 6) :: ((1, 4, 3) :: (lk_X6_init_3 ++ ((1, 3, 2) :: ([])))))))))))))))))))))))))))))))))))))))))))))))) R307 := hK310.app (hK303.fr hF309 rfl)
  have hF312 : FR 1 R R307 := fun o ho => (hF309 o (by omega)).trans (hF304 o ho)
  refine ⟨vp_of rfl (by decide) (by decide), ?_⟩
  have hK313 : RK ((34, 2, 91) :: (lk_X2_init_91 ++ ((33, 2, 85) :: (lk_X0_init_85 ++ ((34, 1, 79) :: (lk_X2_init_79 ++ ((33, 1, 73) :: (lk_X0_init_73 ++ ((34, 0, 67) :: (lk_X2_init_67 ++ ((33, 0, 61) :: (lk_X0_init_61 ++ ((2, 3, 59) :: (lk_X10_init_59 ++ ((2, 2, 57) :: (lk_X10_init_57 ++ ((2, 1, 55) :: (lk_X10_init_55 ++ ((2, 0, 53) :: (lk_X10_init_53 ++ ((1, 19, 51) :: (lk_X4_init_51 ++ ((1, 18, 49) :: (lk_X4_init_49 ++ ((1, 17, 45) :: (lk_X9_init_45 ++ ((1, 16, 42) :: (lk_X5_init_42 ++ ((1, 15, 39) :: (lk_X8_init_39 ++ ((1, 14, 35) :: (lk_X7_init_35 ++ ((1, 12, 34) :: ((1, 11, 33) :: ((1, 10, 27) :: (lk_X2_init_27 ++ ((1, 9, 21) :: (lk_X2_init_21 ++ ((1, 8, 15) :: (lk_X0_init_15 ++ ((1, 7, 9) :: (lk_X0_init_9 ++ ((1, 6, 7) :: (lk_X3_init_7 ++ ((1, 5, 6) :: ((1, 4, 3) :: (lk_X6_init_3 ++ ((1, 3, 2) :: ([]))))))))))))))))))))))))))))))))))))))))))))))))) (uR R307 34 (Int32.toNatClampNeg ((0 + 1) + 1)) 91) := hK311.u rfl
  have hF314 : FR 1 R (uR R307 34 (Int32.toNatClampNeg ((0 + 1) + 1)) 91) := hF312.u rfl
  refine cs_X11_init_1_219_96 hc _ _ _ ?_
  refine ⟨fun _ => ?_, fun c => absurd (by decide) c⟩
  exact ⟨rfl, fun z => absurd z (by decide), hQ _ _ _ hB308 hF314 hK313⟩
def lk_X12_init_97 : List (Nat × Nat × Nat) := (97, 39, 112) :: ((97, 38, 111) :: ((97, 37, 110) :: ((97, 36, 109) :: ((97, 35, 108) :: ((97, 30, 107) :: ((97, 29, 106) :: ((97, 28, 105) :: ((97, 22, 104) :: ((97, 21, 103) :: ((97, 20, 102) :: ((97, 7, 101) :: ((97, 6, 100) :: ((97, 5, 99) :: ((97, 4, 98) :: ([])))))))))))))))
theorem getD_out {α : Type} {l : List α} {n : Nat} {d : α} (h : l.length ≤ n) : l.getD n d = d := by rw [List.getD_eq_getElem?_getD, List.getElem?_eq_none h]; rfl
def lkA : List (Nat × Nat × Nat) := lk_X12_init_97 ++ lk_X11_init_1
theorem fl_of {R : Rm} (h : RK lkA R) : Fl R := by
  have h1 : ((List.range 112).all fun i => (List.range 60).all fun k => !(Nat.beq (fkd (shl.getD i (999, 0)).1 k) 4) || lkq lkA (i + 1) k) = true := by decide +kernel
  have h2 : ∀ ci, ci < 1000 → (fkl.getD ci []).length ≤ 60 := by decide +kernel
  have h3 : shl.length = 112 := by decide +kernel
  have h4 : ∀ i, i < 112 → (shl.getD i (999, 0)).1 < 1000 := by decide +kernel
  intro i k hk
  have hi : i < 112 := by
    rcases Nat.lt_or_ge i 112 with q | q
    · exact q
    · rw [getD_out (by omega)] at hk
      have : fkd 999 k = 9 := by
        unfold fkd
        rw [getD_out (l := fkl) (by decide)]; rfl
      rw [show ((999, 0) : Nat × Nat).1 = 999 from rfl, this] at hk
      omega
  have hk6 : k < 60 := by
    rcases Nat.lt_or_ge k 60 with q | q
    · exact q
    · have h5 := h2 _ (h4 i hi)
      unfold fkd at hk
      rw [getD_out (by omega)] at hk
      omega
  have h5 := List.all_eq_true.mp (List.all_eq_true.mp h1 i (List.mem_range.mpr hi)) k (List.mem_range.mpr hk6)
  rw [hk] at h5
  exact h.ne h5
theorem ri_of {R : Rm} (h : RK lkA R) : RI R := by
  have a : ∀ o k v : Nat, lkA.contains (o, k, v) = true → R o k = v := fun o k v q => h.at q
  refine ⟨?_, ?_, ?_, ?_, fun j hj => ?_, fun j hj => ?_, fun j hj => ?_⟩
  · rw [a 1 7 9 rfl]; decide
  · rw [a 1 8 15 rfl]; decide
  · rw [a 1 9 21 rfl]; decide
  · rw [a 1 10 27 rfl]; decide
  · rcases (show j = 0 ∨ j = 1 ∨ j = 2 ∨ j = 3 by omega) with q | q | q | q <;> subst q
    · rw [a 2 0 53 rfl]; decide
    · rw [a 2 1 55 rfl]; decide
    · rw [a 2 2 57 rfl]; decide
    · rw [a 2 3 59 rfl]; decide
  · rcases (show j = 0 ∨ j = 1 ∨ j = 2 by omega) with q | q | q <;> subst q
    · rw [a 33 0 61 rfl]; decide
    · rw [a 33 1 73 rfl]; decide
    · rw [a 33 2 85 rfl]; decide
  · rcases (show j = 0 ∨ j = 1 ∨ j = 2 by omega) with q | q | q <;> subst q
    · rw [a 34 0 67 rfl]; decide
    · rw [a 34 1 79 rfl]; decide
    · rw [a 34 2 91 rfl]; decide
set_option maxHeartbeats 4000000 in
set_option maxRecDepth 100000 in
theorem ct_X12_init_97 {d : Nat} {Q : Qt} {I : Im} {J : Jm} {R : Rm} (hB : Bd I) (hL : RK lk_X11_init_1 R) (hQ : ∀ (I2 : Im) (J2 : Jm) (R2 : Rm), Bd I2 → FR 97 R R2 → RK lk_X12_init_97 R2 → Q 0 0 I2 J2 R2) : AM (d + 2) 172 97 [.ref 97] I J R Q := by
  refine amc_of (k := kX12_init) rfl rfl rfl rfl rfl rfl (Nat.le_of_ble_eq_true rfl) (fun P hc => ?_)
  refine cs_X12_init_97_0_97 hc _ _ _ ?_
  refine ⟨rfl, ?_⟩
  have hB1 : Bd (zI I 98) := hB.z
  have hK2 : RK ([]) (zR R 98) := (RK.nil (R := R)).z rfl
  have hF3 : FR 97 R (zR R 98) := (FR.refl 97 R).z rfl
  have hK4 : RK ((97, 4, 98) :: ([])) (uR (zR R 98) 97 4 98) := hK2.u rfl
  have hF5 : FR 97 R (uR (zR R 98) 97 4 98) := hF3.u rfl
  refine ⟨rfl, ?_⟩
  have hB6 : Bd (zI (zI I 98) 99) := hB1.z
  have hK7 : RK ((97, 4, 98) :: ([])) (zR (uR (zR R 98) 97 4 98) 99) := hK4.z rfl
  have hF8 : FR 97 R (zR (uR (zR R 98) 97 4 98) 99) := hF5.z rfl
  have hK9 : RK ((97, 5, 99) :: ((97, 4, 98) :: ([]))) (uR (zR (uR (zR R 98) 97 4 98) 99) 97 5 99) := hK7.u rfl
  have hF10 : FR 97 R (uR (zR (uR (zR R 98) 97 4 98) 99) 97 5 99) := hF8.u rfl
  refine ⟨rfl, ?_⟩
  have hB11 : Bd (zI (zI (zI I 98) 99) 100) := hB6.z
  have hK12 : RK ((97, 5, 99) :: ((97, 4, 98) :: ([]))) (zR (uR (zR (uR (zR R 98) 97 4 98) 99) 97 5 99) 100) := hK9.z rfl
  have hF13 : FR 97 R (zR (uR (zR (uR (zR R 98) 97 4 98) 99) 97 5 99) 100) := hF10.z rfl
  have hK14 : RK ((97, 6, 100) :: ((97, 5, 99) :: ((97, 4, 98) :: ([])))) (uR (zR (uR (zR (uR (zR R 98) 97 4 98) 99) 97 5 99) 100) 97 6 100) := hK12.u rfl
  have hF15 : FR 97 R (uR (zR (uR (zR (uR (zR R 98) 97 4 98) 99) 97 5 99) 100) 97 6 100) := hF13.u rfl
  refine ⟨rfl, ?_⟩
  have hB16 : Bd (zI (zI (zI (zI I 98) 99) 100) 101) := hB11.z
  have hK17 : RK ((97, 6, 100) :: ((97, 5, 99) :: ((97, 4, 98) :: ([])))) (zR (uR (zR (uR (zR (uR (zR R 98) 97 4 98) 99) 97 5 99) 100) 97 6 100) 101) := hK14.z rfl
  have hF18 : FR 97 R (zR (uR (zR (uR (zR (uR (zR R 98) 97 4 98) 99) 97 5 99) 100) 97 6 100) 101) := hF15.z rfl
  have hK19 : RK ((97, 7, 101) :: ((97, 6, 100) :: ((97, 5, 99) :: ((97, 4, 98) :: ([]))))) (uR (zR (uR (zR (uR (zR (uR (zR R 98) 97 4 98) 99) 97 5 99) 100) 97 6 100) 101) 97 7 101) := hK17.u rfl
  have hF20 : FR 97 R (uR (zR (uR (zR (uR (zR (uR (zR R 98) 97 4 98) 99) 97 5 99) 100) 97 6 100) 101) 97 7 101) := hF18.u rfl
  have hB21 : Bd (uI (zI (zI (zI (zI I 98) 99) 100) 101) 97 10 (-1)) := hB16.kw rfl
  have hB22 : Bd (uI (uI (zI (zI (zI (zI I 98) 99) 100) 101) 97 10 (-1)) 97 11 (-1)) := hB21.kw rfl
  refine ⟨rfl, ?_⟩
  have hB23 : Bd (zI (uI (uI (zI (zI (zI (zI I 98) 99) 100) 101) 97 10 (-1)) 97 11 (-1)) 102) := hB22.z
  have hK24 : RK ((97, 7, 101) :: ((97, 6, 100) :: ((97, 5, 99) :: ((97, 4, 98) :: ([]))))) (zR (uR (zR (uR (zR (uR (zR (uR (zR R 98) 97 4 98) 99) 97 5 99) 100) 97 6 100) 101) 97 7 101) 102) := hK19.z rfl
  have hF25 : FR 97 R (zR (uR (zR (uR (zR (uR (zR (uR (zR R 98) 97 4 98) 99) 97 5 99) 100) 97 6 100) 101) 97 7 101) 102) := hF20.z rfl
  have hK26 : RK ((97, 20, 102) :: ((97, 7, 101) :: ((97, 6, 100) :: ((97, 5, 99) :: ((97, 4, 98) :: ([])))))) (uR (zR (uR (zR (uR (zR (uR (zR (uR (zR R 98) 97 4 98) 99) 97 5 99) 100) 97 6 100) 101) 97 7 101) 102) 97 20 102) := hK24.u rfl
  have hF27 : FR 97 R (uR (zR (uR (zR (uR (zR (uR (zR (uR (zR R 98) 97 4 98) 99) 97 5 99) 100) 97 6 100) 101) 97 7 101) 102) 97 20 102) := hF25.u rfl
  refine ⟨rfl, ?_⟩
  have hB28 : Bd (zI (zI (uI (uI (zI (zI (zI (zI I 98) 99) 100) 101) 97 10 (-1)) 97 11 (-1)) 102) 103) := hB23.z
  have hK29 : RK ((97, 20, 102) :: ((97, 7, 101) :: ((97, 6, 100) :: ((97, 5, 99) :: ((97, 4, 98) :: ([])))))) (zR (uR (zR (uR (zR (uR (zR (uR (zR (uR (zR R 98) 97 4 98) 99) 97 5 99) 100) 97 6 100) 101) 97 7 101) 102) 97 20 102) 103) := hK26.z rfl
  have hF30 : FR 97 R (zR (uR (zR (uR (zR (uR (zR (uR (zR (uR (zR R 98) 97 4 98) 99) 97 5 99) 100) 97 6 100) 101) 97 7 101) 102) 97 20 102) 103) := hF27.z rfl
  have hK31 : RK ((97, 21, 103) :: ((97, 20, 102) :: ((97, 7, 101) :: ((97, 6, 100) :: ((97, 5, 99) :: ((97, 4, 98) :: ([]))))))) (uR (zR (uR (zR (uR (zR (uR (zR (uR (zR (uR (zR R 98) 97 4 98) 99) 97 5 99) 100) 97 6 100) 101) 97 7 101) 102) 97 20 102) 103) 97 21 103) := hK29.u rfl
  have hF32 : FR 97 R (uR (zR (uR (zR (uR (zR (uR (zR (uR (zR (uR (zR R 98) 97 4 98) 99) 97 5 99) 100) 97 6 100) 101) 97 7 101) 102) 97 20 102) 103) 97 21 103) := hF30.u rfl
  refine ⟨rfl, ?_⟩
  have hB33 : Bd (zI (zI (zI (uI (uI (zI (zI (zI (zI I 98) 99) 100) 101) 97 10 (-1)) 97 11 (-1)) 102) 103) 104) := hB28.z
  have hK34 : RK ((97, 21, 103) :: ((97, 20, 102) :: ((97, 7, 101) :: ((97, 6, 100) :: ((97, 5, 99) :: ((97, 4, 98) :: ([]))))))) (zR (uR (zR (uR (zR (uR (zR (uR (zR (uR (zR (uR (zR R 98) 97 4 98) 99) 97 5 99) 100) 97 6 100) 101) 97 7 101) 102) 97 20 102) 103) 97 21 103) 104) := hK31.z rfl
  have hF35 : FR 97 R (zR (uR (zR (uR (zR (uR (zR (uR (zR (uR (zR (uR (zR R 98) 97 4 98) 99) 97 5 99) 100) 97 6 100) 101) 97 7 101) 102) 97 20 102) 103) 97 21 103) 104) := hF32.z rfl
  have hK36 : RK ((97, 22, 104) :: ((97, 21, 103) :: ((97, 20, 102) :: ((97, 7, 101) :: ((97, 6, 100) :: ((97, 5, 99) :: ((97, 4, 98) :: ([])))))))) (uR (zR (uR (zR (uR (zR (uR (zR (uR (zR (uR (zR (uR (zR R 98) 97 4 98) 99) 97 5 99) 100) 97 6 100) 101) 97 7 101) 102) 97 20 102) 103) 97 21 103) 104) 97 22 104) := hK34.u rfl
  have hF37 : FR 97 R (uR (zR (uR (zR (uR (zR (uR (zR (uR (zR (uR (zR (uR (zR R 98) 97 4 98) 99) 97 5 99) 100) 97 6 100) 101) 97 7 101) 102) 97 20 102) 103) 97 21 103) 104) 97 22 104) := hF35.u rfl
  refine ⟨rfl, ?_⟩
  have hB38 : Bd (zI (zI (zI (zI (uI (uI (zI (zI (zI (zI I 98) 99) 100) 101) 97 10 (-1)) 97 11 (-1)) 102) 103) 104) 105) := hB33.z
  have hK39 : RK ((97, 22, 104) :: ((97, 21, 103) :: ((97, 20, 102) :: ((97, 7, 101) :: ((97, 6, 100) :: ((97, 5, 99) :: ((97, 4, 98) :: ([])))))))) (zR (uR (zR (uR (zR (uR (zR (uR (zR (uR (zR (uR (zR (uR (zR R 98) 97 4 98) 99) 97 5 99) 100) 97 6 100) 101) 97 7 101) 102) 97 20 102) 103) 97 21 103) 104) 97 22 104) 105) := hK36.z rfl
  have hF40 : FR 97 R (zR (uR (zR (uR (zR (uR (zR (uR (zR (uR (zR (uR (zR (uR (zR R 98) 97 4 98) 99) 97 5 99) 100) 97 6 100) 101) 97 7 101) 102) 97 20 102) 103) 97 21 103) 104) 97 22 104) 105) := hF37.z rfl
  have hK41 : RK ((97, 28, 105) :: ((97, 22, 104) :: ((97, 21, 103) :: ((97, 20, 102) :: ((97, 7, 101) :: ((97, 6, 100) :: ((97, 5, 99) :: ((97, 4, 98) :: ([]))))))))) (uR (zR (uR (zR (uR (zR (uR (zR (uR (zR (uR (zR (uR (zR (uR (zR R 98) 97 4 98) 99) 97 5 99) 100) 97 6 100) 101) 97 7 101) 102) 97 20 102) 103) 97 21 103) 104) 97 22 104) 105) 97 28 105) := hK39.u rfl
  have hF42 : FR 97 R (uR (zR (uR (zR (uR (zR (uR (zR (uR (zR (uR (zR (uR (zR (uR (zR R 98) 97 4 98) 99) 97 5 99) 100) 97 6 100) 101) 97 7 101) 102) 97 20 102) 103) 97 21 103) 104) 97 22 104) 105) 97 28 105) := hF40.u rfl
  refine ⟨rfl, ?_⟩
  have hB43 : Bd (zI (zI (zI (zI (zI (uI (uI (zI (zI (zI (zI I 98) 99) 100) 101) 97 10 (-1)) 97 11 (-1)) 102) 103) 104) 105) 106) := hB38.z
  have hK44 : RK ((97, 28, 105) :: ((97, 22, 104) :: ((97, 21, 103) :: ((97, 20, 102) :: ((97, 7, 101) :: ((97, 6, 100) :: ((97, 5, 99) :: ((97, 4, 98) :: ([]))))))))) (zR (uR (zR (uR (zR (uR (zR (uR (zR (uR (zR (uR (zR (uR (zR (uR (zR R 98) 97 4 98) 99) 97 5 99) 100) 97 6 100) 101) 97 7 101) 102) 97 20 102) 103) 97 21 103) 104) 97 22 104) 105) 97 28 105) 106) := hK41.z rfl
  have hF45 : FR 97 R (zR (uR (zR (uR (zR (uR (zR (uR (zR (uR (zR (uR (zR (uR (zR (uR (zR R 98) 97 4 98) 99) 97 5 99) 100) 97 6 100) 101) 97 7 101) 102) 97 20 102) 103) 97 21 103) 104) 97 22 104) 105) 97 28 105) 106) := hF42.z rfl
  have hK46 : RK ((97, 29, 106) :: ((97, 28, 105) :: ((97, 22, 104) :: ((97, 21, 103) :: ((97, 20, 102) :: ((97, 7, 101) :: ((97, 6, 100) :: ((97, 5, 99) :: ((97, 4, 98) :: ([])))))))))) (uR (zR (uR (zR (uR (zR (uR (zR (uR (zR (uR (zR (uR (zR (uR (zR (uR (zR R 98) 97 4 98) 99) 97 5 99) 100) 97 6 100) 101) 97 7 101) 102) 97 20 102) 103) 97 21 103) 104) 97 22 104) 105) 97 28 105) 106) 97 29 106) := hK44.u rfl
  have hF47 : FR 97 R (uR (zR (uR (zR (uR (zR (uR (zR (uR (zR (uR (zR (uR (zR (uR (zR (uR (zR R 98) 97 4 98) 99) 97 5 99) 100) 97 6 100) 101) 97 7 101) 102) 97 20 102) 103) 97 21 103) 104) 97 22 104) 105) 97 28 105) 106) 97 29 106) := hF45.u rfl
  refine ⟨rfl, ?_⟩
  have hB48 : Bd (zI (zI (zI (zI (zI (zI (uI (uI (zI (zI (zI (zI I 98) 99) 100) 101) 97 10 (-1)) 97 11 (-1)) 102) 103) 104) 105) 106) 107) := hB43.z
  have hK49 : RK ((97, 29, 106) :: ((97, 28, 105) :: ((97, 22, 104) :: ((97, 21, 103) :: ((97, 20, 102) :: ((97, 7, 101) :: ((97, 6, 100) :: ((97, 5, 99) :: ((97, 4, 98) :: ([])))))))))) (zR (uR (zR (uR (zR (uR (zR (uR (zR (uR (zR (uR (zR (uR (zR (uR (zR (uR (zR R 98) 97 4 98) 99) 97 5 99) 100) 97 6 100) 101) 97 7 101) 102) 97 20 102) 103) 97 21 103) 104) 97 22 104) 105) 97 28 105) 106) 97 29 106) 107) := hK46.z rfl
  have hF50 : FR 97 R (zR (uR (zR (uR (zR (uR (zR (uR (zR (uR (zR (uR (zR (uR (zR (uR (zR (uR (zR R 98) 97 4 98) 99) 97 5 99) 100) 97 6 100) 101) 97 7 101) 102) 97 20 102) 103) 97 21 103) 104) 97 22 104) 105) 97 28 105) 106) 97 29 106) 107) := hF47.z rfl
  have hK51 : RK ((97, 30, 107) :: ((97, 29, 106) :: ((97, 28, 105) :: ((97, 22, 104) :: ((97, 21, 103) :: ((97, 20, 102) :: ((97, 7, 101) :: ((97, 6, 100) :: ((97, 5, 99) :: ((97, 4, 98) :: ([]))))))))))) (uR (zR (uR (zR (uR (zR (uR (zR (uR (zR (uR (zR (uR (zR (uR (zR (uR (zR (uR (zR R 98) 97 4 98) 99) 97 5 99) 100) 97 6 100) 101) 97 7 101) 102) 97 20 102) 103) 97 21 103) 104) 97 22 104) 105) 97 28 105) 106) 97 29 106) 107) 97 30 107) := hK49.u rfl
  have hF52 : FR 97 R (uR (zR (uR (zR (uR (zR (uR (zR (uR (zR (uR (zR (uR (zR (uR (zR (uR (zR (uR (zR R 98) 97 4 98) 99) 97 5 99) 100) 97 6 100) 101) 97 7 101) 102) 97 20 102) 103) 97 21 103) 104) 97 22 104) 105) 97 28 105) 106) 97 29 106) 107) 97 30 107) := hF50.u rfl
  refine ⟨rfl, ?_⟩
  have hB53 : Bd (zI (zI (zI (zI (zI (zI (zI (uI (uI (zI (zI (zI (zI I 98) 99) 100) 101) 97 10 (-1)) 97 11 (-1)) 102) 103) 104) 105) 106) 107) 108) := hB48.z
  have hK54 : RK ((97, 30, 107) :: ((97, 29, 106) :: ((97, 28, 105) :: ((97, 22, 104) :: ((97, 21, 103) :: ((97, 20, 102) :: ((97, 7, 101) :: ((97, 6, 100) :: ((97, 5, 99) :: ((97, 4, 98) :: ([]))))))))))) (zR (uR (zR (uR (zR (uR (zR (uR (zR (uR (zR (uR (zR (uR (zR (uR (zR (uR (zR (uR (zR R 98) 97 4 98) 99) 97 5 99) 100) 97 6 100) 101) 97 7 101) 102) 97 20 102) 103) 97 21 103) 104) 97 22 104) 105) 97 28 105) 106) 97 29 106) 107) 97 30 107) 108) := hK51.z rfl
  have hF55 : FR 97 R (zR (uR (zR (uR (zR (uR (zR (uR (zR (uR (zR (uR (zR (uR (zR (uR (zR (uR (zR (uR (zR R 98) 97 4 98) 99) 97 5 99) 100) 97 6 100) 101) 97 7 101) 102) 97 20 102) 103) 97 21 103) 104) 97 22 104) 105) 97 28 105) 106) 97 29 106) 107) 97 30 107) 108) := hF52.z rfl
  have hK56 : RK ((97, 35, 108) :: ((97, 30, 107) :: ((97, 29, 106) :: ((97, 28, 105) :: ((97, 22, 104) :: ((97, 21, 103) :: ((97, 20, 102) :: ((97, 7, 101) :: ((97, 6, 100) :: ((97, 5, 99) :: ((97, 4, 98) :: ([])))))))))))) (uR (zR (uR (zR (uR (zR (uR (zR (uR (zR (uR (zR (uR (zR (uR (zR (uR (zR (uR (zR (uR (zR R 98) 97 4 98) 99) 97 5 99) 100) 97 6 100) 101) 97 7 101) 102) 97 20 102) 103) 97 21 103) 104) 97 22 104) 105) 97 28 105) 106) 97 29 106) 107) 97 30 107) 108) 97 35 108) := hK54.u rfl
  have hF57 : FR 97 R (uR (zR (uR (zR (uR (zR (uR (zR (uR (zR (uR (zR (uR (zR (uR (zR (uR (zR (uR (zR (uR (zR R 98) 97 4 98) 99) 97 5 99) 100) 97 6 100) 101) 97 7 101) 102) 97 20 102) 103) 97 21 103) 104) 97 22 104) 105) 97 28 105) 106) 97 29 106) 107) 97 30 107) 108) 97 35 108) := hF55.u rfl
  refine ⟨rfl, ?_⟩
  have hB58 : Bd (zI (zI (zI (zI (zI (zI (zI (zI (uI (uI (zI (zI (zI (zI I 98) 99) 100) 101) 97 10 (-1)) 97 11 (-1)) 102) 103) 104) 105) 106) 107) 108) 109) := hB53.z
  have hK59 : RK ((97, 35, 108) :: ((97, 30, 107) :: ((97, 29, 106) :: ((97, 28, 105) :: ((97, 22, 104) :: ((97, 21, 103) :: ((97, 20, 102) :: ((97, 7, 101) :: ((97, 6, 100) :: ((97, 5, 99) :: ((97, 4, 98) :: ([])))))))))))) (zR (uR (zR (uR (zR (uR (zR (uR (zR (uR (zR (uR (zR (uR (zR (uR (zR (uR (zR (uR (zR (uR (zR R 98) 97 4 98) 99) 97 5 99) 100) 97 6 100) 101) 97 7 101) 102) 97 20 102) 103) 97 21 103) 104) 97 22 104) 105) 97 28 105) 106) 97 29 106) 107) 97 30 107) 108) 97 35 108) 109) := hK56.z rfl
  have hF60 : FR 97 R (zR (uR (zR (uR (zR (uR (zR (uR (zR (uR (zR (uR (zR (uR (zR (uR (zR (uR (zR (uR (zR (uR (zR R 98) 97 4 98) 99) 97 5 99) 100) 97 6 100) 101) 97 7 101) 102) 97 20 102) 103) 97 21 103) 104) 97 22 104) 105) 97 28 105) 106) 97 29 106) 107) 97 30 107) 108) 97 35 108) 109) := hF57.z rfl
  have hK61 : RK ((97, 36, 109) :: ((97, 35, 108) :: ((97, 30, 107) :: ((97, 29, 106) :: ((97, 28, 105) :: ((97, 22, 104) :: ((97, 21, 103) :: ((97, 20, 102) :: ((97, 7, 101) :: ((97, 6, 100) :: ((97, 5, 99) :: ((97, 4, 98) :: ([]))))))))))))) (uR (zR (uR (zR (uR (zR (uR (zR (uR (zR (uR (zR (uR (zR (uR (zR (uR (zR (uR (zR (uR (zR (uR (zR R 98) 97 4 98) 99) 97 5 99) 100) 97 6 100) 101) 97 7 101) 102) 97 20 102) 103) 97 21 103) 104) 97 22 104) 105) 97 28 105) 106) 97 29 106) 107) 97 30 107) 108) 97 35 108) 109) 97 36 109) := hK59.u rfl
  have hF62 : FR 97 R (uR (zR (uR (zR (uR (zR (uR (zR (uR (zR (uR (zR (uR (zR (uR (zR (uR (zR (uR (zR (uR (zR (uR (zR R 98) 97 4 98) 99) 97 5 99) 100) 97 6 100) 101) 97 7 101) 102) 97 20 102) 103) 97 21 103) 104) 97 22 104) 105) 97 28 105) 106) 97 29 106) 107) 97 30 107) 108) 97 35 108) 109) 97 36 109) := hF60.u rfl
  refine ⟨rfl, ?_⟩
  have hB63 : Bd (zI (zI (zI (zI (zI (zI (zI (zI (zI (uI (uI (zI (zI (zI (zI I 98) 99) 100) 101) 97 10 (-1)) 97 11 (-1)) 102) 103) 104) 105) 106) 107) 108) 109) 110) := hB58.z
  have hK64 : RK ((97, 36, 109) :: ((97, 35, 108) :: ((97, 30, 107) :: ((97, 29, 106) :: ((97, 28, 105) :: ((97, 22, 104) :: ((97, 21, 103) :: ((97, 20, 102) :: ((97, 7, 101) :: ((97, 6, 100) :: ((97, 5, 99) :: ((97, 4, 98) :: ([]))))))))))))) (zR (uR (zR (uR (zR (uR (zR (uR (zR (uR (zR (uR (zR (uR (zR (uR (zR (uR (zR (uR (zR (uR (zR (uR (zR R 98) 97 4 98) 99) 97 5 99) 100) 97 6 100) 101) 97 7 101) 102) 97 20 102) 103) 97 21 103) 104) 97 22 104) 105) 97 28 105) 106) 97 29 106) 107) 97 30 107) 108) 97 35 108) 109) 97 36 109) 110) := hK61.z rfl
  have hF65 : FR 97 R (zR (uR (zR (uR (zR (uR (zR (uR (zR (uR (zR (uR (zR (uR (zR (uR (zR (uR (zR (uR (zR (uR (zR (uR (zR R 98) 97 4 98) 99) 97 5 99) 100) 97 6 100) 101) 97 7 101) 102) 97 20 102) 103) 97 21 103) 104) 97 22 104) 105) 97 28 105) 106) 97 29 106) 107) 97 30 107) 108) 97 35 108) 109) 97 36 109) 110) := hF62.z rfl
  have hK66 : RK ((97, 37, 110) :: ((97, 36, 109) :: ((97, 35, 108) :: ((97, 30, 107) :: ((97, 29, 106) :: ((97, 28, 105) :: ((97, 22, 104) :: ((97, 21, 103) :: ((97, 20, 102) :: ((97, 7, 101) :: ((97, 6, 100) :: ((97, 5, 99) :: ((97, 4, 98) :: ([])))))))))))))) (uR (zR (uR (zR (uR (zR (uR (zR (uR (zR (uR (zR (uR (zR (uR (zR (uR (zR (uR (zR (uR (zR (uR (zR (uR (zR R 98) 97 4 98) 99) 97 5 99) 100) 97 6 100) 101) 97 7 101) 102) 97 20 102) 103) 97 21 103) 104) 97 22 104) 105) 97 28 105) 106) 97 29 106) 107) 97 30 107) 108) 97 35 108) 109) 97 36 109) 110) 97 37 110) := hK64.u rfl
  have hF67 : FR 97 R (uR (zR (uR (zR (uR (zR (uR (zR (uR (zR (uR (zR (uR (zR (uR (zR (uR (zR (uR (zR (uR (zR (uR (zR (uR (zR R 98) 97 4 98) 99) 97 5 99) 100) 97 6 100) 101) 97 7 101) 102) 97 20 102) 103) 97 21 103) 104) 97 22 104) 105) 97 28 105) 106) 97 29 106) 107) 97 30 107) 108) 97 35 108) 109) 97 36 109) 110) 97 37 110) := hF65.u rfl
  refine ⟨rfl, ?_⟩
  have hB68 : Bd (zI (zI (zI (zI (zI (zI (zI (zI (zI (zI (uI (uI (zI (zI (zI (zI I 98) 99) 100) 101) 97 10 (-1)) 97 11 (-1)) 102) 103) 104) 105) 106) 107) 108) 109) 110) 111) := hB63.z
  have hK69 : RK ((97, 37, 110) :: ((97, 36, 109) :: ((97, 35, 108) :: ((97, 30, 107) :: ((97, 29, 106) :: ((97, 28, 105) :: ((97, 22, 104) :: ((97, 21, 103) :: ((97, 20, 102) :: ((97, 7, 101) :: ((97, 6, 100) :: ((97, 5, 99) :: ((97, 4, 98) :: ([])))))))))))))) (zR (uR (zR (uR (zR (uR (zR (uR (zR (uR (zR (uR (zR (uR (zR (uR (zR (uR (zR (uR (zR (uR (zR (uR (zR (uR (zR R 98) 97 4 98) 99) 97 5 99) 100) 97 6 100) 101) 97 7 101) 102) 97 20 102) 103) 97 21 103) 104) 97 22 104) 105) 97 28 105) 106) 97 29 106) 107) 97 30 107) 108) 97 35 108) 109) 97 36 109) 110) 97 37 110) 111) := hK66.z rfl
  have hF70 : FR 97 R (zR (uR (zR (uR (zR (uR (zR (uR (zR (uR (zR (uR (zR (uR (zR (uR (zR (uR (zR (uR (zR (uR (zR (uR (zR (uR (zR R 98) 97 4 98) 99) 97 5 99) 100) 97 6 100) 101) 97 7 101) 102) 97 20 102) 103) 97 21 103) 104) 97 22 104) 105) 97 28 105) 106) 97 29 106) 107) 97 30 107) 108) 97 35 108) 109) 97 36 109) 110) 97 37 110) 111) := hF67.z rfl
  have hK71 : RK ((97, 38, 111) :: ((97, 37, 110) :: ((97, 36, 109) :: ((97, 35, 108) :: ((97, 30, 107) :: ((97, 29, 106) :: ((97, 28, 105) :: ((97, 22, 104) :: ((97, 21, 103) :: ((97, 20, 102) :: ((97, 7, 101) :: ((97, 6, 100) :: ((97, 5, 99) :: ((97, 4, 98) :: ([]))))))))))))))) (uR (zR (uR (zR (uR (zR (uR (zR (uR (zR (uR (zR (uR (zR (uR (zR (uR (zR (uR (zR (uR (zR (uR (zR (uR (zR (uR (zR R 98) 97 4 98) 99) 97 5 99) 100) 97 6 100) 101) 97 7 101) 102) 97 20 102) 103) 97 21 103) 104) 97 22 104) 105) 97 28 105) 106) 97 29 106) 107) 97 30 107) 108) 97 35 108) 109) 97 36 109) 110) 97 37 110) 111) 97 38 111) := hK69.u rfl
  have hF72 : FR 97 R (uR (zR (uR (zR (uR (zR (uR (zR (uR (zR (uR (zR (uR (zR (uR (zR (uR (zR (uR (zR (uR (zR (uR (zR (uR (zR (uR (zR R 98) 97 4 98) 99) 97 5 99) 100) 97 6 100) 101) 97 7 101) 102) 97 20 102) 103) 97 21 103) 104) 97 22 104) 105) 97 28 105) 106) 97 29 106) 107) 97 30 107) 108) 97 35 108) 109) 97 36 109) 110) 97 37 110) 111) 97 38 111) := hF70.u rfl
  refine ⟨rfl, ?_⟩
  have hB73 : Bd (zI (zI (zI (zI (zI (zI (zI (zI (zI (zI (zI (uI (uI (zI (zI (zI (zI I 98) 99) 100) 101) 97 10 (-1)) 97 11 (-1)) 102) 103) 104) 105) 106) 107) 108) 109) 110) 111) 112) := hB68.z
  have hK74 : RK ((97, 38, 111) :: ((97, 37, 110) :: ((97, 36, 109) :: ((97, 35, 108) :: ((97, 30, 107) :: ((97, 29, 106) :: ((97, 28, 105) :: ((97, 22, 104) :: ((97, 21, 103) :: ((97, 20, 102) :: ((97, 7, 101) :: ((97, 6, 100) :: ((97, 5, 99) :: ((97, 4, 98) :: ([]))))))))))))))) (zR (uR (zR (uR (zR (uR (zR (uR (zR (uR (zR (uR (zR (uR (zR (uR (zR (uR (zR (uR (zR (uR (zR (uR (zR (uR (zR (uR (zR R 98) 97 4 98) 99) 97 5 99) 100) 97 6 100) 101) 97 7 101) 102) 97 20 102) 103) 97 21 103) 104) 97 22 104) 105) 97 28 105) 106) 97 29 106) 107) 97 30 107) 108) 97 35 108) 109) 97 36 109) 110) 97 37 110) 111) 97 38 111) 112) := hK71.z rfl
  have hF75 : FR 97 R (zR (uR (zR (uR (zR (uR (zR (uR (zR (uR (zR (uR (zR (uR (zR (uR (zR (uR (zR (uR (zR (uR (zR (uR (zR (uR (zR (uR (zR R 98) 97 4 98) 99) 97 5 99) 100) 97 6 100) 101) 97 7 101) 102) 97 20 102) 103) 97 21 103) 104) 97 22 104) 105) 97 28 105) 106) 97 29 106) 107) 97 30 107) 108) 97 35 108) 109) 97 36 109) 110) 97 37 110) 111) 97 38 111) 112) := hF72.z rfl
  have hK76 : RK ((97, 39, 112) :: ((97, 38, 111) :: ((97, 37, 110) :: ((97, 36, 109) :: ((97, 35, 108) :: ((97, 30, 107) :: ((97, 29, 106) :: ((97, 28, 105) :: ((97, 22, 104) :: ((97, 21, 103) :: ((97, 20, 102) :: ((97, 7, 101) :: ((97, 6, 100) :: ((97, 5, 99) :: ((97, 4, 98) :: ([])))))))))))))))) (uR (zR (uR (zR (uR (zR (uR (zR (uR (zR (uR (zR (uR (zR (uR (zR (uR (zR (uR (zR (uR (zR (uR (zR (uR (zR (uR (zR (uR (zR R 98) 97 4 98) 99) 97 5 99) 100) 97 6 100) 101) 97 7 101) 102) 97 20 102) 103) 97 21 103) 104) 97 22 104) 105) 97 28 105) 106) 97 29 106) 107) 97 30 107) 108) 97 35 108) 109) 97 36 109) 110) 97 37 110) 111) 97 38 111) 112) 97 39 112) := hK74.u rfl
  have hF77 : FR 97 R (uR (zR (uR (zR (uR (zR (uR (zR (uR (zR (uR (zR (uR (zR (uR (zR (uR (zR (uR (zR (uR (zR (uR (zR (uR (zR (uR (zR (uR (zR R 98) 97 4 98) 99) 97 5 99) 100) 97 6 100) 101) 97 7 101) 102) 97 20 102) 103) 97 21 103) 104) 97 22 104) 105) 97 28 105) 106) 97 29 106) 107) 97 30 107) 108) 97 35 108) 109) 97 36 109) 110) 97 37 110) 111) 97 38 111) 112) 97 39 112) := hF75.u rfl
  refine cs_X12_init_97_140_112 hc 0 _ _ _ ?_
  refine ⟨fun c => absurd c (by decide), fun _ => ?_⟩
  refine ⟨hK76.ne (show lkq ((97, 39, 112) :: ((97, 38, 111) :: ((97, 37, 110) :: ((97, 36, 109) :: ((97, 35, 108) :: ((97, 30, 107) :: ((97, 29, 106) :: ((97, 28, 105) :: ((97, 22, 104) :: ((97, 21, 103) :: ((97, 20, 102) :: ((97, 7, 101) :: ((97, 6, 100) :: ((97, 5, 99) :: ((97, 4, 98) :: ([])))))))))))))))) 97 5 = true from rfl), ?_⟩
  refine ⟨vp_of rfl (by decide) (by decide), ?_⟩
  have hB78 : Bd (uI (zI (zI (zI (zI (zI (zI (zI (zI (zI (zI (zI (uI (uI (zI (zI (zI (zI I 98) 99) 100) 101) 97 10 (-1)) 97 11 (-1)) 102) 103) 104) 105) 106) 107) 108) 109) 110) 111) 112) 99 (Int32.toNatClampNeg 0) (-1)) := hB73.kw rfl
  refine cs_X12_init_97_140_112 hc (0 + 1) _ _ _ ?_
  refine ⟨fun c => absurd c (by decide), fun _ => ?_⟩
  refine ⟨hK76.ne (show lkq ((97, 39, 112) :: ((97, 38, 111) :: ((97, 37, 110) :: ((97, 36, 109) :: ((97, 35, 108) :: ((97, 30, 107) :: ((97, 29, 106) :: ((97, 28, 105) :: ((97, 22, 104) :: ((97, 21, 103) :: ((97, 20, 102) :: ((97, 7, 101) :: ((97, 6, 100) :: ((97, 5, 99) :: ((97, 4, 98) :: ([])))))))))))))))) 97 5 = true from rfl), ?_⟩
  refine ⟨vp_of rfl (by decide) (by decide), ?_⟩
  have hB79 : Bd (uI (uI (zI (zI (zI (zI (zI (zI (zI (zI (zI (zI (zI (uI (uI (zI (zI (zI (zI I 98) 99) 100) 101) 97 10 (-1)) 97 11 (-1)) 102) 103) 104) 105) 106) 107) 108) 109) 110) 111) 112) 99 (Int32.toNatClampNeg 0) (-1)) 99 (Int32.toNatClampNeg (0 + 1)) (-1)) := hB78.kw rfl
  refine cs_X12_init_97_140_112 hc ((0 + 1) + 1) _ _ _ ?_
  refine ⟨fun c => absurd c (by decide), fun _ => ?_⟩
  refine ⟨hK76.ne (show lkq ((97, 39, 112) :: ((97, 38, 111) :: ((97, 37, 110) :: ((97, 36, 109) :: ((97, 35, 108) :: ((97, 30, 107) :: ((97, 29, 106) :: ((97, 28, 105) :: ((97, 22, 104) :: ((97, 21, 103) :: ((97, 20, 102) :: ((97, 7, 101) :: ((97, 6, 100) :: ((97, 5, 99) :: ((97, 4, 98) :: ([])))))))))))))))) 97 5 = true from rfl), ?_⟩
  refine ⟨vp_of rfl (by decide) (by decide), ?_⟩
  have hB80 : Bd (uI (uI (uI (zI (zI (zI (zI (zI (zI (zI (zI (zI (zI (zI (uI (uI (zI (zI (zI (zI I 98) 99) 100) 101) 97 10 (-1)) 97 11 (-1)) 102) 103) 104) 105) 106) 107) 108) 109) 110) 111) 112) 99 (Int32.toNatClampNeg 0) (-1)) 99 (Int32.toNatClampNeg (0 + 1)) (-1)) 99 (Int32.toNatClampNeg ((0 + 1) + 1)) (-1)) := hB79.kw rfl
  refine cs_X12_init_97_140_112 hc (((0 + 1) + 1) + 1) _ _ _ ?_
  refine ⟨fun c => absurd c (by decide), fun _ => ?_⟩
  refine ⟨hK76.ne (show lkq ((97, 39, 112) :: ((97, 38, 111) :: ((97, 37, 110) :: ((97, 36, 109) :: ((97, 35, 108) :: ((97, 30, 107) :: ((97, 29, 106) :: ((97, 28, 105) :: ((97, 22, 104) :: ((97, 21, 103) :: ((97, 20, 102) :: ((97, 7, 101) :: ((97, 6, 100) :: ((97, 5, 99) :: ((97, 4, 98) :: ([])))))))))))))))) 97 5 = true from rfl), ?_⟩
  refine ⟨vp_of rfl (by decide) (by decide), ?_⟩
  have hB81 : Bd (uI (uI (uI (uI (zI (zI (zI (zI (zI (zI (zI (zI (zI (zI (zI (uI (uI (zI (zI (zI (zI I 98) 99) 100) 101) 97 10 (-1)) 97 11 (-1)) 102) 103) 104) 105) 106) 107) 108) 109) 110) 111) 112) 99 (Int32.toNatClampNeg 0) (-1)) 99 (Int32.toNatClampNeg (0 + 1)) (-1)) 99 (Int32.toNatClampNeg ((0 + 1) + 1)) (-1)) 99 (Int32.toNatClampNeg (((0 + 1) + 1) + 1)) (-1)) := hB80.kw rfl
  refine cs_X12_init_97_140_112 hc ((((0 + 1) + 1) + 1) + 1) _ _ _ ?_
  refine ⟨fun _ => ?_, fun c => absurd (by decide) c⟩
  refine ⟨⟨fl_of (RK.app (show RK lk_X12_init_97 (uR (zR (uR (zR (uR (zR (uR (zR (uR (zR (uR (zR (uR (zR (uR (zR (uR (zR (uR (zR (uR (zR (uR (zR (uR (zR (uR (zR (uR (zR R 98) 97 4 98) 99) 97 5 99) 100) 97 6 100) 101) 97 7 101) 102) 97 20 102) 103) 97 21 103) 104) 97 22 104) 105) 97 28 105) 106) 97 29 106) 107) 97 30 107) 108) 97 35 108) 109) 97 36 109) 110) 97 37 110) 111) 97 38 111) 112) 97 39 112) from hK76) (RK.fr hL hF77 rfl)), rfl⟩, ?_⟩
  refine emp_b (b := 0) hB81 rfl (by decide) (fun x y I2 J2 hB2 _ => ⟨rfl, fun z => absurd z (by decide), hQ _ _ _ hB2 hF77 hK76⟩)
