/-! ===== what makes objects: bounds hold, the references lie as they are to ===== -/
def okb (b : Option (Int × Int)) (v : Int) : Bool := match b with
  | none => true
  | some (lo, hi) => decide (lo ≤ v) && decide (v ≤ hi)
theorem okb_spec {b : Option (Int × Int)} {v lo hi : Int} (h : okb b v = true) (hb : b = some (lo, hi)) : lo ≤ v ∧ v ≤ hi := by
  subst hb
  unfold okb at h
  rw [Bool.and_eq_true, decide_eq_true_eq, decide_eq_true_eq] at h
  exact h
theorem Bd.kw {I : Im} (h : Bd I) {o k : Nat} {v : Int32} (hk : (okb (bnd (clsOf o) k) v.toInt && (okb (bna o) v.toInt && !(Nat.beq o 102))) = true) : Bd (uI I o k v) := by
  rw [Bool.and_eq_true, Bool.and_eq_true] at hk
  refine h.up (fun lo hi q => okb_spec hk.1 q) (fun lo hi q => okb_spec hk.2.1 q) (fun q => ?_)
  subst q; exact absurd hk.2.2 (by decide)
theorem bnd_0 {ci k : Nat} {lo hi : Int} (h : bnd ci k = some (lo, hi)) : lo ≤ 0 ∧ 0 ≤ hi := by
  unfold bnd at h
  split at h <;> first | (cases h; decide) | (cases h)
theorem bna_0 {a : Nat} {lo hi : Int} (h : bna a = some (lo, hi)) : lo ≤ 0 ∧ 0 ≤ hi := by
  unfold bna at h
  split at h <;> first | (cases h; decide) | (cases h)
theorem CK.zero : CK (fun _ => 0) := by
  have z0 : (0 : Int32).toInt = 0 := rfl
  refine ⟨fun j => ?_, fun c k hc hk => ?_, fun c s hc hd hs => absurd rfl hd⟩
  · show CB j (0 : Int32).toInt
    rw [z0]; unfold CB; omega
  · have : (k : Int) < (0 : Int32).toInt := hk
    omega
theorem Bd.z {I : Im} (h : Bd I) {a : Nat} : Bd (zI I a) := by
  have e : ∀ o, (zI I a o = fun _ => 0) ∨ zI I a o = I o := fun o => by
    by_cases q : o = a
    · exact Or.inl (if_pos q)
    · exact Or.inr (if_neg q)
  refine ⟨fun o k lo hi hb => ?_, fun o j lo hi hb => ?_, ?_⟩
  · rcases e o with q | q
    · rw [q]; exact bnd_0 hb
    · rw [q]; exact h.1 o k lo hi hb
  · rcases e o with q | q
    · rw [q]; exact bna_0 hb
    · rw [q]; exact h.2.1 o j lo hi hb
  · rcases e 102 with q | q
    · rw [q]; exact CK.zero
    · rw [q]; exact h.2.2
/-- the places that both sides have alike are 0 while the objects are made -/
def ZP : List (Nat × Nat) := [(3, 1), (1, 13), (97, 8), (97, 23), (53, 0), (55, 0), (57, 0), (59, 0), (98, 0), (98, 1), (98, 2), (98, 3)]
def BZ (I : Im) : Prop := Bd I ∧ ∀ q ∈ ZP, I q.1 q.2 = 0
theorem BZ.kw {I : Im} (h : BZ I) {o k : Nat} {v : Int32} (hk : (okb (bnd (clsOf o) k) v.toInt && (okb (bna o) v.toInt && !(Nat.beq o 102))) = true) (hz : ZP.all (fun q => !(Nat.beq q.1 o && Nat.beq q.2 k) || decide (v.toInt = 0)) = true) : BZ (uI I o k v) := by
  refine ⟨h.1.kw hk, fun q hq => ?_⟩
  have h1 := List.all_eq_true.mp hz q hq
  rw [Bool.or_eq_true, Bool.not_eq_true', decide_eq_true_eq] at h1
  by_cases ho : q.1 = o
  · by_cases hk2 : q.2 = k
    · rcases h1 with h1 | h1
      · rw [ho, hk2, nb_refl, nb_refl] at h1; exact absurd h1 (by decide)
      · rw [ho, hk2, uI_eq]
        have : upd (I o) k v k = v := by simp [upd]
        rw [this]; exact Int32.toInt_inj.mp h1
    · rw [ho, uI_eq]
      have : upd (I o) k v q.2 = I o q.2 := by simp [upd, hk2]
      rw [this, ← ho]; exact h.2 q hq
  · rw [uI_ne ho]; exact h.2 q hq
theorem BZ.z {I : Im} (h : BZ I) {a : Nat} : BZ (zI I a) := by
  refine ⟨h.1.z, fun q hq => ?_⟩
  by_cases ho : q.1 = a
  · show (if q.1 = a then (fun _ => 0) else I q.1) q.2 = 0
    rw [if_pos ho]
  · rw [zI_ne ho]; exact h.2 q hq
/-- what is known of ints -/
def KI (L : List (Nat × Nat × Int32)) (I : Im) : Prop := ∀ q ∈ L, I q.1 q.2.1 = q.2.2
def FI (n : Nat) (I I2 : Im) : Prop := ∀ o, o < n → I2 o = I o
theorem KI.nil {I : Im} : KI [] I := fun q h => by cases h
theorem KI.z {L : List (Nat × Nat × Int32)} {I : Im} (h : KI L I) {a : Nat} (ha : L.all (fun q => !(Nat.beq q.1 a)) = true) : KI L (zI I a) := fun q hq => by
  have h1 := List.all_eq_true.mp ha q hq
  have h2 : ¬ q.1 = a := fun z => by rw [z, nb_refl] at h1; cases h1
  rw [zI_ne h2]; exact h q hq
theorem KI.w {L : List (Nat × Nat × Int32)} {I : Im} (h : KI L I) {a j : Nat} {v : Int32} (ha : L.all (fun q => !(Nat.beq q.1 a && Nat.beq q.2.1 j)) = true) : KI L (uI I a j v) := fun q hq => by
  have h1 := List.all_eq_true.mp ha q hq
  by_cases z : q.1 = a
  · have h2 : ¬ q.2.1 = j := fun y => by rw [z, y, nb_refl, nb_refl] at h1; cases h1
    have h3 := h q hq
    rw [z] at h3
    rw [z, uI_eq]
    have : upd (I a) j v q.2.1 = I a q.2.1 := by simp [upd, h2]
    rw [this]; exact h3
  · rw [uI_ne z]; exact h q hq
theorem KI.u {L : List (Nat × Nat × Int32)} {I : Im} (h : KI L I) {a j : Nat} {v : Int32} (ha : L.all (fun q => !(Nat.beq q.1 a && Nat.beq q.2.1 j)) = true) : KI ((a, j, v) :: L) (uI I a j v) := fun q hq => by
  rcases List.mem_cons.mp hq with rfl | hq
  · show uI I a j v a j = v
    rw [uI_eq]; simp [upd]
  · exact h.w ha q hq
theorem KI.app {A B : List (Nat × Nat × Int32)} {I : Im} (h : KI A I) (h2 : KI B I) : KI (A ++ B) I := fun q hq => by
  rcases List.mem_append.mp hq with hq | hq
  · exact h q hq
  · exact h2 q hq
theorem KI.fr {L : List (Nat × Nat × Int32)} {I I2 : Im} (h : KI L I) {n : Nat} (hf : FI n I I2) (hL : L.all (fun q => Nat.blt q.1 n) = true) : KI L I2 := fun q hq => by
  have h1 := List.all_eq_true.mp hL q hq
  rw [hf q.1 (Nat.lt_of_lt_of_le (Nat.lt_succ_self _) (Nat.le_of_ble_eq_true h1))]; exact h q hq
theorem FI.refl (n : Nat) (I : Im) : FI n I I := fun _ _ => rfl
theorem FI.z {n : Nat} {I I2 : Im} (h : FI n I I2) {a : Nat} (ha : Nat.ble n a = true) : FI n I (zI I2 a) := fun o ho => by
  have := Nat.le_of_ble_eq_true ha
  rw [zI_ne (by omega)]; exact h o ho
theorem FI.w {n : Nat} {I I2 : Im} (h : FI n I I2) {a j : Nat} {v : Int32} (ha : Nat.ble n a = true) : FI n I (uI I2 a j v) := fun o ho => by
  have := Nat.le_of_ble_eq_true ha
  rw [uI_ne (by omega)]; exact h o ho
theorem Bd.start : Bd (fun _ _ => 0) := ⟨fun _ _ _ _ hb => bnd_0 hb, fun _ _ _ _ hb => bna_0 hb, CK.zero⟩
theorem BZ.at {I : Im} (h : BZ I) {o k : Nat} (hq : (o, k) ∈ ZP) : I o k = 0 := h.2 (o, k) hq
theorem KI.at {L : List (Nat × Nat × Int32)} {I : Im} (h : KI L I) {o k : Nat} {v : Int32} (hq : (o, k, v) ∈ L) : I o k = v := h (o, k, v) hq
theorem BZ.start : BZ (fun _ _ => 0) := ⟨Bd.start, fun _ _ => rfl⟩
/-- what is known of the references -/
def RK (L : List (Nat × Nat × Nat)) (R : Rm) : Prop := ∀ q ∈ L, R q.1 q.2.1 = q.2.2
theorem RK.nil {R : Rm} : RK [] R := fun q h => by cases h
theorem RK.z {L : List (Nat × Nat × Nat)} {R : Rm} (h : RK L R) {a : Nat} (ha : L.all (fun q => !(Nat.beq q.1 a)) = true) : RK L (zR R a) := fun q hq => by
  have h1 := List.all_eq_true.mp ha q hq
  have h2 : ¬ q.1 = a := fun z => by rw [z, Nat.beq_refl] at h1; cases h1
  show (if q.1 = a then (fun _ => 0) else R q.1) q.2.1 = q.2.2
  rw [if_neg h2]; exact h q hq
theorem RK.u {L : List (Nat × Nat × Nat)} {R : Rm} (h : RK L R) {a j v : Nat} (ha : L.all (fun q => !(Nat.beq q.1 a && Nat.beq q.2.1 j)) = true) : RK ((a, j, v) :: L) (uR R a j v) := fun q hq => by
  rcases List.mem_cons.mp hq with rfl | hq
  · show (if a = a then va_up (R a) j v else R a) j = v
    rw [if_pos rfl]; exact if_pos rfl
  · have h1 := List.all_eq_true.mp ha q hq
    show (if q.1 = a then va_up (R a) j v else R q.1) q.2.1 = q.2.2
    by_cases z : q.1 = a
    · rw [if_pos z]
      have h2 : ¬ q.2.1 = j := fun y => by rw [z, y, Nat.beq_refl, Nat.beq_refl] at h1; cases h1
      show (if q.2.1 = j then v else R a q.2.1) = q.2.2
      rw [if_neg h2, ← z]; exact h q hq
    · rw [if_neg z]; exact h q hq
theorem RK.app {A B : List (Nat × Nat × Nat)} {R : Rm} (h : RK A R) (h2 : RK B R) : RK (A ++ B) R := fun q hq => by
  rcases List.mem_append.mp hq with hq | hq
  · exact h q hq
  · exact h2 q hq
/-- the cells before one are as they were -/
def FR (n : Nat) (R R2 : Rm) : Prop := ∀ o, o < n → R2 o = R o
theorem FR.refl (n : Nat) (R : Rm) : FR n R R := fun _ _ => rfl
theorem FR.z {n : Nat} {R R2 : Rm} (h : FR n R R2) {a : Nat} (ha : Nat.ble n a = true) : FR n R (zR R2 a) := fun o ho => by
  have := Nat.le_of_ble_eq_true ha
  show (if o = a then (fun _ => 0) else R2 o) = R o
  rw [if_neg (by omega)]; exact h o ho
theorem FR.u {n : Nat} {R R2 : Rm} (h : FR n R R2) {a j v : Nat} (ha : Nat.ble n a = true) : FR n R (uR R2 a j v) := fun o ho => by
  have := Nat.le_of_ble_eq_true ha
  show (if o = a then va_up (R2 a) j v else R2 o) = R o
  rw [if_neg (by omega)]; exact h o ho
theorem RK.fr {L : List (Nat × Nat × Nat)} {R R2 : Rm} (h : RK L R) {n : Nat} (hf : FR n R R2) (hL : L.all (fun q => Nat.blt q.1 n) = true) : RK L R2 := fun q hq => by
  have h1 := List.all_eq_true.mp hL q hq
  rw [hf q.1 (Nat.lt_of_lt_of_le (Nat.lt_succ_self _) (Nat.le_of_ble_eq_true h1))]; exact h q hq
def lkq (L : List (Nat × Nat × Nat)) (o k : Nat) : Bool := L.any (fun q => Nat.beq q.1 o && (Nat.beq q.2.1 k && !(Nat.beq q.2.2 0)))
theorem RK.ne {L : List (Nat × Nat × Nat)} {R : Rm} (h : RK L R) {o k : Nat} (hq : lkq L o k = true) : ¬ R o k = 0 := by
  obtain ⟨q, h1, h2⟩ := List.any_eq_true.mp hq
  rw [Bool.and_eq_true, Bool.and_eq_true] at h2
  have e1 := Nat.eq_of_beq_eq_true h2.1
  have e2 := Nat.eq_of_beq_eq_true h2.2.1
  intro z
  have h3 := h q h1
  rw [e1, e2, z] at h3
  rw [← h3] at h2
  exact absurd h2.2.2 (by decide)
theorem RK.at {L : List (Nat × Nat × Nat)} {R : Rm} (h : RK L R) {o k v : Nat} (hq : L.contains (o, k, v) = true) : R o k = v := h (o, k, v) (List.contains_iff_mem.mp hq)
theorem amc_of {d mi rk : Nat} {n al kr : Nat} {as : List Value} {I : Im} {J : Jm} {R : Rm} {Q : Qt} {k : List En} (h1 : Nat.beq mi mReader = false) (hc : (mQ mi).1 = k) (hrk : qRk (mQ mi) = rk) (hal : qAl (mQ mi) = al) (hkr : qKr (mQ mi) = kr) (hph : Nat.beq (qPh (mQ mi)) 1 = false) (hlen : (lg_sl as).length ≤ qL (mQ mi)) (h : ∀ P : Kt, Cl (AM d) false false 0 (fun _ => 0) rk (n + al) k (fun n' x y I' J' R' => n' = n + al ∧ (kr = 1 → R' = R) ∧ Q x y I' J' R') P → P 0 n (lv_args 0 as) [] I J R) : AM (d + 1) mi n as I J R Q := by
  unfold AM
  rw [h1]
  refine ⟨hlen, ?_⟩
  rw [hc, hrk, hal, hph, hkr]
  exact h

def lk_X6_init_3 : List (Nat × Nat × Nat) := [(3, 0, 4), (3, 2, 5)]
def zk_X6_init_3 : List (Nat × Nat × Int32) := []
theorem ct_X6_init_3 {d : Nat} {Q : Qt} {I : Im} {J : Jm} {R : Rm} (hB : BZ I) (hQ : ∀ (I2 : Im) (J2 : Jm) (R2 : Rm), BZ I2 → FR 3 R R2 → RK lk_X6_init_3 R2 → FI 3 I I2 → KI zk_X6_init_3 I2 → Q 0 0 I2 J2 R2) : AM (d + 6) 58 3 [.ref 3] I J R Q := by
  unfold AM
  show hReader 3 [.ref 3] I J R Q
  refine ⟨3, rfl, rfl, ⟨rfl, rfl, rfl, rfl, rfl⟩, ?_⟩
  intro I' J' R' hI hJ hR ⟨b0, r0, r2, i1, i3, i4, i5, i6, i7, i8, i9, j10, i11, i12, i13⟩
  refine hQ I' J' R' ⟨?_, fun q hq => ?_⟩ (fun o ho => hR o (by omega) (by omega) (by omega)) (fun q hq => ?_) (fun o ho => hI o (by omega) (by omega) (by omega)) (fun q hq => by cases hq)
  · refine ⟨fun o k lo hi hb => ?_, fun a j lo hi hb => ?_, ?_⟩
    · by_cases q3 : o = 3
      · subst q3
        have hb2 : bnd 6 k = some (lo, hi) := hb
        unfold bnd at hb2
        split at hb2 <;> first | (rename_i z; cases z) | skip
        all_goals first | (cases hb2; first | (rw [i1]; decide) | (rw [i3]; decide) | (rw [i4]; decide) | (rw [i5]; decide) | (rw [i6]; decide)) | (cases hb2)
      · by_cases q4 : o = 4
        · subst q4; rw [show bnd (clsOf 4) k = none from bnd_A (t := 2) rfl k] at hb; cases hb
        · by_cases q5 : o = 5
          · subst q5; rw [show bnd (clsOf 5) k = none from bnd_A (t := 1) rfl k] at hb; cases hb
          · rw [hI o q3 q4 q5]; exact hB.1.1 o k lo hi hb
    · by_cases q3 : a = 3
      · subst q3; cases hb
      · by_cases q4 : a = 4
        · subst q4; cases hb
        · by_cases q5 : a = 5
          · subst q5; cases hb
          · rw [hI a q3 q4 q5]; exact hB.1.2.1 a j lo hi hb
    · rw [hI 102 (by decide) (by decide) (by decide)]; exact hB.1.2.2
  · have hz : ∀ q ∈ ZP, ¬ q.1 = 4 ∧ ¬ q.1 = 5 ∧ (q.1 = 3 → q.2 = 1) := by decide
    obtain ⟨h4, h5, h3⟩ := hz q hq
    by_cases q3 : q.1 = 3
    · rw [q3, h3 q3]; exact i1
    · rw [hI q.1 q3 h4 h5]; exact hB.2 q hq
  · rcases List.mem_cons.mp hq with rfl | hq
    · exact r0
    · rcases List.mem_cons.mp hq with rfl | hq
      · exact r2
      · cases hq
def zk_X1_init_6 : List (Nat × Nat × Int32) := []
theorem ct_X1_init_6 {d : Nat} {Q : Qt} {I : Im} {J : Jm} {R : Rm} (hB : BZ I) (hQ : ∀ (I2 : Im) (J2 : Jm) (R2 : Rm), BZ I2 → R2 = R → True → FI 6 I I2 → KI zk_X1_init_6 I2 → Q 0 0 I2 J2 R2) : AM (d + 1) 20 6 [.ref 6] I J R Q := by
  refine amc_of (k := kX1_init) rfl rfl rfl rfl rfl rfl (Nat.le_of_ble_eq_true rfl) (fun P hc => ?_)
  refine cs_X1_init_6_0_6 hc _ _ _ ?_
  refine ⟨Or.inl rfl, ?_⟩
  have hB1 : BZ (uI I 6 0 0) := hB.kw rfl rfl
  have hZ2 : KI ([]) (uI I 6 0 0) := (KI.nil (I := I)).w rfl
  have hI3 : FI 6 I (uI I 6 0 0) := (FI.refl 6 I).w rfl
  refine ⟨Or.inl rfl, ?_⟩
  have hB4 : BZ (uI (uI I 6 0 0) 6 1 0) := hB1.kw rfl rfl
  have hZ5 : KI ([]) (uI (uI I 6 0 0) 6 1 0) := hZ2.w rfl
  have hI6 : FI 6 I (uI (uI I 6 0 0) 6 1 0) := hI3.w rfl
  have hB7 : BZ (uI (uI (uI I 6 0 0) 6 1 0) 6 2 0) := hB4.kw rfl rfl
  have hZ8 : KI ([]) (uI (uI (uI I 6 0 0) 6 1 0) 6 2 0) := hZ5.w rfl
  have hI9 : FI 6 I (uI (uI (uI I 6 0 0) 6 1 0) 6 2 0) := hI6.w rfl
  exact ⟨rfl, fun _ => rfl, hQ _ _ _ hB7 rfl trivial hI9 hZ8⟩
def zk_X3_init_7 : List (Nat × Nat × Int32) := []
def lk_X3_init_7 : List (Nat × Nat × Nat) := (7, 0, 8) :: ([])
set_option maxHeartbeats 4000000 in
set_option maxRecDepth 100000 in
theorem ct_X3_init_7 {d : Nat} {Q : Qt} {I : Im} {J : Jm} {R : Rm} (hB : BZ I) (hQ : ∀ (I2 : Im) (J2 : Jm) (R2 : Rm), BZ I2 → FR 7 R R2 → RK lk_X3_init_7 R2 → FI 7 I I2 → KI zk_X3_init_7 I2 → Q 0 0 I2 J2 R2) : AM (d + 1) 32 7 [.ref 7] I J R Q := by
  refine amc_of (k := kX3_init) rfl rfl rfl rfl rfl rfl (Nat.le_of_ble_eq_true rfl) (fun P hc => ?_)
  refine cs_X3_init_7_0_7 hc _ _ _ ?_
  refine ⟨rfl, ?_⟩
  have hB1 : BZ (zI I 8) := hB.z
  have hZ2 : KI ([]) (zI I 8) := (KI.nil (I := I)).z rfl
  have hI3 : FI 7 I (zI I 8) := (FI.refl 7 I).z rfl
  have hK4 : RK ([]) (zR R 8) := (RK.nil (R := R)).z rfl
  have hF5 : FR 7 R (zR R 8) := (FR.refl 7 R).z rfl
  have hK6 : RK ((7, 0, 8) :: ([])) (uR (zR R 8) 7 0 8) := hK4.u rfl
  have hF7 : FR 7 R (uR (zR R 8) 7 0 8) := hF5.u rfl
  have hB8 : BZ (uI (zI I 8) 7 1 0) := hB1.kw rfl rfl
  have hZ9 : KI ([]) (uI (zI I 8) 7 1 0) := hZ2.w rfl
  have hI10 : FI 7 I (uI (zI I 8) 7 1 0) := hI3.w rfl
  exact ⟨rfl, fun z => absurd z (by decide), hQ _ _ _ hB8 hF7 hK6 hI10 hZ9⟩
def zk_X0_init_9 : List (Nat × Nat × Int32) := []
def lk_X0_init_9 : List (Nat × Nat × Nat) := (9, 8, 14) :: ((9, 7, 13) :: ((9, 6, 12) :: ((9, 5, 11) :: ((9, 0, 10) :: ([])))))
set_option maxHeartbeats 4000000 in
set_option maxRecDepth 100000 in
theorem ct_X0_init_9 {d : Nat} {Q : Qt} {I : Im} {J : Jm} {R : Rm} (hB : BZ I) (hQ : ∀ (I2 : Im) (J2 : Jm) (R2 : Rm), BZ I2 → FR 9 R R2 → RK lk_X0_init_9 R2 → FI 9 I I2 → KI zk_X0_init_9 I2 → Q 0 0 I2 J2 R2) : AM (d + 1) 0 9 [.ref 9] I J R Q := by
  refine amc_of (k := kX0_init) rfl rfl rfl rfl rfl rfl (Nat.le_of_ble_eq_true rfl) (fun P hc => ?_)
  refine cs_X0_init_9_0_9 hc _ _ _ ?_
  refine ⟨rfl, ?_⟩
  have hB1 : BZ (zI I 10) := hB.z
  have hZ2 : KI ([]) (zI I 10) := (KI.nil (I := I)).z rfl
  have hI3 : FI 9 I (zI I 10) := (FI.refl 9 I).z rfl
  have hK4 : RK ([]) (zR R 10) := (RK.nil (R := R)).z rfl
  have hF5 : FR 9 R (zR R 10) := (FR.refl 9 R).z rfl
  have hK6 : RK ((9, 0, 10) :: ([])) (uR (zR R 10) 9 0 10) := hK4.u rfl
  have hF7 : FR 9 R (uR (zR R 10) 9 0 10) := hF5.u rfl
  have hB8 : BZ (uI (zI I 10) 9 1 4) := hB1.kw rfl rfl
  have hZ9 : KI ([]) (uI (zI I 10) 9 1 4) := hZ2.w rfl
  have hI10 : FI 9 I (uI (zI I 10) 9 1 4) := hI3.w rfl
  have hB11 : BZ (uI (uI (zI I 10) 9 1 4) 9 2 1073741823) := hB8.kw rfl rfl
  have hZ12 : KI ([]) (uI (uI (zI I 10) 9 1 4) 9 2 1073741823) := hZ9.w rfl
  have hI13 : FI 9 I (uI (uI (zI I 10) 9 1 4) 9 2 1073741823) := hI10.w rfl
  have hB14 : BZ (uI (uI (uI (zI I 10) 9 1 4) 9 2 1073741823) 9 3 0) := hB11.kw rfl rfl
  have hZ15 : KI ([]) (uI (uI (uI (zI I 10) 9 1 4) 9 2 1073741823) 9 3 0) := hZ12.w rfl
  have hI16 : FI 9 I (uI (uI (uI (zI I 10) 9 1 4) 9 2 1073741823) 9 3 0) := hI13.w rfl
  have hB17 : BZ (uI (uI (uI (uI (zI I 10) 9 1 4) 9 2 1073741823) 9 3 0) 9 4 0) := hB14.kw rfl rfl
  have hZ18 : KI ([]) (uI (uI (uI (uI (zI I 10) 9 1 4) 9 2 1073741823) 9 3 0) 9 4 0) := hZ15.w rfl
  have hI19 : FI 9 I (uI (uI (uI (uI (zI I 10) 9 1 4) 9 2 1073741823) 9 3 0) 9 4 0) := hI16.w rfl
  refine ⟨rfl, ?_⟩
  have hB20 : BZ (zI (uI (uI (uI (uI (zI I 10) 9 1 4) 9 2 1073741823) 9 3 0) 9 4 0) 11) := hB17.z
  have hZ21 : KI ([]) (zI (uI (uI (uI (uI (zI I 10) 9 1 4) 9 2 1073741823) 9 3 0) 9 4 0) 11) := hZ18.z rfl
  have hI22 : FI 9 I (zI (uI (uI (uI (uI (zI I 10) 9 1 4) 9 2 1073741823) 9 3 0) 9 4 0) 11) := hI19.z rfl
  have hK23 : RK ((9, 0, 10) :: ([])) (zR (uR (zR R 10) 9 0 10) 11) := hK6.z rfl
  have hF24 : FR 9 R (zR (uR (zR R 10) 9 0 10) 11) := hF7.z rfl
  have hK25 : RK ((9, 5, 11) :: ((9, 0, 10) :: ([]))) (uR (zR (uR (zR R 10) 9 0 10) 11) 9 5 11) := hK23.u rfl
  have hF26 : FR 9 R (uR (zR (uR (zR R 10) 9 0 10) 11) 9 5 11) := hF24.u rfl
  refine ⟨rfl, ?_⟩
  have hB27 : BZ (zI (zI (uI (uI (uI (uI (zI I 10) 9 1 4) 9 2 1073741823) 9 3 0) 9 4 0) 11) 12) := hB20.z
  have hZ28 : KI ([]) (zI (zI (uI (uI (uI (uI (zI I 10) 9 1 4) 9 2 1073741823) 9 3 0) 9 4 0) 11) 12) := hZ21.z rfl
  have hI29 : FI 9 I (zI (zI (uI (uI (uI (uI (zI I 10) 9 1 4) 9 2 1073741823) 9 3 0) 9 4 0) 11) 12) := hI22.z rfl
  have hK30 : RK ((9, 5, 11) :: ((9, 0, 10) :: ([]))) (zR (uR (zR (uR (zR R 10) 9 0 10) 11) 9 5 11) 12) := hK25.z rfl
  have hF31 : FR 9 R (zR (uR (zR (uR (zR R 10) 9 0 10) 11) 9 5 11) 12) := hF26.z rfl
  have hK32 : RK ((9, 6, 12) :: ((9, 5, 11) :: ((9, 0, 10) :: ([])))) (uR (zR (uR (zR (uR (zR R 10) 9 0 10) 11) 9 5 11) 12) 9 6 12) := hK30.u rfl
  have hF33 : FR 9 R (uR (zR (uR (zR (uR (zR R 10) 9 0 10) 11) 9 5 11) 12) 9 6 12) := hF31.u rfl
  refine ⟨rfl, ?_⟩
  have hB34 : BZ (zI (zI (zI (uI (uI (uI (uI (zI I 10) 9 1 4) 9 2 1073741823) 9 3 0) 9 4 0) 11) 12) 13) := hB27.z
  have hZ35 : KI ([]) (zI (zI (zI (uI (uI (uI (uI (zI I 10) 9 1 4) 9 2 1073741823) 9 3 0) 9 4 0) 11) 12) 13) := hZ28.z rfl
  have hI36 : FI 9 I (zI (zI (zI (uI (uI (uI (uI (zI I 10) 9 1 4) 9 2 1073741823) 9 3 0) 9 4 0) 11) 12) 13) := hI29.z rfl
  have hK37 : RK ((9, 6, 12) :: ((9, 5, 11) :: ((9, 0, 10) :: ([])))) (zR (uR (zR (uR (zR (uR (zR R 10) 9 0 10) 11) 9 5 11) 12) 9 6 12) 13) := hK32.z rfl
  have hF38 : FR 9 R (zR (uR (zR (uR (zR (uR (zR R 10) 9 0 10) 11) 9 5 11) 12) 9 6 12) 13) := hF33.z rfl
  have hK39 : RK ((9, 7, 13) :: ((9, 6, 12) :: ((9, 5, 11) :: ((9, 0, 10) :: ([]))))) (uR (zR (uR (zR (uR (zR (uR (zR R 10) 9 0 10) 11) 9 5 11) 12) 9 6 12) 13) 9 7 13) := hK37.u rfl
  have hF40 : FR 9 R (uR (zR (uR (zR (uR (zR (uR (zR R 10) 9 0 10) 11) 9 5 11) 12) 9 6 12) 13) 9 7 13) := hF38.u rfl
  refine ⟨rfl, ?_⟩
  have hB41 : BZ (zI (zI (zI (zI (uI (uI (uI (uI (zI I 10) 9 1 4) 9 2 1073741823) 9 3 0) 9 4 0) 11) 12) 13) 14) := hB34.z
  have hZ42 : KI ([]) (zI (zI (zI (zI (uI (uI (uI (uI (zI I 10) 9 1 4) 9 2 1073741823) 9 3 0) 9 4 0) 11) 12) 13) 14) := hZ35.z rfl
  have hI43 : FI 9 I (zI (zI (zI (zI (uI (uI (uI (uI (zI I 10) 9 1 4) 9 2 1073741823) 9 3 0) 9 4 0) 11) 12) 13) 14) := hI36.z rfl
  have hK44 : RK ((9, 7, 13) :: ((9, 6, 12) :: ((9, 5, 11) :: ((9, 0, 10) :: ([]))))) (zR (uR (zR (uR (zR (uR (zR (uR (zR R 10) 9 0 10) 11) 9 5 11) 12) 9 6 12) 13) 9 7 13) 14) := hK39.z rfl
  have hF45 : FR 9 R (zR (uR (zR (uR (zR (uR (zR (uR (zR R 10) 9 0 10) 11) 9 5 11) 12) 9 6 12) 13) 9 7 13) 14) := hF40.z rfl
  have hK46 : RK ((9, 8, 14) :: ((9, 7, 13) :: ((9, 6, 12) :: ((9, 5, 11) :: ((9, 0, 10) :: ([])))))) (uR (zR (uR (zR (uR (zR (uR (zR (uR (zR R 10) 9 0 10) 11) 9 5 11) 12) 9 6 12) 13) 9 7 13) 14) 9 8 14) := hK44.u rfl
  have hF47 : FR 9 R (uR (zR (uR (zR (uR (zR (uR (zR (uR (zR R 10) 9 0 10) 11) 9 5 11) 12) 9 6 12) 13) 9 7 13) 14) 9 8 14) := hF45.u rfl
  exact ⟨rfl, fun z => absurd z (by decide), hQ _ _ _ hB41 hF47 hK46 hI43 hZ42⟩
def zk_X0_init_15 : List (Nat × Nat × Int32) := []
def lk_X0_init_15 : List (Nat × Nat × Nat) := (15, 8, 20) :: ((15, 7, 19) :: ((15, 6, 18) :: ((15, 5, 17) :: ((15, 0, 16) :: ([])))))
set_option maxHeartbeats 4000000 in
set_option maxRecDepth 100000 in
theorem ct_X0_init_15 {d : Nat} {Q : Qt} {I : Im} {J : Jm} {R : Rm} (hB : BZ I) (hQ : ∀ (I2 : Im) (J2 : Jm) (R2 : Rm), BZ I2 → FR 15 R R2 → RK lk_X0_init_15 R2 → FI 15 I I2 → KI zk_X0_init_15 I2 → Q 0 0 I2 J2 R2) : AM (d + 1) 0 15 [.ref 15] I J R Q := by
  refine amc_of (k := kX0_init) rfl rfl rfl rfl rfl rfl (Nat.le_of_ble_eq_true rfl) (fun P hc => ?_)
  refine cs_X0_init_15_0_15 hc _ _ _ ?_
  refine ⟨rfl, ?_⟩
  have hB1 : BZ (zI I 16) := hB.z
  have hZ2 : KI ([]) (zI I 16) := (KI.nil (I := I)).z rfl
  have hI3 : FI 15 I (zI I 16) := (FI.refl 15 I).z rfl
  have hK4 : RK ([]) (zR R 16) := (RK.nil (R := R)).z rfl
  have hF5 : FR 15 R (zR R 16) := (FR.refl 15 R).z rfl
  have hK6 : RK ((15, 0, 16) :: ([])) (uR (zR R 16) 15 0 16) := hK4.u rfl
  have hF7 : FR 15 R (uR (zR R 16) 15 0 16) := hF5.u rfl
  have hB8 : BZ (uI (zI I 16) 15 1 4) := hB1.kw rfl rfl
  have hZ9 : KI ([]) (uI (zI I 16) 15 1 4) := hZ2.w rfl
  have hI10 : FI 15 I (uI (zI I 16) 15 1 4) := hI3.w rfl
  have hB11 : BZ (uI (uI (zI I 16) 15 1 4) 15 2 1073741823) := hB8.kw rfl rfl
  have hZ12 : KI ([]) (uI (uI (zI I 16) 15 1 4) 15 2 1073741823) := hZ9.w rfl
  have hI13 : FI 15 I (uI (uI (zI I 16) 15 1 4) 15 2 1073741823) := hI10.w rfl
  have hB14 : BZ (uI (uI (uI (zI I 16) 15 1 4) 15 2 1073741823) 15 3 0) := hB11.kw rfl rfl
  have hZ15 : KI ([]) (uI (uI (uI (zI I 16) 15 1 4) 15 2 1073741823) 15 3 0) := hZ12.w rfl
  have hI16 : FI 15 I (uI (uI (uI (zI I 16) 15 1 4) 15 2 1073741823) 15 3 0) := hI13.w rfl
  have hB17 : BZ (uI (uI (uI (uI (zI I 16) 15 1 4) 15 2 1073741823) 15 3 0) 15 4 0) := hB14.kw rfl rfl
  have hZ18 : KI ([]) (uI (uI (uI (uI (zI I 16) 15 1 4) 15 2 1073741823) 15 3 0) 15 4 0) := hZ15.w rfl
  have hI19 : FI 15 I (uI (uI (uI (uI (zI I 16) 15 1 4) 15 2 1073741823) 15 3 0) 15 4 0) := hI16.w rfl
  refine ⟨rfl, ?_⟩
  have hB20 : BZ (zI (uI (uI (uI (uI (zI I 16) 15 1 4) 15 2 1073741823) 15 3 0) 15 4 0) 17) := hB17.z
  have hZ21 : KI ([]) (zI (uI (uI (uI (uI (zI I 16) 15 1 4) 15 2 1073741823) 15 3 0) 15 4 0) 17) := hZ18.z rfl
  have hI22 : FI 15 I (zI (uI (uI (uI (uI (zI I 16) 15 1 4) 15 2 1073741823) 15 3 0) 15 4 0) 17) := hI19.z rfl
  have hK23 : RK ((15, 0, 16) :: ([])) (zR (uR (zR R 16) 15 0 16) 17) := hK6.z rfl
  have hF24 : FR 15 R (zR (uR (zR R 16) 15 0 16) 17) := hF7.z rfl
  have hK25 : RK ((15, 5, 17) :: ((15, 0, 16) :: ([]))) (uR (zR (uR (zR R 16) 15 0 16) 17) 15 5 17) := hK23.u rfl
  have hF26 : FR 15 R (uR (zR (uR (zR R 16) 15 0 16) 17) 15 5 17) := hF24.u rfl
  refine ⟨rfl, ?_⟩
  have hB27 : BZ (zI (zI (uI (uI (uI (uI (zI I 16) 15 1 4) 15 2 1073741823) 15 3 0) 15 4 0) 17) 18) := hB20.z
  have hZ28 : KI ([]) (zI (zI (uI (uI (uI (uI (zI I 16) 15 1 4) 15 2 1073741823) 15 3 0) 15 4 0) 17) 18) := hZ21.z rfl
  have hI29 : FI 15 I (zI (zI (uI (uI (uI (uI (zI I 16) 15 1 4) 15 2 1073741823) 15 3 0) 15 4 0) 17) 18) := hI22.z rfl
  have hK30 : RK ((15, 5, 17) :: ((15, 0, 16) :: ([]))) (zR (uR (zR (uR (zR R 16) 15 0 16) 17) 15 5 17) 18) := hK25.z rfl
  have hF31 : FR 15 R (zR (uR (zR (uR (zR R 16) 15 0 16) 17) 15 5 17) 18) := hF26.z rfl
  have hK32 : RK ((15, 6, 18) :: ((15, 5, 17) :: ((15, 0, 16) :: ([])))) (uR (zR (uR (zR (uR (zR R 16) 15 0 16) 17) 15 5 17) 18) 15 6 18) := hK30.u rfl
  have hF33 : FR 15 R (uR (zR (uR (zR (uR (zR R 16) 15 0 16) 17) 15 5 17) 18) 15 6 18) := hF31.u rfl
  refine ⟨rfl, ?_⟩
  have hB34 : BZ (zI (zI (zI (uI (uI (uI (uI (zI I 16) 15 1 4) 15 2 1073741823) 15 3 0) 15 4 0) 17) 18) 19) := hB27.z
  have hZ35 : KI ([]) (zI (zI (zI (uI (uI (uI (uI (zI I 16) 15 1 4) 15 2 1073741823) 15 3 0) 15 4 0) 17) 18) 19) := hZ28.z rfl
  have hI36 : FI 15 I (zI (zI (zI (uI (uI (uI (uI (zI I 16) 15 1 4) 15 2 1073741823) 15 3 0) 15 4 0) 17) 18) 19) := hI29.z rfl
  have hK37 : RK ((15, 6, 18) :: ((15, 5, 17) :: ((15, 0, 16) :: ([])))) (zR (uR (zR (uR (zR (uR (zR R 16) 15 0 16) 17) 15 5 17) 18) 15 6 18) 19) := hK32.z rfl
  have hF38 : FR 15 R (zR (uR (zR (uR (zR (uR (zR R 16) 15 0 16) 17) 15 5 17) 18) 15 6 18) 19) := hF33.z rfl
  have hK39 : RK ((15, 7, 19) :: ((15, 6, 18) :: ((15, 5, 17) :: ((15, 0, 16) :: ([]))))) (uR (zR (uR (zR (uR (zR (uR (zR R 16) 15 0 16) 17) 15 5 17) 18) 15 6 18) 19) 15 7 19) := hK37.u rfl
  have hF40 : FR 15 R (uR (zR (uR (zR (uR (zR (uR (zR R 16) 15 0 16) 17) 15 5 17) 18) 15 6 18) 19) 15 7 19) := hF38.u rfl
  refine ⟨rfl, ?_⟩
  have hB41 : BZ (zI (zI (zI (zI (uI (uI (uI (uI (zI I 16) 15 1 4) 15 2 1073741823) 15 3 0) 15 4 0) 17) 18) 19) 20) := hB34.z
  have hZ42 : KI ([]) (zI (zI (zI (zI (uI (uI (uI (uI (zI I 16) 15 1 4) 15 2 1073741823) 15 3 0) 15 4 0) 17) 18) 19) 20) := hZ35.z rfl
  have hI43 : FI 15 I (zI (zI (zI (zI (uI (uI (uI (uI (zI I 16) 15 1 4) 15 2 1073741823) 15 3 0) 15 4 0) 17) 18) 19) 20) := hI36.z rfl
  have hK44 : RK ((15, 7, 19) :: ((15, 6, 18) :: ((15, 5, 17) :: ((15, 0, 16) :: ([]))))) (zR (uR (zR (uR (zR (uR (zR (uR (zR R 16) 15 0 16) 17) 15 5 17) 18) 15 6 18) 19) 15 7 19) 20) := hK39.z rfl
  have hF45 : FR 15 R (zR (uR (zR (uR (zR (uR (zR (uR (zR R 16) 15 0 16) 17) 15 5 17) 18) 15 6 18) 19) 15 7 19) 20) := hF40.z rfl
  have hK46 : RK ((15, 8, 20) :: ((15, 7, 19) :: ((15, 6, 18) :: ((15, 5, 17) :: ((15, 0, 16) :: ([])))))) (uR (zR (uR (zR (uR (zR (uR (zR (uR (zR R 16) 15 0 16) 17) 15 5 17) 18) 15 6 18) 19) 15 7 19) 20) 15 8 20) := hK44.u rfl
  have hF47 : FR 15 R (uR (zR (uR (zR (uR (zR (uR (zR (uR (zR R 16) 15 0 16) 17) 15 5 17) 18) 15 6 18) 19) 15 7 19) 20) 15 8 20) := hF45.u rfl
  exact ⟨rfl, fun z => absurd z (by decide), hQ _ _ _ hB41 hF47 hK46 hI43 hZ42⟩
def zk_X2_init_21 : List (Nat × Nat × Int32) := []
def lk_X2_init_21 : List (Nat × Nat × Nat) := (21, 7, 26) :: ((21, 6, 25) :: ((21, 5, 24) :: ((21, 4, 23) :: ((21, 3, 22) :: ([])))))
set_option maxHeartbeats 4000000 in
set_option maxRecDepth 100000 in
theorem ct_X2_init_21 {d : Nat} {Q : Qt} {I : Im} {J : Jm} {R : Rm} (hB : BZ I) (hQ : ∀ (I2 : Im) (J2 : Jm) (R2 : Rm), BZ I2 → FR 21 R R2 → RK lk_X2_init_21 R2 → FI 21 I I2 → KI zk_X2_init_21 I2 → Q 0 0 I2 J2 R2) : AM (d + 1) 27 21 [.ref 21] I J R Q := by
  refine amc_of (k := kX2_init) rfl rfl rfl rfl rfl rfl (Nat.le_of_ble_eq_true rfl) (fun P hc => ?_)
  refine cs_X2_init_21_0_21 hc _ _ _ ?_
  refine ⟨Or.inl rfl, ?_⟩
  have hB1 : BZ (uI I 21 0 0) := hB.kw rfl rfl
  have hZ2 : KI ([]) (uI I 21 0 0) := (KI.nil (I := I)).w rfl
  have hI3 : FI 21 I (uI I 21 0 0) := (FI.refl 21 I).w rfl
  have hB4 : BZ (uI (uI I 21 0 0) 21 1 0) := hB1.kw rfl rfl
  have hZ5 : KI ([]) (uI (uI I 21 0 0) 21 1 0) := hZ2.w rfl
  have hI6 : FI 21 I (uI (uI I 21 0 0) 21 1 0) := hI3.w rfl
  have hB7 : BZ (uI (uI (uI I 21 0 0) 21 1 0) 21 2 0) := hB4.kw rfl rfl
  have hZ8 : KI ([]) (uI (uI (uI I 21 0 0) 21 1 0) 21 2 0) := hZ5.w rfl
  have hI9 : FI 21 I (uI (uI (uI I 21 0 0) 21 1 0) 21 2 0) := hI6.w rfl
  refine ⟨rfl, ?_⟩
  have hB10 : BZ (zI (uI (uI (uI I 21 0 0) 21 1 0) 21 2 0) 22) := hB7.z
  have hZ11 : KI ([]) (zI (uI (uI (uI I 21 0 0) 21 1 0) 21 2 0) 22) := hZ8.z rfl
  have hI12 : FI 21 I (zI (uI (uI (uI I 21 0 0) 21 1 0) 21 2 0) 22) := hI9.z rfl
  have hK13 : RK ([]) (zR R 22) := (RK.nil (R := R)).z rfl
  have hF14 : FR 21 R (zR R 22) := (FR.refl 21 R).z rfl
  have hK15 : RK ((21, 3, 22) :: ([])) (uR (zR R 22) 21 3 22) := hK13.u rfl
  have hF16 : FR 21 R (uR (zR R 22) 21 3 22) := hF14.u rfl
  refine ⟨rfl, ?_⟩
  have hB17 : BZ (zI (zI (uI (uI (uI I 21 0 0) 21 1 0) 21 2 0) 22) 23) := hB10.z
  have hZ18 : KI ([]) (zI (zI (uI (uI (uI I 21 0 0) 21 1 0) 21 2 0) 22) 23) := hZ11.z rfl
  have hI19 : FI 21 I (zI (zI (uI (uI (uI I 21 0 0) 21 1 0) 21 2 0) 22) 23) := hI12.z rfl
  have hK20 : RK ((21, 3, 22) :: ([])) (zR (uR (zR R 22) 21 3 22) 23) := hK15.z rfl
  have hF21 : FR 21 R (zR (uR (zR R 22) 21 3 22) 23) := hF16.z rfl
  have hK22 : RK ((21, 4, 23) :: ((21, 3, 22) :: ([]))) (uR (zR (uR (zR R 22) 21 3 22) 23) 21 4 23) := hK20.u rfl
  have hF23 : FR 21 R (uR (zR (uR (zR R 22) 21 3 22) 23) 21 4 23) := hF21.u rfl
  refine ⟨rfl, ?_⟩
  have hB24 : BZ (zI (zI (zI (uI (uI (uI I 21 0 0) 21 1 0) 21 2 0) 22) 23) 24) := hB17.z
  have hZ25 : KI ([]) (zI (zI (zI (uI (uI (uI I 21 0 0) 21 1 0) 21 2 0) 22) 23) 24) := hZ18.z rfl
  have hI26 : FI 21 I (zI (zI (zI (uI (uI (uI I 21 0 0) 21 1 0) 21 2 0) 22) 23) 24) := hI19.z rfl
  have hK27 : RK ((21, 4, 23) :: ((21, 3, 22) :: ([]))) (zR (uR (zR (uR (zR R 22) 21 3 22) 23) 21 4 23) 24) := hK22.z rfl
  have hF28 : FR 21 R (zR (uR (zR (uR (zR R 22) 21 3 22) 23) 21 4 23) 24) := hF23.z rfl
  have hK29 : RK ((21, 5, 24) :: ((21, 4, 23) :: ((21, 3, 22) :: ([])))) (uR (zR (uR (zR (uR (zR R 22) 21 3 22) 23) 21 4 23) 24) 21 5 24) := hK27.u rfl
  have hF30 : FR 21 R (uR (zR (uR (zR (uR (zR R 22) 21 3 22) 23) 21 4 23) 24) 21 5 24) := hF28.u rfl
  refine ⟨rfl, ?_⟩
  have hB31 : BZ (zI (zI (zI (zI (uI (uI (uI I 21 0 0) 21 1 0) 21 2 0) 22) 23) 24) 25) := hB24.z
  have hZ32 : KI ([]) (zI (zI (zI (zI (uI (uI (uI I 21 0 0) 21 1 0) 21 2 0) 22) 23) 24) 25) := hZ25.z rfl
  have hI33 : FI 21 I (zI (zI (zI (zI (uI (uI (uI I 21 0 0) 21 1 0) 21 2 0) 22) 23) 24) 25) := hI26.z rfl
  have hK34 : RK ((21, 5, 24) :: ((21, 4, 23) :: ((21, 3, 22) :: ([])))) (zR (uR (zR (uR (zR (uR (zR R 22) 21 3 22) 23) 21 4 23) 24) 21 5 24) 25) := hK29.z rfl
  have hF35 : FR 21 R (zR (uR (zR (uR (zR (uR (zR R 22) 21 3 22) 23) 21 4 23) 24) 21 5 24) 25) := hF30.z rfl
  have hK36 : RK ((21, 6, 25) :: ((21, 5, 24) :: ((21, 4, 23) :: ((21, 3, 22) :: ([]))))) (uR (zR (uR (zR (uR (zR (uR (zR R 22) 21 3 22) 23) 21 4 23) 24) 21 5 24) 25) 21 6 25) := hK34.u rfl
  have hF37 : FR 21 R (uR (zR (uR (zR (uR (zR (uR (zR R 22) 21 3 22) 23) 21 4 23) 24) 21 5 24) 25) 21 6 25) := hF35.u rfl
  refine ⟨rfl, ?_⟩
  have hB38 : BZ (zI (zI (zI (zI (zI (uI (uI (uI I 21 0 0) 21 1 0) 21 2 0) 22) 23) 24) 25) 26) := hB31.z
  have hZ39 : KI ([]) (zI (zI (zI (zI (zI (uI (uI (uI I 21 0 0) 21 1 0) 21 2 0) 22) 23) 24) 25) 26) := hZ32.z rfl
  have hI40 : FI 21 I (zI (zI (zI (zI (zI (uI (uI (uI I 21 0 0) 21 1 0) 21 2 0) 22) 23) 24) 25) 26) := hI33.z rfl
  have hK41 : RK ((21, 6, 25) :: ((21, 5, 24) :: ((21, 4, 23) :: ((21, 3, 22) :: ([]))))) (zR (uR (zR (uR (zR (uR (zR (uR (zR R 22) 21 3 22) 23) 21 4 23) 24) 21 5 24) 25) 21 6 25) 26) := hK36.z rfl
  have hF42 : FR 21 R (zR (uR (zR (uR (zR (uR (zR (uR (zR R 22) 21 3 22) 23) 21 4 23) 24) 21 5 24) 25) 21 6 25) 26) := hF37.z rfl
  have hK43 : RK ((21, 7, 26) :: ((21, 6, 25) :: ((21, 5, 24) :: ((21, 4, 23) :: ((21, 3, 22) :: ([])))))) (uR (zR (uR (zR (uR (zR (uR (zR (uR (zR R 22) 21 3 22) 23) 21 4 23) 24) 21 5 24) 25) 21 6 25) 26) 21 7 26) := hK41.u rfl
  have hF44 : FR 21 R (uR (zR (uR (zR (uR (zR (uR (zR (uR (zR R 22) 21 3 22) 23) 21 4 23) 24) 21 5 24) 25) 21 6 25) 26) 21 7 26) := hF42.u rfl
  exact ⟨rfl, fun z => absurd z (by decide), hQ _ _ _ hB38 hF44 hK43 hI40 hZ39⟩
def zk_X2_init_27 : List (Nat × Nat × Int32) := []
def lk_X2_init_27 : List (Nat × Nat × Nat) := (27, 7, 32) :: ((27, 6, 31) :: ((27, 5, 30) :: ((27, 4, 29) :: ((27, 3, 28) :: ([])))))
set_option maxHeartbeats 4000000 in
set_option maxRecDepth 100000 in
theorem ct_X2_init_27 {d : Nat} {Q : Qt} {I : Im} {J : Jm} {R : Rm} (hB : BZ I) (hQ : ∀ (I2 : Im) (J2 : Jm) (R2 : Rm), BZ I2 → FR 27 R R2 → RK lk_X2_init_27 R2 → FI 27 I I2 → KI zk_X2_init_27 I2 → Q 0 0 I2 J2 R2) : AM (d + 1) 27 27 [.ref 27] I J R Q := by
  refine amc_of (k := kX2_init) rfl rfl rfl rfl rfl rfl (Nat.le_of_ble_eq_true rfl) (fun P hc => ?_)
  refine cs_X2_init_27_0_27 hc _ _ _ ?_
  refine ⟨Or.inl rfl, ?_⟩
  have hB1 : BZ (uI I 27 0 0) := hB.kw rfl rfl
  have hZ2 : KI ([]) (uI I 27 0 0) := (KI.nil (I := I)).w rfl
  have hI3 : FI 27 I (uI I 27 0 0) := (FI.refl 27 I).w rfl
  have hB4 : BZ (uI (uI I 27 0 0) 27 1 0) := hB1.kw rfl rfl
  have hZ5 : KI ([]) (uI (uI I 27 0 0) 27 1 0) := hZ2.w rfl
  have hI6 : FI 27 I (uI (uI I 27 0 0) 27 1 0) := hI3.w rfl
  have hB7 : BZ (uI (uI (uI I 27 0 0) 27 1 0) 27 2 0) := hB4.kw rfl rfl
  have hZ8 : KI ([]) (uI (uI (uI I 27 0 0) 27 1 0) 27 2 0) := hZ5.w rfl
  have hI9 : FI 27 I (uI (uI (uI I 27 0 0) 27 1 0) 27 2 0) := hI6.w rfl
  refine ⟨rfl, ?_⟩
  have hB10 : BZ (zI (uI (uI (uI I 27 0 0) 27 1 0) 27 2 0) 28) := hB7.z
  have hZ11 : KI ([]) (zI (uI (uI (uI I 27 0 0) 27 1 0) 27 2 0) 28) := hZ8.z rfl
  have hI12 : FI 27 I (zI (uI (uI (uI I 27 0 0) 27 1 0) 27 2 0) 28) := hI9.z rfl
  have hK13 : RK ([]) (zR R 28) := (RK.nil (R := R)).z rfl
  have hF14 : FR 27 R (zR R 28) := (FR.refl 27 R).z rfl
  have hK15 : RK ((27, 3, 28) :: ([])) (uR (zR R 28) 27 3 28) := hK13.u rfl
  have hF16 : FR 27 R (uR (zR R 28) 27 3 28) := hF14.u rfl
  refine ⟨rfl, ?_⟩
  have hB17 : BZ (zI (zI (uI (uI (uI I 27 0 0) 27 1 0) 27 2 0) 28) 29) := hB10.z
  have hZ18 : KI ([]) (zI (zI (uI (uI (uI I 27 0 0) 27 1 0) 27 2 0) 28) 29) := hZ11.z rfl
  have hI19 : FI 27 I (zI (zI (uI (uI (uI I 27 0 0) 27 1 0) 27 2 0) 28) 29) := hI12.z rfl
  have hK20 : RK ((27, 3, 28) :: ([])) (zR (uR (zR R 28) 27 3 28) 29) := hK15.z rfl
  have hF21 : FR 27 R (zR (uR (zR R 28) 27 3 28) 29) := hF16.z rfl
  have hK22 : RK ((27, 4, 29) :: ((27, 3, 28) :: ([]))) (uR (zR (uR (zR R 28) 27 3 28) 29) 27 4 29) := hK20.u rfl
  have hF23 : FR 27 R (uR (zR (uR (zR R 28) 27 3 28) 29) 27 4 29) := hF21.u rfl
  refine ⟨rfl, ?_⟩
  have hB24 : BZ (zI (zI (zI (uI (uI (uI I 27 0 0) 27 1 0) 27 2 0) 28) 29) 30) := hB17.z
  have hZ25 : KI ([]) (zI (zI (zI (uI (uI (uI I 27 0 0) 27 1 0) 27 2 0) 28) 29) 30) := hZ18.z rfl
  have hI26 : FI 27 I (zI (zI (zI (uI (uI (uI I 27 0 0) 27 1 0) 27 2 0) 28) 29) 30) := hI19.z rfl
  have hK27 : RK ((27, 4, 29) :: ((27, 3, 28) :: ([]))) (zR (uR (zR (uR (zR R 28) 27 3 28) 29) 27 4 29) 30) := hK22.z rfl
  have hF28 : FR 27 R (zR (uR (zR (uR (zR R 28) 27 3 28) 29) 27 4 29) 30) := hF23.z rfl
  have hK29 : RK ((27, 5, 30) :: ((27, 4, 29) :: ((27, 3, 28) :: ([])))) (uR (zR (uR (zR (uR (zR R 28) 27 3 28) 29) 27 4 29) 30) 27 5 30) := hK27.u rfl
  have hF30 : FR 27 R (uR (zR (uR (zR (uR (zR R 28) 27 3 28) 29) 27 4 29) 30) 27 5 30) := hF28.u rfl
  refine ⟨rfl, ?_⟩
  have hB31 : BZ (zI (zI (zI (zI (uI (uI (uI I 27 0 0) 27 1 0) 27 2 0) 28) 29) 30) 31) := hB24.z
  have hZ32 : KI ([]) (zI (zI (zI (zI (uI (uI (uI I 27 0 0) 27 1 0) 27 2 0) 28) 29) 30) 31) := hZ25.z rfl
  have hI33 : FI 27 I (zI (zI (zI (zI (uI (uI (uI I 27 0 0) 27 1 0) 27 2 0) 28) 29) 30) 31) := hI26.z rfl
  have hK34 : RK ((27, 5, 30) :: ((27, 4, 29) :: ((27, 3, 28) :: ([])))) (zR (uR (zR (uR (zR (uR (zR R 28) 27 3 28) 29) 27 4 29) 30) 27 5 30) 31) := hK29.z rfl
  have hF35 : FR 27 R (zR (uR (zR (uR (zR (uR (zR R 28) 27 3 28) 29) 27 4 29) 30) 27 5 30) 31) := hF30.z rfl
  have hK36 : RK ((27, 6, 31) :: ((27, 5, 30) :: ((27, 4, 29) :: ((27, 3, 28) :: ([]))))) (uR (zR (uR (zR (uR (zR (uR (zR R 28) 27 3 28) 29) 27 4 29) 30) 27 5 30) 31) 27 6 31) := hK34.u rfl
  have hF37 : FR 27 R (uR (zR (uR (zR (uR (zR (uR (zR R 28) 27 3 28) 29) 27 4 29) 30) 27 5 30) 31) 27 6 31) := hF35.u rfl
  refine ⟨rfl, ?_⟩
  have hB38 : BZ (zI (zI (zI (zI (zI (uI (uI (uI I 27 0 0) 27 1 0) 27 2 0) 28) 29) 30) 31) 32) := hB31.z
  have hZ39 : KI ([]) (zI (zI (zI (zI (zI (uI (uI (uI I 27 0 0) 27 1 0) 27 2 0) 28) 29) 30) 31) 32) := hZ32.z rfl
  have hI40 : FI 27 I (zI (zI (zI (zI (zI (uI (uI (uI I 27 0 0) 27 1 0) 27 2 0) 28) 29) 30) 31) 32) := hI33.z rfl
  have hK41 : RK ((27, 6, 31) :: ((27, 5, 30) :: ((27, 4, 29) :: ((27, 3, 28) :: ([]))))) (zR (uR (zR (uR (zR (uR (zR (uR (zR R 28) 27 3 28) 29) 27 4 29) 30) 27 5 30) 31) 27 6 31) 32) := hK36.z rfl
  have hF42 : FR 27 R (zR (uR (zR (uR (zR (uR (zR (uR (zR R 28) 27 3 28) 29) 27 4 29) 30) 27 5 30) 31) 27 6 31) 32) := hF37.z rfl
  have hK43 : RK ((27, 7, 32) :: ((27, 6, 31) :: ((27, 5, 30) :: ((27, 4, 29) :: ((27, 3, 28) :: ([])))))) (uR (zR (uR (zR (uR (zR (uR (zR (uR (zR R 28) 27 3 28) 29) 27 4 29) 30) 27 5 30) 31) 27 6 31) 32) 27 7 32) := hK41.u rfl
  have hF44 : FR 27 R (uR (zR (uR (zR (uR (zR (uR (zR (uR (zR R 28) 27 3 28) 29) 27 4 29) 30) 27 5 30) 31) 27 6 31) 32) 27 7 32) := hF42.u rfl
  exact ⟨rfl, fun z => absurd z (by decide), hQ _ _ _ hB38 hF44 hK43 hI40 hZ39⟩
def zk_X7_init_35 : List (Nat × Nat × Int32) := []
def lk_X7_init_35 : List (Nat × Nat × Nat) := (35, 7, 38) :: ((35, 4, 37) :: ((35, 3, 36) :: ([])))
set_option maxHeartbeats 4000000 in
set_option maxRecDepth 100000 in
theorem ct_X7_init_35 {d : Nat} {Q : Qt} {I : Im} {J : Jm} {R : Rm} (hB : BZ I) (hQ : ∀ (I2 : Im) (J2 : Jm) (R2 : Rm), BZ I2 → FR 35 R R2 → RK lk_X7_init_35 R2 → FI 35 I I2 → KI zk_X7_init_35 I2 → Q 0 0 I2 J2 R2) : AM (d + 1) 74 35 [.ref 35] I J R Q := by
  refine amc_of (k := kX7_init) rfl rfl rfl rfl rfl rfl (Nat.le_of_ble_eq_true rfl) (fun P hc => ?_)
  refine cs_X7_init_35_0_35 hc _ _ _ ?_
  have hB1 : BZ (uI I 35 0 0) := hB.kw rfl rfl
  have hZ2 : KI ([]) (uI I 35 0 0) := (KI.nil (I := I)).w rfl
  have hI3 : FI 35 I (uI I 35 0 0) := (FI.refl 35 I).w rfl
  have hB4 : BZ (uI (uI I 35 0 0) 35 1 0) := hB1.kw rfl rfl
  have hZ5 : KI ([]) (uI (uI I 35 0 0) 35 1 0) := hZ2.w rfl
  have hI6 : FI 35 I (uI (uI I 35 0 0) 35 1 0) := hI3.w rfl
  have hB7 : BZ (uI (uI (uI I 35 0 0) 35 1 0) 35 2 0) := hB4.kw rfl rfl
  have hZ8 : KI ([]) (uI (uI (uI I 35 0 0) 35 1 0) 35 2 0) := hZ5.w rfl
  have hI9 : FI 35 I (uI (uI (uI I 35 0 0) 35 1 0) 35 2 0) := hI6.w rfl
  refine ⟨rfl, ?_⟩
  have hB10 : BZ (zI (uI (uI (uI I 35 0 0) 35 1 0) 35 2 0) 36) := hB7.z
  have hZ11 : KI ([]) (zI (uI (uI (uI I 35 0 0) 35 1 0) 35 2 0) 36) := hZ8.z rfl
  have hI12 : FI 35 I (zI (uI (uI (uI I 35 0 0) 35 1 0) 35 2 0) 36) := hI9.z rfl
  have hK13 : RK ([]) (zR R 36) := (RK.nil (R := R)).z rfl
  have hF14 : FR 35 R (zR R 36) := (FR.refl 35 R).z rfl
  have hK15 : RK ((35, 3, 36) :: ([])) (uR (zR R 36) 35 3 36) := hK13.u rfl
  have hF16 : FR 35 R (uR (zR R 36) 35 3 36) := hF14.u rfl
  refine ⟨rfl, ?_⟩
  have hB17 : BZ (zI (zI (uI (uI (uI I 35 0 0) 35 1 0) 35 2 0) 36) 37) := hB10.z
  have hZ18 : KI ([]) (zI (zI (uI (uI (uI I 35 0 0) 35 1 0) 35 2 0) 36) 37) := hZ11.z rfl
  have hI19 : FI 35 I (zI (zI (uI (uI (uI I 35 0 0) 35 1 0) 35 2 0) 36) 37) := hI12.z rfl
  have hK20 : RK ((35, 3, 36) :: ([])) (zR (uR (zR R 36) 35 3 36) 37) := hK15.z rfl
  have hF21 : FR 35 R (zR (uR (zR R 36) 35 3 36) 37) := hF16.z rfl
  have hK22 : RK ((35, 4, 37) :: ((35, 3, 36) :: ([]))) (uR (zR (uR (zR R 36) 35 3 36) 37) 35 4 37) := hK20.u rfl
  have hF23 : FR 35 R (uR (zR (uR (zR R 36) 35 3 36) 37) 35 4 37) := hF21.u rfl
  have hB24 : BZ (uI (zI (zI (uI (uI (uI I 35 0 0) 35 1 0) 35 2 0) 36) 37) 35 5 0) := hB17.kw rfl rfl
  have hZ25 : KI ([]) (uI (zI (zI (uI (uI (uI I 35 0 0) 35 1 0) 35 2 0) 36) 37) 35 5 0) := hZ18.w rfl
  have hI26 : FI 35 I (uI (zI (zI (uI (uI (uI I 35 0 0) 35 1 0) 35 2 0) 36) 37) 35 5 0) := hI19.w rfl
  have hB27 : BZ (uI (uI (zI (zI (uI (uI (uI I 35 0 0) 35 1 0) 35 2 0) 36) 37) 35 5 0) 35 6 0) := hB24.kw rfl rfl
  have hZ28 : KI ([]) (uI (uI (zI (zI (uI (uI (uI I 35 0 0) 35 1 0) 35 2 0) 36) 37) 35 5 0) 35 6 0) := hZ25.w rfl
  have hI29 : FI 35 I (uI (uI (zI (zI (uI (uI (uI I 35 0 0) 35 1 0) 35 2 0) 36) 37) 35 5 0) 35 6 0) := hI26.w rfl
  refine ⟨rfl, ?_⟩
  have hB30 : BZ (zI (uI (uI (zI (zI (uI (uI (uI I 35 0 0) 35 1 0) 35 2 0) 36) 37) 35 5 0) 35 6 0) 38) := hB27.z
  have hZ31 : KI ([]) (zI (uI (uI (zI (zI (uI (uI (uI I 35 0 0) 35 1 0) 35 2 0) 36) 37) 35 5 0) 35 6 0) 38) := hZ28.z rfl
  have hI32 : FI 35 I (zI (uI (uI (zI (zI (uI (uI (uI I 35 0 0) 35 1 0) 35 2 0) 36) 37) 35 5 0) 35 6 0) 38) := hI29.z rfl
  have hK33 : RK ((35, 4, 37) :: ((35, 3, 36) :: ([]))) (zR (uR (zR (uR (zR R 36) 35 3 36) 37) 35 4 37) 38) := hK22.z rfl
  have hF34 : FR 35 R (zR (uR (zR (uR (zR R 36) 35 3 36) 37) 35 4 37) 38) := hF23.z rfl
  have hK35 : RK ((35, 7, 38) :: ((35, 4, 37) :: ((35, 3, 36) :: ([])))) (uR (zR (uR (zR (uR (zR R 36) 35 3 36) 37) 35 4 37) 38) 35 7 38) := hK33.u rfl
  have hF36 : FR 35 R (uR (zR (uR (zR (uR (zR R 36) 35 3 36) 37) 35 4 37) 38) 35 7 38) := hF34.u rfl
  exact ⟨rfl, fun z => absurd z (by decide), hQ _ _ _ hB30 hF36 hK35 hI32 hZ31⟩
def zk_X8_init_39 : List (Nat × Nat × Int32) := []
def lk_X8_init_39 : List (Nat × Nat × Nat) := (39, 1, 41) :: ((39, 0, 40) :: ([]))
set_option maxHeartbeats 4000000 in
set_option maxRecDepth 100000 in
theorem ct_X8_init_39 {d : Nat} {Q : Qt} {I : Im} {J : Jm} {R : Rm} (hB : BZ I) (hQ : ∀ (I2 : Im) (J2 : Jm) (R2 : Rm), BZ I2 → FR 39 R R2 → RK lk_X8_init_39 R2 → FI 39 I I2 → KI zk_X8_init_39 I2 → Q 0 0 I2 J2 R2) : AM (d + 1) 85 39 [.ref 39] I J R Q := by
  refine amc_of (k := kX8_init) rfl rfl rfl rfl rfl rfl (Nat.le_of_ble_eq_true rfl) (fun P hc => ?_)
  refine cs_X8_init_39_0_39 hc _ _ _ ?_
  refine ⟨rfl, ?_⟩
  have hB1 : BZ (zI I 40) := hB.z
  have hZ2 : KI ([]) (zI I 40) := (KI.nil (I := I)).z rfl
  have hI3 : FI 39 I (zI I 40) := (FI.refl 39 I).z rfl
  have hK4 : RK ([]) (zR R 40) := (RK.nil (R := R)).z rfl
  have hF5 : FR 39 R (zR R 40) := (FR.refl 39 R).z rfl
  have hK6 : RK ((39, 0, 40) :: ([])) (uR (zR R 40) 39 0 40) := hK4.u rfl
  have hF7 : FR 39 R (uR (zR R 40) 39 0 40) := hF5.u rfl
  refine ⟨rfl, ?_⟩
  have hB8 : BZ (zI (zI I 40) 41) := hB1.z
  have hZ9 : KI ([]) (zI (zI I 40) 41) := hZ2.z rfl
  have hI10 : FI 39 I (zI (zI I 40) 41) := hI3.z rfl
  have hK11 : RK ((39, 0, 40) :: ([])) (zR (uR (zR R 40) 39 0 40) 41) := hK6.z rfl
  have hF12 : FR 39 R (zR (uR (zR R 40) 39 0 40) 41) := hF7.z rfl
  have hK13 : RK ((39, 1, 41) :: ((39, 0, 40) :: ([]))) (uR (zR (uR (zR R 40) 39 0 40) 41) 39 1 41) := hK11.u rfl
  have hF14 : FR 39 R (uR (zR (uR (zR R 40) 39 0 40) 41) 39 1 41) := hF12.u rfl
  have hB15 : BZ (uI (zI (zI I 40) 41) 39 2 0) := hB8.kw rfl rfl
  have hZ16 : KI ([]) (uI (zI (zI I 40) 41) 39 2 0) := hZ9.w rfl
  have hI17 : FI 39 I (uI (zI (zI I 40) 41) 39 2 0) := hI10.w rfl
  exact ⟨rfl, fun z => absurd z (by decide), hQ _ _ _ hB15 hF14 hK13 hI17 hZ16⟩
def zk_X5_init_42 : List (Nat × Nat × Int32) := []
def lk_X5_init_42 : List (Nat × Nat × Nat) := (42, 1, 44) :: ((42, 0, 43) :: ([]))
set_option maxHeartbeats 4000000 in
set_option maxRecDepth 100000 in
theorem ct_X5_init_42 {d : Nat} {Q : Qt} {I : Im} {J : Jm} {R : Rm} (hB : BZ I) (hQ : ∀ (I2 : Im) (J2 : Jm) (R2 : Rm), BZ I2 → FR 42 R R2 → RK lk_X5_init_42 R2 → FI 42 I I2 → KI zk_X5_init_42 I2 → Q 0 0 I2 J2 R2) : AM (d + 1) 53 42 [.ref 42] I J R Q := by
  refine amc_of (k := kX5_init) rfl rfl rfl rfl rfl rfl (Nat.le_of_ble_eq_true rfl) (fun P hc => ?_)
  refine cs_X5_init_42_0_42 hc _ _ _ ?_
  refine ⟨rfl, ?_⟩
  have hB1 : BZ (zI I 43) := hB.z
  have hZ2 : KI ([]) (zI I 43) := (KI.nil (I := I)).z rfl
  have hI3 : FI 42 I (zI I 43) := (FI.refl 42 I).z rfl
  have hK4 : RK ([]) (zR R 43) := (RK.nil (R := R)).z rfl
  have hF5 : FR 42 R (zR R 43) := (FR.refl 42 R).z rfl
  have hK6 : RK ((42, 0, 43) :: ([])) (uR (zR R 43) 42 0 43) := hK4.u rfl
  have hF7 : FR 42 R (uR (zR R 43) 42 0 43) := hF5.u rfl
  refine ⟨rfl, ?_⟩
  have hB8 : BZ (zI (zI I 43) 44) := hB1.z
  have hZ9 : KI ([]) (zI (zI I 43) 44) := hZ2.z rfl
  have hI10 : FI 42 I (zI (zI I 43) 44) := hI3.z rfl
  have hK11 : RK ((42, 0, 43) :: ([])) (zR (uR (zR R 43) 42 0 43) 44) := hK6.z rfl
  have hF12 : FR 42 R (zR (uR (zR R 43) 42 0 43) 44) := hF7.z rfl
  have hK13 : RK ((42, 1, 44) :: ((42, 0, 43) :: ([]))) (uR (zR (uR (zR R 43) 42 0 43) 44) 42 1 44) := hK11.u rfl
  have hF14 : FR 42 R (uR (zR (uR (zR R 43) 42 0 43) 44) 42 1 44) := hF12.u rfl
  have hB15 : BZ (uI (zI (zI I 43) 44) 42 2 0) := hB8.kw rfl rfl
  have hZ16 : KI ([]) (uI (zI (zI I 43) 44) 42 2 0) := hZ9.w rfl
  have hI17 : FI 42 I (uI (zI (zI I 43) 44) 42 2 0) := hI10.w rfl
  exact ⟨rfl, fun z => absurd z (by decide), hQ _ _ _ hB15 hF14 hK13 hI17 hZ16⟩
def zk_X9_init_45 : List (Nat × Nat × Int32) := []
def lk_X9_init_45 : List (Nat × Nat × Nat) := (45, 3, 48) :: ((45, 2, 47) :: ((45, 0, 46) :: ([])))
set_option maxHeartbeats 4000000 in
set_option maxRecDepth 100000 in
theorem ct_X9_init_45 {d : Nat} {Q : Qt} {I : Im} {J : Jm} {R : Rm} (hB : BZ I) (hQ : ∀ (I2 : Im) (J2 : Jm) (R2 : Rm), BZ I2 → FR 45 R R2 → RK lk_X9_init_45 R2 → FI 45 I I2 → KI zk_X9_init_45 I2 → Q 0 0 I2 J2 R2) : AM (d + 1) 88 45 [.ref 45] I J R Q := by
  refine amc_of (k := kX9_init) rfl rfl rfl rfl rfl rfl (Nat.le_of_ble_eq_true rfl) (fun P hc => ?_)
  refine cs_X9_init_45_0_45 hc _ _ _ ?_
  refine ⟨rfl, ?_⟩
  have hB1 : BZ (zI I 46) := hB.z
  have hZ2 : KI ([]) (zI I 46) := (KI.nil (I := I)).z rfl
  have hI3 : FI 45 I (zI I 46) := (FI.refl 45 I).z rfl
  have hK4 : RK ([]) (zR R 46) := (RK.nil (R := R)).z rfl
  have hF5 : FR 45 R (zR R 46) := (FR.refl 45 R).z rfl
  have hK6 : RK ((45, 0, 46) :: ([])) (uR (zR R 46) 45 0 46) := hK4.u rfl
  have hF7 : FR 45 R (uR (zR R 46) 45 0 46) := hF5.u rfl
  have hB8 : BZ (uI (zI I 46) 45 1 0) := hB1.kw rfl rfl
  have hZ9 : KI ([]) (uI (zI I 46) 45 1 0) := hZ2.w rfl
  have hI10 : FI 45 I (uI (zI I 46) 45 1 0) := hI3.w rfl
  refine ⟨rfl, ?_⟩
  have hB11 : BZ (zI (uI (zI I 46) 45 1 0) 47) := hB8.z
  have hZ12 : KI ([]) (zI (uI (zI I 46) 45 1 0) 47) := hZ9.z rfl
  have hI13 : FI 45 I (zI (uI (zI I 46) 45 1 0) 47) := hI10.z rfl
  have hK14 : RK ((45, 0, 46) :: ([])) (zR (uR (zR R 46) 45 0 46) 47) := hK6.z rfl
  have hF15 : FR 45 R (zR (uR (zR R 46) 45 0 46) 47) := hF7.z rfl
  have hK16 : RK ((45, 2, 47) :: ((45, 0, 46) :: ([]))) (uR (zR (uR (zR R 46) 45 0 46) 47) 45 2 47) := hK14.u rfl
  have hF17 : FR 45 R (uR (zR (uR (zR R 46) 45 0 46) 47) 45 2 47) := hF15.u rfl
  refine ⟨rfl, ?_⟩
  have hB18 : BZ (zI (zI (uI (zI I 46) 45 1 0) 47) 48) := hB11.z
  have hZ19 : KI ([]) (zI (zI (uI (zI I 46) 45 1 0) 47) 48) := hZ12.z rfl
  have hI20 : FI 45 I (zI (zI (uI (zI I 46) 45 1 0) 47) 48) := hI13.z rfl
  have hK21 : RK ((45, 2, 47) :: ((45, 0, 46) :: ([]))) (zR (uR (zR (uR (zR R 46) 45 0 46) 47) 45 2 47) 48) := hK16.z rfl
  have hF22 : FR 45 R (zR (uR (zR (uR (zR R 46) 45 0 46) 47) 45 2 47) 48) := hF17.z rfl
  have hK23 : RK ((45, 3, 48) :: ((45, 2, 47) :: ((45, 0, 46) :: ([])))) (uR (zR (uR (zR (uR (zR R 46) 45 0 46) 47) 45 2 47) 48) 45 3 48) := hK21.u rfl
  have hF24 : FR 45 R (uR (zR (uR (zR (uR (zR R 46) 45 0 46) 47) 45 2 47) 48) 45 3 48) := hF22.u rfl
  exact ⟨rfl, fun z => absurd z (by decide), hQ _ _ _ hB18 hF24 hK23 hI20 hZ19⟩
def zk_X4_init_49 : List (Nat × Nat × Int32) := []
def lk_X4_init_49 : List (Nat × Nat × Nat) := (49, 8, 50) :: ([])
set_option maxHeartbeats 4000000 in
set_option maxRecDepth 100000 in
theorem ct_X4_init_49 {d : Nat} {Q : Qt} {I : Im} {J : Jm} {R : Rm} (hB : BZ I) (hQ : ∀ (I2 : Im) (J2 : Jm) (R2 : Rm), BZ I2 → FR 49 R R2 → RK lk_X4_init_49 R2 → FI 49 I I2 → KI zk_X4_init_49 I2 → Q 0 0 I2 J2 R2) : AM (d + 1) 40 49 [.ref 49] I J R Q := by
  refine amc_of (k := kX4_init) rfl rfl rfl rfl rfl rfl (Nat.le_of_ble_eq_true rfl) (fun P hc => ?_)
  refine cs_X4_init_49_0_49 hc _ _ _ ?_
  refine ⟨Or.inl rfl, ?_⟩
  have hB1 : BZ (uI I 49 0 0) := hB.kw rfl rfl
  have hZ2 : KI ([]) (uI I 49 0 0) := (KI.nil (I := I)).w rfl
  have hI3 : FI 49 I (uI I 49 0 0) := (FI.refl 49 I).w rfl
  have hB4 : BZ (uI (uI I 49 0 0) 49 1 0) := hB1.kw rfl rfl
  have hZ5 : KI ([]) (uI (uI I 49 0 0) 49 1 0) := hZ2.w rfl
  have hI6 : FI 49 I (uI (uI I 49 0 0) 49 1 0) := hI3.w rfl
  have hB7 : BZ (uI (uI (uI I 49 0 0) 49 1 0) 49 2 0) := hB4.kw rfl rfl
  have hZ8 : KI ([]) (uI (uI (uI I 49 0 0) 49 1 0) 49 2 0) := hZ5.w rfl
  have hI9 : FI 49 I (uI (uI (uI I 49 0 0) 49 1 0) 49 2 0) := hI6.w rfl
  have hB10 : BZ (uI (uI (uI (uI I 49 0 0) 49 1 0) 49 2 0) 49 3 0) := hB7.kw rfl rfl
  have hZ11 : KI ([]) (uI (uI (uI (uI I 49 0 0) 49 1 0) 49 2 0) 49 3 0) := hZ8.w rfl
  have hI12 : FI 49 I (uI (uI (uI (uI I 49 0 0) 49 1 0) 49 2 0) 49 3 0) := hI9.w rfl
  have hB13 : BZ (uI (uI (uI (uI (uI I 49 0 0) 49 1 0) 49 2 0) 49 3 0) 49 4 0) := hB10.kw rfl rfl
  have hZ14 : KI ([]) (uI (uI (uI (uI (uI I 49 0 0) 49 1 0) 49 2 0) 49 3 0) 49 4 0) := hZ11.w rfl
  have hI15 : FI 49 I (uI (uI (uI (uI (uI I 49 0 0) 49 1 0) 49 2 0) 49 3 0) 49 4 0) := hI12.w rfl
  have hB16 : BZ (uI (uI (uI (uI (uI (uI I 49 0 0) 49 1 0) 49 2 0) 49 3 0) 49 4 0) 49 5 0) := hB13.kw rfl rfl
  have hZ17 : KI ([]) (uI (uI (uI (uI (uI (uI I 49 0 0) 49 1 0) 49 2 0) 49 3 0) 49 4 0) 49 5 0) := hZ14.w rfl
  have hI18 : FI 49 I (uI (uI (uI (uI (uI (uI I 49 0 0) 49 1 0) 49 2 0) 49 3 0) 49 4 0) 49 5 0) := hI15.w rfl
  have hB19 : BZ (uI (uI (uI (uI (uI (uI (uI I 49 0 0) 49 1 0) 49 2 0) 49 3 0) 49 4 0) 49 5 0) 49 6 0) := hB16.kw rfl rfl
  have hZ20 : KI ([]) (uI (uI (uI (uI (uI (uI (uI I 49 0 0) 49 1 0) 49 2 0) 49 3 0) 49 4 0) 49 5 0) 49 6 0) := hZ17.w rfl
  have hI21 : FI 49 I (uI (uI (uI (uI (uI (uI (uI I 49 0 0) 49 1 0) 49 2 0) 49 3 0) 49 4 0) 49 5 0) 49 6 0) := hI18.w rfl
  have hB22 : BZ (uI (uI (uI (uI (uI (uI (uI (uI I 49 0 0) 49 1 0) 49 2 0) 49 3 0) 49 4 0) 49 5 0) 49 6 0) 49 7 0) := hB19.kw rfl rfl
  have hZ23 : KI ([]) (uI (uI (uI (uI (uI (uI (uI (uI I 49 0 0) 49 1 0) 49 2 0) 49 3 0) 49 4 0) 49 5 0) 49 6 0) 49 7 0) := hZ20.w rfl
  have hI24 : FI 49 I (uI (uI (uI (uI (uI (uI (uI (uI I 49 0 0) 49 1 0) 49 2 0) 49 3 0) 49 4 0) 49 5 0) 49 6 0) 49 7 0) := hI21.w rfl
  refine ⟨rfl, ?_⟩
  have hB25 : BZ (zI (uI (uI (uI (uI (uI (uI (uI (uI I 49 0 0) 49 1 0) 49 2 0) 49 3 0) 49 4 0) 49 5 0) 49 6 0) 49 7 0) 50) := hB22.z
  have hZ26 : KI ([]) (zI (uI (uI (uI (uI (uI (uI (uI (uI I 49 0 0) 49 1 0) 49 2 0) 49 3 0) 49 4 0) 49 5 0) 49 6 0) 49 7 0) 50) := hZ23.z rfl
  have hI27 : FI 49 I (zI (uI (uI (uI (uI (uI (uI (uI (uI I 49 0 0) 49 1 0) 49 2 0) 49 3 0) 49 4 0) 49 5 0) 49 6 0) 49 7 0) 50) := hI24.z rfl
  have hK28 : RK ([]) (zR R 50) := (RK.nil (R := R)).z rfl
  have hF29 : FR 49 R (zR R 50) := (FR.refl 49 R).z rfl
  have hK30 : RK ((49, 8, 50) :: ([])) (uR (zR R 50) 49 8 50) := hK28.u rfl
  have hF31 : FR 49 R (uR (zR R 50) 49 8 50) := hF29.u rfl
  exact ⟨rfl, fun z => absurd z (by decide), hQ _ _ _ hB25 hF31 hK30 hI27 hZ26⟩
def zk_X4_init_51 : List (Nat × Nat × Int32) := []
def lk_X4_init_51 : List (Nat × Nat × Nat) := (51, 8, 52) :: ([])
set_option maxHeartbeats 4000000 in
set_option maxRecDepth 100000 in
theorem ct_X4_init_51 {d : Nat} {Q : Qt} {I : Im} {J : Jm} {R : Rm} (hB : BZ I) (hQ : ∀ (I2 : Im) (J2 : Jm) (R2 : Rm), BZ I2 → FR 51 R R2 → RK lk_X4_init_51 R2 → FI 51 I I2 → KI zk_X4_init_51 I2 → Q 0 0 I2 J2 R2) : AM (d + 1) 40 51 [.ref 51] I J R Q := by
  refine amc_of (k := kX4_init) rfl rfl rfl rfl rfl rfl (Nat.le_of_ble_eq_true rfl) (fun P hc => ?_)
  refine cs_X4_init_51_0_51 hc _ _ _ ?_
  refine ⟨Or.inl rfl, ?_⟩
  have hB1 : BZ (uI I 51 0 0) := hB.kw rfl rfl
  have hZ2 : KI ([]) (uI I 51 0 0) := (KI.nil (I := I)).w rfl
  have hI3 : FI 51 I (uI I 51 0 0) := (FI.refl 51 I).w rfl
  have hB4 : BZ (uI (uI I 51 0 0) 51 1 0) := hB1.kw rfl rfl
  have hZ5 : KI ([]) (uI (uI I 51 0 0) 51 1 0) := hZ2.w rfl
  have hI6 : FI 51 I (uI (uI I 51 0 0) 51 1 0) := hI3.w rfl
  have hB7 : BZ (uI (uI (uI I 51 0 0) 51 1 0) 51 2 0) := hB4.kw rfl rfl
  have hZ8 : KI ([]) (uI (uI (uI I 51 0 0) 51 1 0) 51 2 0) := hZ5.w rfl
  have hI9 : FI 51 I (uI (uI (uI I 51 0 0) 51 1 0) 51 2 0) := hI6.w rfl
  have hB10 : BZ (uI (uI (uI (uI I 51 0 0) 51 1 0) 51 2 0) 51 3 0) := hB7.kw rfl rfl
  have hZ11 : KI ([]) (uI (uI (uI (uI I 51 0 0) 51 1 0) 51 2 0) 51 3 0) := hZ8.w rfl
  have hI12 : FI 51 I (uI (uI (uI (uI I 51 0 0) 51 1 0) 51 2 0) 51 3 0) := hI9.w rfl
  have hB13 : BZ (uI (uI (uI (uI (uI I 51 0 0) 51 1 0) 51 2 0) 51 3 0) 51 4 0) := hB10.kw rfl rfl
  have hZ14 : KI ([]) (uI (uI (uI (uI (uI I 51 0 0) 51 1 0) 51 2 0) 51 3 0) 51 4 0) := hZ11.w rfl
  have hI15 : FI 51 I (uI (uI (uI (uI (uI I 51 0 0) 51 1 0) 51 2 0) 51 3 0) 51 4 0) := hI12.w rfl
  have hB16 : BZ (uI (uI (uI (uI (uI (uI I 51 0 0) 51 1 0) 51 2 0) 51 3 0) 51 4 0) 51 5 0) := hB13.kw rfl rfl
  have hZ17 : KI ([]) (uI (uI (uI (uI (uI (uI I 51 0 0) 51 1 0) 51 2 0) 51 3 0) 51 4 0) 51 5 0) := hZ14.w rfl
  have hI18 : FI 51 I (uI (uI (uI (uI (uI (uI I 51 0 0) 51 1 0) 51 2 0) 51 3 0) 51 4 0) 51 5 0) := hI15.w rfl
  have hB19 : BZ (uI (uI (uI (uI (uI (uI (uI I 51 0 0) 51 1 0) 51 2 0) 51 3 0) 51 4 0) 51 5 0) 51 6 0) := hB16.kw rfl rfl
  have hZ20 : KI ([]) (uI (uI (uI (uI (uI (uI (uI I 51 0 0) 51 1 0) 51 2 0) 51 3 0) 51 4 0) 51 5 0) 51 6 0) := hZ17.w rfl
  have hI21 : FI 51 I (uI (uI (uI (uI (uI (uI (uI I 51 0 0) 51 1 0) 51 2 0) 51 3 0) 51 4 0) 51 5 0) 51 6 0) := hI18.w rfl
  have hB22 : BZ (uI (uI (uI (uI (uI (uI (uI (uI I 51 0 0) 51 1 0) 51 2 0) 51 3 0) 51 4 0) 51 5 0) 51 6 0) 51 7 0) := hB19.kw rfl rfl
  have hZ23 : KI ([]) (uI (uI (uI (uI (uI (uI (uI (uI I 51 0 0) 51 1 0) 51 2 0) 51 3 0) 51 4 0) 51 5 0) 51 6 0) 51 7 0) := hZ20.w rfl
  have hI24 : FI 51 I (uI (uI (uI (uI (uI (uI (uI (uI I 51 0 0) 51 1 0) 51 2 0) 51 3 0) 51 4 0) 51 5 0) 51 6 0) 51 7 0) := hI21.w rfl
  refine ⟨rfl, ?_⟩
  have hB25 : BZ (zI (uI (uI (uI (uI (uI (uI (uI (uI I 51 0 0) 51 1 0) 51 2 0) 51 3 0) 51 4 0) 51 5 0) 51 6 0) 51 7 0) 52) := hB22.z
  have hZ26 : KI ([]) (zI (uI (uI (uI (uI (uI (uI (uI (uI I 51 0 0) 51 1 0) 51 2 0) 51 3 0) 51 4 0) 51 5 0) 51 6 0) 51 7 0) 52) := hZ23.z rfl
  have hI27 : FI 51 I (zI (uI (uI (uI (uI (uI (uI (uI (uI I 51 0 0) 51 1 0) 51 2 0) 51 3 0) 51 4 0) 51 5 0) 51 6 0) 51 7 0) 52) := hI24.z rfl
  have hK28 : RK ([]) (zR R 52) := (RK.nil (R := R)).z rfl
  have hF29 : FR 51 R (zR R 52) := (FR.refl 51 R).z rfl
  have hK30 : RK ((51, 8, 52) :: ([])) (uR (zR R 52) 51 8 52) := hK28.u rfl
  have hF31 : FR 51 R (uR (zR R 52) 51 8 52) := hF29.u rfl
  exact ⟨rfl, fun z => absurd z (by decide), hQ _ _ _ hB25 hF31 hK30 hI27 hZ26⟩
def zk_X10_init_53 : List (Nat × Nat × Int32) := (53, 1, -1) :: ([])
def lk_X10_init_53 : List (Nat × Nat × Nat) := (53, 2, 54) :: ([])
set_option maxHeartbeats 4000000 in
set_option maxRecDepth 100000 in
theorem ct_X10_init_53 {d : Nat} {Q : Qt} {I : Im} {J : Jm} {R : Rm} (hB : BZ I) (hQ : ∀ (I2 : Im) (J2 : Jm) (R2 : Rm), BZ I2 → FR 53 R R2 → RK lk_X10_init_53 R2 → FI 53 I I2 → KI zk_X10_init_53 I2 → Q 0 0 I2 J2 R2) : AM (d + 1) 94 53 [.ref 53] I J R Q := by
  refine amc_of (k := kX10_init) rfl rfl rfl rfl rfl rfl (Nat.le_of_ble_eq_true rfl) (fun P hc => ?_)
  refine cs_X10_init_53_0_53 hc _ _ _ ?_
  have hB1 : BZ (uI I 53 0 0) := hB.kw rfl rfl
  have hZ2 : KI ([]) (uI I 53 0 0) := (KI.nil (I := I)).w rfl
  have hI3 : FI 53 I (uI I 53 0 0) := (FI.refl 53 I).w rfl
  have hB4 : BZ (uI (uI I 53 0 0) 53 1 (-1)) := hB1.kw rfl rfl
  have hZ5 : KI ((53, 1, -1) :: ([])) (uI (uI I 53 0 0) 53 1 (-1)) := hZ2.u rfl
  have hI6 : FI 53 I (uI (uI I 53 0 0) 53 1 (-1)) := hI3.w rfl
  refine ⟨rfl, ?_⟩
  have hB7 : BZ (zI (uI (uI I 53 0 0) 53 1 (-1)) 54) := hB4.z
  have hZ8 : KI ((53, 1, -1) :: ([])) (zI (uI (uI I 53 0 0) 53 1 (-1)) 54) := hZ5.z rfl
  have hI9 : FI 53 I (zI (uI (uI I 53 0 0) 53 1 (-1)) 54) := hI6.z rfl
  have hK10 : RK ([]) (zR R 54) := (RK.nil (R := R)).z rfl
  have hF11 : FR 53 R (zR R 54) := (FR.refl 53 R).z rfl
  have hK12 : RK ((53, 2, 54) :: ([])) (uR (zR R 54) 53 2 54) := hK10.u rfl
  have hF13 : FR 53 R (uR (zR R 54) 53 2 54) := hF11.u rfl
  exact ⟨rfl, fun z => absurd z (by decide), hQ _ _ _ hB7 hF13 hK12 hI9 hZ8⟩
def zk_X10_init_55 : List (Nat × Nat × Int32) := (55, 1, -1) :: ([])
def lk_X10_init_55 : List (Nat × Nat × Nat) := (55, 2, 56) :: ([])
set_option maxHeartbeats 4000000 in
set_option maxRecDepth 100000 in
theorem ct_X10_init_55 {d : Nat} {Q : Qt} {I : Im} {J : Jm} {R : Rm} (hB : BZ I) (hQ : ∀ (I2 : Im) (J2 : Jm) (R2 : Rm), BZ I2 → FR 55 R R2 → RK lk_X10_init_55 R2 → FI 55 I I2 → KI zk_X10_init_55 I2 → Q 0 0 I2 J2 R2) : AM (d + 1) 94 55 [.ref 55] I J R Q := by
  refine amc_of (k := kX10_init) rfl rfl rfl rfl rfl rfl (Nat.le_of_ble_eq_true rfl) (fun P hc => ?_)
  refine cs_X10_init_55_0_55 hc _ _ _ ?_
  have hB1 : BZ (uI I 55 0 0) := hB.kw rfl rfl
  have hZ2 : KI ([]) (uI I 55 0 0) := (KI.nil (I := I)).w rfl
  have hI3 : FI 55 I (uI I 55 0 0) := (FI.refl 55 I).w rfl
  have hB4 : BZ (uI (uI I 55 0 0) 55 1 (-1)) := hB1.kw rfl rfl
  have hZ5 : KI ((55, 1, -1) :: ([])) (uI (uI I 55 0 0) 55 1 (-1)) := hZ2.u rfl
  have hI6 : FI 55 I (uI (uI I 55 0 0) 55 1 (-1)) := hI3.w rfl
  refine ⟨rfl, ?_⟩
  have hB7 : BZ (zI (uI (uI I 55 0 0) 55 1 (-1)) 56) := hB4.z
  have hZ8 : KI ((55, 1, -1) :: ([])) (zI (uI (uI I 55 0 0) 55 1 (-1)) 56) := hZ5.z rfl
  have hI9 : FI 55 I (zI (uI (uI I 55 0 0) 55 1 (-1)) 56) := hI6.z rfl
  have hK10 : RK ([]) (zR R 56) := (RK.nil (R := R)).z rfl
  have hF11 : FR 55 R (zR R 56) := (FR.refl 55 R).z rfl
  have hK12 : RK ((55, 2, 56) :: ([])) (uR (zR R 56) 55 2 56) := hK10.u rfl
  have hF13 : FR 55 R (uR (zR R 56) 55 2 56) := hF11.u rfl
  exact ⟨rfl, fun z => absurd z (by decide), hQ _ _ _ hB7 hF13 hK12 hI9 hZ8⟩
def zk_X10_init_57 : List (Nat × Nat × Int32) := (57, 1, -1) :: ([])
def lk_X10_init_57 : List (Nat × Nat × Nat) := (57, 2, 58) :: ([])
set_option maxHeartbeats 4000000 in
set_option maxRecDepth 100000 in
theorem ct_X10_init_57 {d : Nat} {Q : Qt} {I : Im} {J : Jm} {R : Rm} (hB : BZ I) (hQ : ∀ (I2 : Im) (J2 : Jm) (R2 : Rm), BZ I2 → FR 57 R R2 → RK lk_X10_init_57 R2 → FI 57 I I2 → KI zk_X10_init_57 I2 → Q 0 0 I2 J2 R2) : AM (d + 1) 94 57 [.ref 57] I J R Q := by
  refine amc_of (k := kX10_init) rfl rfl rfl rfl rfl rfl (Nat.le_of_ble_eq_true rfl) (fun P hc => ?_)
  refine cs_X10_init_57_0_57 hc _ _ _ ?_
  have hB1 : BZ (uI I 57 0 0) := hB.kw rfl rfl
  have hZ2 : KI ([]) (uI I 57 0 0) := (KI.nil (I := I)).w rfl
  have hI3 : FI 57 I (uI I 57 0 0) := (FI.refl 57 I).w rfl
  have hB4 : BZ (uI (uI I 57 0 0) 57 1 (-1)) := hB1.kw rfl rfl
  have hZ5 : KI ((57, 1, -1) :: ([])) (uI (uI I 57 0 0) 57 1 (-1)) := hZ2.u rfl
  have hI6 : FI 57 I (uI (uI I 57 0 0) 57 1 (-1)) := hI3.w rfl
  refine ⟨rfl, ?_⟩
  have hB7 : BZ (zI (uI (uI I 57 0 0) 57 1 (-1)) 58) := hB4.z
  have hZ8 : KI ((57, 1, -1) :: ([])) (zI (uI (uI I 57 0 0) 57 1 (-1)) 58) := hZ5.z rfl
  have hI9 : FI 57 I (zI (uI (uI I 57 0 0) 57 1 (-1)) 58) := hI6.z rfl
  have hK10 : RK ([]) (zR R 58) := (RK.nil (R := R)).z rfl
  have hF11 : FR 57 R (zR R 58) := (FR.refl 57 R).z rfl
  have hK12 : RK ((57, 2, 58) :: ([])) (uR (zR R 58) 57 2 58) := hK10.u rfl
  have hF13 : FR 57 R (uR (zR R 58) 57 2 58) := hF11.u rfl
  exact ⟨rfl, fun z => absurd z (by decide), hQ _ _ _ hB7 hF13 hK12 hI9 hZ8⟩
def zk_X10_init_59 : List (Nat × Nat × Int32) := (59, 1, -1) :: ([])
def lk_X10_init_59 : List (Nat × Nat × Nat) := (59, 2, 60) :: ([])
set_option maxHeartbeats 4000000 in
set_option maxRecDepth 100000 in
theorem ct_X10_init_59 {d : Nat} {Q : Qt} {I : Im} {J : Jm} {R : Rm} (hB : BZ I) (hQ : ∀ (I2 : Im) (J2 : Jm) (R2 : Rm), BZ I2 → FR 59 R R2 → RK lk_X10_init_59 R2 → FI 59 I I2 → KI zk_X10_init_59 I2 → Q 0 0 I2 J2 R2) : AM (d + 1) 94 59 [.ref 59] I J R Q := by
  refine amc_of (k := kX10_init) rfl rfl rfl rfl rfl rfl (Nat.le_of_ble_eq_true rfl) (fun P hc => ?_)
  refine cs_X10_init_59_0_59 hc _ _ _ ?_
  have hB1 : BZ (uI I 59 0 0) := hB.kw rfl rfl
  have hZ2 : KI ([]) (uI I 59 0 0) := (KI.nil (I := I)).w rfl
  have hI3 : FI 59 I (uI I 59 0 0) := (FI.refl 59 I).w rfl
  have hB4 : BZ (uI (uI I 59 0 0) 59 1 (-1)) := hB1.kw rfl rfl
  have hZ5 : KI ((59, 1, -1) :: ([])) (uI (uI I 59 0 0) 59 1 (-1)) := hZ2.u rfl
  have hI6 : FI 59 I (uI (uI I 59 0 0) 59 1 (-1)) := hI3.w rfl
  refine ⟨rfl, ?_⟩
  have hB7 : BZ (zI (uI (uI I 59 0 0) 59 1 (-1)) 60) := hB4.z
  have hZ8 : KI ((59, 1, -1) :: ([])) (zI (uI (uI I 59 0 0) 59 1 (-1)) 60) := hZ5.z rfl
  have hI9 : FI 59 I (zI (uI (uI I 59 0 0) 59 1 (-1)) 60) := hI6.z rfl
  have hK10 : RK ([]) (zR R 60) := (RK.nil (R := R)).z rfl
  have hF11 : FR 59 R (zR R 60) := (FR.refl 59 R).z rfl
  have hK12 : RK ((59, 2, 60) :: ([])) (uR (zR R 60) 59 2 60) := hK10.u rfl
  have hF13 : FR 59 R (uR (zR R 60) 59 2 60) := hF11.u rfl
  exact ⟨rfl, fun z => absurd z (by decide), hQ _ _ _ hB7 hF13 hK12 hI9 hZ8⟩
def zk_X0_init_61 : List (Nat × Nat × Int32) := []
def lk_X0_init_61 : List (Nat × Nat × Nat) := (61, 8, 66) :: ((61, 7, 65) :: ((61, 6, 64) :: ((61, 5, 63) :: ((61, 0, 62) :: ([])))))
set_option maxHeartbeats 4000000 in
set_option maxRecDepth 100000 in
theorem ct_X0_init_61 {d : Nat} {Q : Qt} {I : Im} {J : Jm} {R : Rm} (hB : BZ I) (hQ : ∀ (I2 : Im) (J2 : Jm) (R2 : Rm), BZ I2 → FR 61 R R2 → RK lk_X0_init_61 R2 → FI 61 I I2 → KI zk_X0_init_61 I2 → Q 0 0 I2 J2 R2) : AM (d + 1) 0 61 [.ref 61] I J R Q := by
  refine amc_of (k := kX0_init) rfl rfl rfl rfl rfl rfl (Nat.le_of_ble_eq_true rfl) (fun P hc => ?_)
  refine cs_X0_init_61_0_61 hc _ _ _ ?_
  refine ⟨rfl, ?_⟩
  have hB1 : BZ (zI I 62) := hB.z
  have hZ2 : KI ([]) (zI I 62) := (KI.nil (I := I)).z rfl
  have hI3 : FI 61 I (zI I 62) := (FI.refl 61 I).z rfl
  have hK4 : RK ([]) (zR R 62) := (RK.nil (R := R)).z rfl
  have hF5 : FR 61 R (zR R 62) := (FR.refl 61 R).z rfl
  have hK6 : RK ((61, 0, 62) :: ([])) (uR (zR R 62) 61 0 62) := hK4.u rfl
  have hF7 : FR 61 R (uR (zR R 62) 61 0 62) := hF5.u rfl
  have hB8 : BZ (uI (zI I 62) 61 1 4) := hB1.kw rfl rfl
  have hZ9 : KI ([]) (uI (zI I 62) 61 1 4) := hZ2.w rfl
  have hI10 : FI 61 I (uI (zI I 62) 61 1 4) := hI3.w rfl
  have hB11 : BZ (uI (uI (zI I 62) 61 1 4) 61 2 1073741823) := hB8.kw rfl rfl
  have hZ12 : KI ([]) (uI (uI (zI I 62) 61 1 4) 61 2 1073741823) := hZ9.w rfl
  have hI13 : FI 61 I (uI (uI (zI I 62) 61 1 4) 61 2 1073741823) := hI10.w rfl
  have hB14 : BZ (uI (uI (uI (zI I 62) 61 1 4) 61 2 1073741823) 61 3 0) := hB11.kw rfl rfl
  have hZ15 : KI ([]) (uI (uI (uI (zI I 62) 61 1 4) 61 2 1073741823) 61 3 0) := hZ12.w rfl
  have hI16 : FI 61 I (uI (uI (uI (zI I 62) 61 1 4) 61 2 1073741823) 61 3 0) := hI13.w rfl
  have hB17 : BZ (uI (uI (uI (uI (zI I 62) 61 1 4) 61 2 1073741823) 61 3 0) 61 4 0) := hB14.kw rfl rfl
  have hZ18 : KI ([]) (uI (uI (uI (uI (zI I 62) 61 1 4) 61 2 1073741823) 61 3 0) 61 4 0) := hZ15.w rfl
  have hI19 : FI 61 I (uI (uI (uI (uI (zI I 62) 61 1 4) 61 2 1073741823) 61 3 0) 61 4 0) := hI16.w rfl
  refine ⟨rfl, ?_⟩
  have hB20 : BZ (zI (uI (uI (uI (uI (zI I 62) 61 1 4) 61 2 1073741823) 61 3 0) 61 4 0) 63) := hB17.z
  have hZ21 : KI ([]) (zI (uI (uI (uI (uI (zI I 62) 61 1 4) 61 2 1073741823) 61 3 0) 61 4 0) 63) := hZ18.z rfl
  have hI22 : FI 61 I (zI (uI (uI (uI (uI (zI I 62) 61 1 4) 61 2 1073741823) 61 3 0) 61 4 0) 63) := hI19.z rfl
  have hK23 : RK ((61, 0, 62) :: ([])) (zR (uR (zR R 62) 61 0 62) 63) := hK6.z rfl
  have hF24 : FR 61 R (zR (uR (zR R 62) 61 0 62) 63) := hF7.z rfl
  have hK25 : RK ((61, 5, 63) :: ((61, 0, 62) :: ([]))) (uR (zR (uR (zR R 62) 61 0 62) 63) 61 5 63) := hK23.u rfl
  have hF26 : FR 61 R (uR (zR (uR (zR R 62) 61 0 62) 63) 61 5 63) := hF24.u rfl
  refine ⟨rfl, ?_⟩
  have hB27 : BZ (zI (zI (uI (uI (uI (uI (zI I 62) 61 1 4) 61 2 1073741823) 61 3 0) 61 4 0) 63) 64) := hB20.z
  have hZ28 : KI ([]) (zI (zI (uI (uI (uI (uI (zI I 62) 61 1 4) 61 2 1073741823) 61 3 0) 61 4 0) 63) 64) := hZ21.z rfl
  have hI29 : FI 61 I (zI (zI (uI (uI (uI (uI (zI I 62) 61 1 4) 61 2 1073741823) 61 3 0) 61 4 0) 63) 64) := hI22.z rfl
  have hK30 : RK ((61, 5, 63) :: ((61, 0, 62) :: ([]))) (zR (uR (zR (uR (zR R 62) 61 0 62) 63) 61 5 63) 64) := hK25.z rfl
  have hF31 : FR 61 R (zR (uR (zR (uR (zR R 62) 61 0 62) 63) 61 5 63) 64) := hF26.z rfl
  have hK32 : RK ((61, 6, 64) :: ((61, 5, 63) :: ((61, 0, 62) :: ([])))) (uR (zR (uR (zR (uR (zR R 62) 61 0 62) 63) 61 5 63) 64) 61 6 64) := hK30.u rfl
  have hF33 : FR 61 R (uR (zR (uR (zR (uR (zR R 62) 61 0 62) 63) 61 5 63) 64) 61 6 64) := hF31.u rfl
  refine ⟨rfl, ?_⟩
  have hB34 : BZ (zI (zI (zI (uI (uI (uI (uI (zI I 62) 61 1 4) 61 2 1073741823) 61 3 0) 61 4 0) 63) 64) 65) := hB27.z
  have hZ35 : KI ([]) (zI (zI (zI (uI (uI (uI (uI (zI I 62) 61 1 4) 61 2 1073741823) 61 3 0) 61 4 0) 63) 64) 65) := hZ28.z rfl
  have hI36 : FI 61 I (zI (zI (zI (uI (uI (uI (uI (zI I 62) 61 1 4) 61 2 1073741823) 61 3 0) 61 4 0) 63) 64) 65) := hI29.z rfl
  have hK37 : RK ((61, 6, 64) :: ((61, 5, 63) :: ((61, 0, 62) :: ([])))) (zR (uR (zR (uR (zR (uR (zR R 62) 61 0 62) 63) 61 5 63) 64) 61 6 64) 65) := hK32.z rfl
  have hF38 : FR 61 R (zR (uR (zR (uR (zR (uR (zR R 62) 61 0 62) 63) 61 5 63) 64) 61 6 64) 65) := hF33.z rfl
  have hK39 : RK ((61, 7, 65) :: ((61, 6, 64) :: ((61, 5, 63) :: ((61, 0, 62) :: ([]))))) (uR (zR (uR (zR (uR (zR (uR (zR R 62) 61 0 62) 63) 61 5 63) 64) 61 6 64) 65) 61 7 65) := hK37.u rfl
  have hF40 : FR 61 R (uR (zR (uR (zR (uR (zR (uR (zR R 62) 61 0 62) 63) 61 5 63) 64) 61 6 64) 65) 61 7 65) := hF38.u rfl
  refine ⟨rfl, ?_⟩
  have hB41 : BZ (zI (zI (zI (zI (uI (uI (uI (uI (zI I 62) 61 1 4) 61 2 1073741823) 61 3 0) 61 4 0) 63) 64) 65) 66) := hB34.z
  have hZ42 : KI ([]) (zI (zI (zI (zI (uI (uI (uI (uI (zI I 62) 61 1 4) 61 2 1073741823) 61 3 0) 61 4 0) 63) 64) 65) 66) := hZ35.z rfl
  have hI43 : FI 61 I (zI (zI (zI (zI (uI (uI (uI (uI (zI I 62) 61 1 4) 61 2 1073741823) 61 3 0) 61 4 0) 63) 64) 65) 66) := hI36.z rfl
  have hK44 : RK ((61, 7, 65) :: ((61, 6, 64) :: ((61, 5, 63) :: ((61, 0, 62) :: ([]))))) (zR (uR (zR (uR (zR (uR (zR (uR (zR R 62) 61 0 62) 63) 61 5 63) 64) 61 6 64) 65) 61 7 65) 66) := hK39.z rfl
  have hF45 : FR 61 R (zR (uR (zR (uR (zR (uR (zR (uR (zR R 62) 61 0 62) 63) 61 5 63) 64) 61 6 64) 65) 61 7 65) 66) := hF40.z rfl
  have hK46 : RK ((61, 8, 66) :: ((61, 7, 65) :: ((61, 6, 64) :: ((61, 5, 63) :: ((61, 0, 62) :: ([])))))) (uR (zR (uR (zR (uR (zR (uR (zR (uR (zR R 62) 61 0 62) 63) 61 5 63) 64) 61 6 64) 65) 61 7 65) 66) 61 8 66) := hK44.u rfl
  have hF47 : FR 61 R (uR (zR (uR (zR (uR (zR (uR (zR (uR (zR R 62) 61 0 62) 63) 61 5 63) 64) 61 6 64) 65) 61 7 65) 66) 61 8 66) := hF45.u rfl
  exact ⟨rfl, fun z => absurd z (by decide), hQ _ _ _ hB41 hF47 hK46 hI43 hZ42⟩
def zk_X2_init_67 : List (Nat × Nat × Int32) := []
def lk_X2_init_67 : List (Nat × Nat × Nat) := (67, 7, 72) :: ((67, 6, 71) :: ((67, 5, 70) :: ((67, 4, 69) :: ((67, 3, 68) :: ([])))))
set_option maxHeartbeats 4000000 in
set_option maxRecDepth 100000 in
theorem ct_X2_init_67 {d : Nat} {Q : Qt} {I : Im} {J : Jm} {R : Rm} (hB : BZ I) (hQ : ∀ (I2 : Im) (J2 : Jm) (R2 : Rm), BZ I2 → FR 67 R R2 → RK lk_X2_init_67 R2 → FI 67 I I2 → KI zk_X2_init_67 I2 → Q 0 0 I2 J2 R2) : AM (d + 1) 27 67 [.ref 67] I J R Q := by
  refine amc_of (k := kX2_init) rfl rfl rfl rfl rfl rfl (Nat.le_of_ble_eq_true rfl) (fun P hc => ?_)
  refine cs_X2_init_67_0_67 hc _ _ _ ?_
  refine ⟨Or.inl rfl, ?_⟩
  have hB1 : BZ (uI I 67 0 0) := hB.kw rfl rfl
  have hZ2 : KI ([]) (uI I 67 0 0) := (KI.nil (I := I)).w rfl
  have hI3 : FI 67 I (uI I 67 0 0) := (FI.refl 67 I).w rfl
  have hB4 : BZ (uI (uI I 67 0 0) 67 1 0) := hB1.kw rfl rfl
  have hZ5 : KI ([]) (uI (uI I 67 0 0) 67 1 0) := hZ2.w rfl
  have hI6 : FI 67 I (uI (uI I 67 0 0) 67 1 0) := hI3.w rfl
  have hB7 : BZ (uI (uI (uI I 67 0 0) 67 1 0) 67 2 0) := hB4.kw rfl rfl
  have hZ8 : KI ([]) (uI (uI (uI I 67 0 0) 67 1 0) 67 2 0) := hZ5.w rfl
  have hI9 : FI 67 I (uI (uI (uI I 67 0 0) 67 1 0) 67 2 0) := hI6.w rfl
  refine ⟨rfl, ?_⟩
  have hB10 : BZ (zI (uI (uI (uI I 67 0 0) 67 1 0) 67 2 0) 68) := hB7.z
  have hZ11 : KI ([]) (zI (uI (uI (uI I 67 0 0) 67 1 0) 67 2 0) 68) := hZ8.z rfl
  have hI12 : FI 67 I (zI (uI (uI (uI I 67 0 0) 67 1 0) 67 2 0) 68) := hI9.z rfl
  have hK13 : RK ([]) (zR R 68) := (RK.nil (R := R)).z rfl
  have hF14 : FR 67 R (zR R 68) := (FR.refl 67 R).z rfl
  have hK15 : RK ((67, 3, 68) :: ([])) (uR (zR R 68) 67 3 68) := hK13.u rfl
  have hF16 : FR 67 R (uR (zR R 68) 67 3 68) := hF14.u rfl
  refine ⟨rfl, ?_⟩
  have hB17 : BZ (zI (zI (uI (uI (uI I 67 0 0) 67 1 0) 67 2 0) 68) 69) := hB10.z
  have hZ18 : KI ([]) (zI (zI (uI (uI (uI I 67 0 0) 67 1 0) 67 2 0) 68) 69) := hZ11.z rfl
  have hI19 : FI 67 I (zI (zI (uI (uI (uI I 67 0 0) 67 1 0) 67 2 0) 68) 69) := hI12.z rfl
  have hK20 : RK ((67, 3, 68) :: ([])) (zR (uR (zR R 68) 67 3 68) 69) := hK15.z rfl
  have hF21 : FR 67 R (zR (uR (zR R 68) 67 3 68) 69) := hF16.z rfl
  have hK22 : RK ((67, 4, 69) :: ((67, 3, 68) :: ([]))) (uR (zR (uR (zR R 68) 67 3 68) 69) 67 4 69) := hK20.u rfl
  have hF23 : FR 67 R (uR (zR (uR (zR R 68) 67 3 68) 69) 67 4 69) := hF21.u rfl
  refine ⟨rfl, ?_⟩
  have hB24 : BZ (zI (zI (zI (uI (uI (uI I 67 0 0) 67 1 0) 67 2 0) 68) 69) 70) := hB17.z
  have hZ25 : KI ([]) (zI (zI (zI (uI (uI (uI I 67 0 0) 67 1 0) 67 2 0) 68) 69) 70) := hZ18.z rfl
  have hI26 : FI 67 I (zI (zI (zI (uI (uI (uI I 67 0 0) 67 1 0) 67 2 0) 68) 69) 70) := hI19.z rfl
  have hK27 : RK ((67, 4, 69) :: ((67, 3, 68) :: ([]))) (zR (uR (zR (uR (zR R 68) 67 3 68) 69) 67 4 69) 70) := hK22.z rfl
  have hF28 : FR 67 R (zR (uR (zR (uR (zR R 68) 67 3 68) 69) 67 4 69) 70) := hF23.z rfl
  have hK29 : RK ((67, 5, 70) :: ((67, 4, 69) :: ((67, 3, 68) :: ([])))) (uR (zR (uR (zR (uR (zR R 68) 67 3 68) 69) 67 4 69) 70) 67 5 70) := hK27.u rfl
  have hF30 : FR 67 R (uR (zR (uR (zR (uR (zR R 68) 67 3 68) 69) 67 4 69) 70) 67 5 70) := hF28.u rfl
  refine ⟨rfl, ?_⟩
  have hB31 : BZ (zI (zI (zI (zI (uI (uI (uI I 67 0 0) 67 1 0) 67 2 0) 68) 69) 70) 71) := hB24.z
  have hZ32 : KI ([]) (zI (zI (zI (zI (uI (uI (uI I 67 0 0) 67 1 0) 67 2 0) 68) 69) 70) 71) := hZ25.z rfl
  have hI33 : FI 67 I (zI (zI (zI (zI (uI (uI (uI I 67 0 0) 67 1 0) 67 2 0) 68) 69) 70) 71) := hI26.z rfl
  have hK34 : RK ((67, 5, 70) :: ((67, 4, 69) :: ((67, 3, 68) :: ([])))) (zR (uR (zR (uR (zR (uR (zR R 68) 67 3 68) 69) 67 4 69) 70) 67 5 70) 71) := hK29.z rfl
  have hF35 : FR 67 R (zR (uR (zR (uR (zR (uR (zR R 68) 67 3 68) 69) 67 4 69) 70) 67 5 70) 71) := hF30.z rfl
  have hK36 : RK ((67, 6, 71) :: ((67, 5, 70) :: ((67, 4, 69) :: ((67, 3, 68) :: ([]))))) (uR (zR (uR (zR (uR (zR (uR (zR R 68) 67 3 68) 69) 67 4 69) 70) 67 5 70) 71) 67 6 71) := hK34.u rfl
  have hF37 : FR 67 R (uR (zR (uR (zR (uR (zR (uR (zR R 68) 67 3 68) 69) 67 4 69) 70) 67 5 70) 71) 67 6 71) := hF35.u rfl
  refine ⟨rfl, ?_⟩
  have hB38 : BZ (zI (zI (zI (zI (zI (uI (uI (uI I 67 0 0) 67 1 0) 67 2 0) 68) 69) 70) 71) 72) := hB31.z
  have hZ39 : KI ([]) (zI (zI (zI (zI (zI (uI (uI (uI I 67 0 0) 67 1 0) 67 2 0) 68) 69) 70) 71) 72) := hZ32.z rfl
  have hI40 : FI 67 I (zI (zI (zI (zI (zI (uI (uI (uI I 67 0 0) 67 1 0) 67 2 0) 68) 69) 70) 71) 72) := hI33.z rfl
  have hK41 : RK ((67, 6, 71) :: ((67, 5, 70) :: ((67, 4, 69) :: ((67, 3, 68) :: ([]))))) (zR (uR (zR (uR (zR (uR (zR (uR (zR R 68) 67 3 68) 69) 67 4 69) 70) 67 5 70) 71) 67 6 71) 72) := hK36.z rfl
  have hF42 : FR 67 R (zR (uR (zR (uR (zR (uR (zR (uR (zR R 68) 67 3 68) 69) 67 4 69) 70) 67 5 70) 71) 67 6 71) 72) := hF37.z rfl
  have hK43 : RK ((67, 7, 72) :: ((67, 6, 71) :: ((67, 5, 70) :: ((67, 4, 69) :: ((67, 3, 68) :: ([])))))) (uR (zR (uR (zR (uR (zR (uR (zR (uR (zR R 68) 67 3 68) 69) 67 4 69) 70) 67 5 70) 71) 67 6 71) 72) 67 7 72) := hK41.u rfl
  have hF44 : FR 67 R (uR (zR (uR (zR (uR (zR (uR (zR (uR (zR R 68) 67 3 68) 69) 67 4 69) 70) 67 5 70) 71) 67 6 71) 72) 67 7 72) := hF42.u rfl
  exact ⟨rfl, fun z => absurd z (by decide), hQ _ _ _ hB38 hF44 hK43 hI40 hZ39⟩
def zk_X0_init_73 : List (Nat × Nat × Int32) := []
def lk_X0_init_73 : List (Nat × Nat × Nat) := (73, 8, 78) :: ((73, 7, 77) :: ((73, 6, 76) :: ((73, 5, 75) :: ((73, 0, 74) :: ([])))))
set_option maxHeartbeats 4000000 in
set_option maxRecDepth 100000 in
theorem ct_X0_init_73 {d : Nat} {Q : Qt} {I : Im} {J : Jm} {R : Rm} (hB : BZ I) (hQ : ∀ (I2 : Im) (J2 : Jm) (R2 : Rm), BZ I2 → FR 73 R R2 → RK lk_X0_init_73 R2 → FI 73 I I2 → KI zk_X0_init_73 I2 → Q 0 0 I2 J2 R2) : AM (d + 1) 0 73 [.ref 73] I J R Q := by
  refine amc_of (k := kX0_init) rfl rfl rfl rfl rfl rfl (Nat.le_of_ble_eq_true rfl) (fun P hc => ?_)
  refine cs_X0_init_73_0_73 hc _ _ _ ?_
  refine ⟨rfl, ?_⟩
  have hB1 : BZ (zI I 74) := hB.z
  have hZ2 : KI ([]) (zI I 74) := (KI.nil (I := I)).z rfl
  have hI3 : FI 73 I (zI I 74) := (FI.refl 73 I).z rfl
  have hK4 : RK ([]) (zR R 74) := (RK.nil (R := R)).z rfl
  have hF5 : FR 73 R (zR R 74) := (FR.refl 73 R).z rfl
  have hK6 : RK ((73, 0, 74) :: ([])) (uR (zR R 74) 73 0 74) := hK4.u rfl
  have hF7 : FR 73 R (uR (zR R 74) 73 0 74) := hF5.u rfl
  have hB8 : BZ (uI (zI I 74) 73 1 4) := hB1.kw rfl rfl
  have hZ9 : KI ([]) (uI (zI I 74) 73 1 4) := hZ2.w rfl
  have hI10 : FI 73 I (uI (zI I 74) 73 1 4) := hI3.w rfl
  have hB11 : BZ (uI (uI (zI I 74) 73 1 4) 73 2 1073741823) := hB8.kw rfl rfl
  have hZ12 : KI ([]) (uI (uI (zI I 74) 73 1 4) 73 2 1073741823) := hZ9.w rfl
  have hI13 : FI 73 I (uI (uI (zI I 74) 73 1 4) 73 2 1073741823) := hI10.w rfl
  have hB14 : BZ (uI (uI (uI (zI I 74) 73 1 4) 73 2 1073741823) 73 3 0) := hB11.kw rfl rfl
  have hZ15 : KI ([]) (uI (uI (uI (zI I 74) 73 1 4) 73 2 1073741823) 73 3 0) := hZ12.w rfl
  have hI16 : FI 73 I (uI (uI (uI (zI I 74) 73 1 4) 73 2 1073741823) 73 3 0) := hI13.w rfl
  have hB17 : BZ (uI (uI (uI (uI (zI I 74) 73 1 4) 73 2 1073741823) 73 3 0) 73 4 0) := hB14.kw rfl rfl
  have hZ18 : KI ([]) (uI (uI (uI (uI (zI I 74) 73 1 4) 73 2 1073741823) 73 3 0) 73 4 0) := hZ15.w rfl
  have hI19 : FI 73 I (uI (uI (uI (uI (zI I 74) 73 1 4) 73 2 1073741823) 73 3 0) 73 4 0) := hI16.w rfl
  refine ⟨rfl, ?_⟩
  have hB20 : BZ (zI (uI (uI (uI (uI (zI I 74) 73 1 4) 73 2 1073741823) 73 3 0) 73 4 0) 75) := hB17.z
  have hZ21 : KI ([]) (zI (uI (uI (uI (uI (zI I 74) 73 1 4) 73 2 1073741823) 73 3 0) 73 4 0) 75) := hZ18.z rfl
  have hI22 : FI 73 I (zI (uI (uI (uI (uI (zI I 74) 73 1 4) 73 2 1073741823) 73 3 0) 73 4 0) 75) := hI19.z rfl
  have hK23 : RK ((73, 0, 74) :: ([])) (zR (uR (zR R 74) 73 0 74) 75) := hK6.z rfl
  have hF24 : FR 73 R (zR (uR (zR R 74) 73 0 74) 75) := hF7.z rfl
  have hK25 : RK ((73, 5, 75) :: ((73, 0, 74) :: ([]))) (uR (zR (uR (zR R 74) 73 0 74) 75) 73 5 75) := hK23.u rfl
  have hF26 : FR 73 R (uR (zR (uR (zR R 74) 73 0 74) 75) 73 5 75) := hF24.u rfl
  refine ⟨rfl, ?_⟩
  have hB27 : BZ (zI (zI (uI (uI (uI (uI (zI I 74) 73 1 4) 73 2 1073741823) 73 3 0) 73 4 0) 75) 76) := hB20.z
  have hZ28 : KI ([]) (zI (zI (uI (uI (uI (uI (zI I 74) 73 1 4) 73 2 1073741823) 73 3 0) 73 4 0) 75) 76) := hZ21.z rfl
  have hI29 : FI 73 I (zI (zI (uI (uI (uI (uI (zI I 74) 73 1 4) 73 2 1073741823) 73 3 0) 73 4 0) 75) 76) := hI22.z rfl
  have hK30 : RK ((73, 5, 75) :: ((73, 0, 74) :: ([]))) (zR (uR (zR (uR (zR R 74) 73 0 74) 75) 73 5 75) 76) := hK25.z rfl
  have hF31 : FR 73 R (zR (uR (zR (uR (zR R 74) 73 0 74) 75) 73 5 75) 76) := hF26.z rfl
  have hK32 : RK ((73, 6, 76) :: ((73, 5, 75) :: ((73, 0, 74) :: ([])))) (uR (zR (uR (zR (uR (zR R 74) 73 0 74) 75) 73 5 75) 76) 73 6 76) := hK30.u rfl
  have hF33 : FR 73 R (uR (zR (uR (zR (uR (zR R 74) 73 0 74) 75) 73 5 75) 76) 73 6 76) := hF31.u rfl
  refine ⟨rfl, ?_⟩
  have hB34 : BZ (zI (zI (zI (uI (uI (uI (uI (zI I 74) 73 1 4) 73 2 1073741823) 73 3 0) 73 4 0) 75) 76) 77) := hB27.z
  have hZ35 : KI ([]) (zI (zI (zI (uI (uI (uI (uI (zI I 74) 73 1 4) 73 2 1073741823) 73 3 0) 73 4 0) 75) 76) 77) := hZ28.z rfl
  have hI36 : FI 73 I (zI (zI (zI (uI (uI (uI (uI (zI I 74) 73 1 4) 73 2 1073741823) 73 3 0) 73 4 0) 75) 76) 77) := hI29.z rfl
  have hK37 : RK ((73, 6, 76) :: ((73, 5, 75) :: ((73, 0, 74) :: ([])))) (zR (uR (zR (uR (zR (uR (zR R 74) 73 0 74) 75) 73 5 75) 76) 73 6 76) 77) := hK32.z rfl
  have hF38 : FR 73 R (zR (uR (zR (uR (zR (uR (zR R 74) 73 0 74) 75) 73 5 75) 76) 73 6 76) 77) := hF33.z rfl
  have hK39 : RK ((73, 7, 77) :: ((73, 6, 76) :: ((73, 5, 75) :: ((73, 0, 74) :: ([]))))) (uR (zR (uR (zR (uR (zR (uR (zR R 74) 73 0 74) 75) 73 5 75) 76) 73 6 76) 77) 73 7 77) := hK37.u rfl
  have hF40 : FR 73 R (uR (zR (uR (zR (uR (zR (uR (zR R 74) 73 0 74) 75) 73 5 75) 76) 73 6 76) 77) 73 7 77) := hF38.u rfl
  refine ⟨rfl, ?_⟩
  have hB41 : BZ (zI (zI (zI (zI (uI (uI (uI (uI (zI I 74) 73 1 4) 73 2 1073741823) 73 3 0) 73 4 0) 75) 76) 77) 78) := hB34.z
  have hZ42 : KI ([]) (zI (zI (zI (zI (uI (uI (uI (uI (zI I 74) 73 1 4) 73 2 1073741823) 73 3 0) 73 4 0) 75) 76) 77) 78) := hZ35.z rfl
  have hI43 : FI 73 I (zI (zI (zI (zI (uI (uI (uI (uI (zI I 74) 73 1 4) 73 2 1073741823) 73 3 0) 73 4 0) 75) 76) 77) 78) := hI36.z rfl
  have hK44 : RK ((73, 7, 77) :: ((73, 6, 76) :: ((73, 5, 75) :: ((73, 0, 74) :: ([]))))) (zR (uR (zR (uR (zR (uR (zR (uR (zR R 74) 73 0 74) 75) 73 5 75) 76) 73 6 76) 77) 73 7 77) 78) := hK39.z rfl
  have hF45 : FR 73 R (zR (uR (zR (uR (zR (uR (zR (uR (zR R 74) 73 0 74) 75) 73 5 75) 76) 73 6 76) 77) 73 7 77) 78) := hF40.z rfl
  have hK46 : RK ((73, 8, 78) :: ((73, 7, 77) :: ((73, 6, 76) :: ((73, 5, 75) :: ((73, 0, 74) :: ([])))))) (uR (zR (uR (zR (uR (zR (uR (zR (uR (zR R 74) 73 0 74) 75) 73 5 75) 76) 73 6 76) 77) 73 7 77) 78) 73 8 78) := hK44.u rfl
  have hF47 : FR 73 R (uR (zR (uR (zR (uR (zR (uR (zR (uR (zR R 74) 73 0 74) 75) 73 5 75) 76) 73 6 76) 77) 73 7 77) 78) 73 8 78) := hF45.u rfl
  exact ⟨rfl, fun z => absurd z (by decide), hQ _ _ _ hB41 hF47 hK46 hI43 hZ42⟩
def zk_X2_init_79 : List (Nat × Nat × Int32) := []
def lk_X2_init_79 : List (Nat × Nat × Nat) := (79, 7, 84) :: ((79, 6, 83) :: ((79, 5, 82) :: ((79, 4, 81) :: ((79, 3, 80) :: ([])))))
set_option maxHeartbeats 4000000 in
set_option maxRecDepth 100000 in
theorem ct_X2_init_79 {d : Nat} {Q : Qt} {I : Im} {J : Jm} {R : Rm} (hB : BZ I) (hQ : ∀ (I2 : Im) (J2 : Jm) (R2 : Rm), BZ I2 → FR 79 R R2 → RK lk_X2_init_79 R2 → FI 79 I I2 → KI zk_X2_init_79 I2 → Q 0 0 I2 J2 R2) : AM (d + 1) 27 79 [.ref 79] I J R Q := by
  refine amc_of (k := kX2_init) rfl rfl rfl rfl rfl rfl (Nat.le_of_ble_eq_true rfl) (fun P hc => ?_)
  refine cs_X2_init_79_0_79 hc _ _ _ ?_
  refine ⟨Or.inl rfl, ?_⟩
  have hB1 : BZ (uI I 79 0 0) := hB.kw rfl rfl
  have hZ2 : KI ([]) (uI I 79 0 0) := (KI.nil (I := I)).w rfl
  have hI3 : FI 79 I (uI I 79 0 0) := (FI.refl 79 I).w rfl
  have hB4 : BZ (uI (uI I 79 0 0) 79 1 0) := hB1.kw rfl rfl
  have hZ5 : KI ([]) (uI (uI I 79 0 0) 79 1 0) := hZ2.w rfl
  have hI6 : FI 79 I (uI (uI I 79 0 0) 79 1 0) := hI3.w rfl
  have hB7 : BZ (uI (uI (uI I 79 0 0) 79 1 0) 79 2 0) := hB4.kw rfl rfl
  have hZ8 : KI ([]) (uI (uI (uI I 79 0 0) 79 1 0) 79 2 0) := hZ5.w rfl
  have hI9 : FI 79 I (uI (uI (uI I 79 0 0) 79 1 0) 79 2 0) := hI6.w rfl
  refine ⟨rfl, ?_⟩
  have hB10 : BZ (zI (uI (uI (uI I 79 0 0) 79 1 0) 79 2 0) 80) := hB7.z
  have hZ11 : KI ([]) (zI (uI (uI (uI I 79 0 0) 79 1 0) 79 2 0) 80) := hZ8.z rfl
  have hI12 : FI 79 I (zI (uI (uI (uI I 79 0 0) 79 1 0) 79 2 0) 80) := hI9.z rfl
  have hK13 : RK ([]) (zR R 80) := (RK.nil (R := R)).z rfl
  have hF14 : FR 79 R (zR R 80) := (FR.refl 79 R).z rfl
  have hK15 : RK ((79, 3, 80) :: ([])) (uR (zR R 80) 79 3 80) := hK13.u rfl
  have hF16 : FR 79 R (uR (zR R 80) 79 3 80) := hF14.u rfl
  refine ⟨rfl, ?_⟩
  have hB17 : BZ (zI (zI (uI (uI (uI I 79 0 0) 79 1 0) 79 2 0) 80) 81) := hB10.z
  have hZ18 : KI ([]) (zI (zI (uI (uI (uI I 79 0 0) 79 1 0) 79 2 0) 80) 81) := hZ11.z rfl
  have hI19 : FI 79 I (zI (zI (uI (uI (uI I 79 0 0) 79 1 0) 79 2 0) 80) 81) := hI12.z rfl
  have hK20 : RK ((79, 3, 80) :: ([])) (zR (uR (zR R 80) 79 3 80) 81) := hK15.z rfl
  have hF21 : FR 79 R (zR (uR (zR R 80) 79 3 80) 81) := hF16.z rfl
  have hK22 : RK ((79, 4, 81) :: ((79, 3, 80) :: ([]))) (uR (zR (uR (zR R 80) 79 3 80) 81) 79 4 81) := hK20.u rfl
  have hF23 : FR 79 R (uR (zR (uR (zR R 80) 79 3 80) 81) 79 4 81) := hF21.u rfl
  refine ⟨rfl, ?_⟩
  have hB24 : BZ (zI (zI (zI (uI (uI (uI I 79 0 0) 79 1 0) 79 2 0) 80) 81) 82) := hB17.z
  have hZ25 : KI ([]) (zI (zI (zI (uI (uI (uI I 79 0 0) 79 1 0) 79 2 0) 80) 81) 82) := hZ18.z rfl
  have hI26 : FI 79 I (zI (zI (zI (uI (uI (uI I 79 0 0) 79 1 0) 79 2 0) 80) 81) 82) := hI19.z rfl
  have hK27 : RK ((79, 4, 81) :: ((79, 3, 80) :: ([]))) (zR (uR (zR (uR (zR R 80) 79 3 80) 81) 79 4 81) 82) := hK22.z rfl
  have hF28 : FR 79 R (zR (uR (zR (uR (zR R 80) 79 3 80) 81) 79 4 81) 82) := hF23.z rfl
  have hK29 : RK ((79, 5, 82) :: ((79, 4, 81) :: ((79, 3, 80) :: ([])))) (uR (zR (uR (zR (uR (zR R 80) 79 3 80) 81) 79 4 81) 82) 79 5 82) := hK27.u rfl
  have hF30 : FR 79 R (uR (zR (uR (zR (uR (zR R 80) 79 3 80) 81) 79 4 81) 82) 79 5 82) := hF28.u rfl
  refine ⟨rfl, ?_⟩
  have hB31 : BZ (zI (zI (zI (zI (uI (uI (uI I 79 0 0) 79 1 0) 79 2 0) 80) 81) 82) 83) := hB24.z
  have hZ32 : KI ([]) (zI (zI (zI (zI (uI (uI (uI I 79 0 0) 79 1 0) 79 2 0) 80) 81) 82) 83) := hZ25.z rfl
  have hI33 : FI 79 I (zI (zI (zI (zI (uI (uI (uI I 79 0 0) 79 1 0) 79 2 0) 80) 81) 82) 83) := hI26.z rfl
  have hK34 : RK ((79, 5, 82) :: ((79, 4, 81) :: ((79, 3, 80) :: ([])))) (zR (uR (zR (uR (zR (uR (zR R 80) 79 3 80) 81) 79 4 81) 82) 79 5 82) 83) := hK29.z rfl
  have hF35 : FR 79 R (zR (uR (zR (uR (zR (uR (zR R 80) 79 3 80) 81) 79 4 81) 82) 79 5 82) 83) := hF30.z rfl
  have hK36 : RK ((79, 6, 83) :: ((79, 5, 82) :: ((79, 4, 81) :: ((79, 3, 80) :: ([]))))) (uR (zR (uR (zR (uR (zR (uR (zR R 80) 79 3 80) 81) 79 4 81) 82) 79 5 82) 83) 79 6 83) := hK34.u rfl
  have hF37 : FR 79 R (uR (zR (uR (zR (uR (zR (uR (zR R 80) 79 3 80) 81) 79 4 81) 82) 79 5 82) 83) 79 6 83) := hF35.u rfl
  refine ⟨rfl, ?_⟩
  have hB38 : BZ (zI (zI (zI (zI (zI (uI (uI (uI I 79 0 0) 79 1 0) 79 2 0) 80) 81) 82) 83) 84) := hB31.z
  have hZ39 : KI ([]) (zI (zI (zI (zI (zI (uI (uI (uI I 79 0 0) 79 1 0) 79 2 0) 80) 81) 82) 83) 84) := hZ32.z rfl
  have hI40 : FI 79 I (zI (zI (zI (zI (zI (uI (uI (uI I 79 0 0) 79 1 0) 79 2 0) 80) 81) 82) 83) 84) := hI33.z rfl
  have hK41 : RK ((79, 6, 83) :: ((79, 5, 82) :: ((79, 4, 81) :: ((79, 3, 80) :: ([]))))) (zR (uR (zR (uR (zR (uR (zR (uR (zR R 80) 79 3 80) 81) 79 4 81) 82) 79 5 82) 83) 79 6 83) 84) := hK36.z rfl
  have hF42 : FR 79 R (zR (uR (zR (uR (zR (uR (zR (uR (zR R 80) 79 3 80) 81) 79 4 81) 82) 79 5 82) 83) 79 6 83) 84) := hF37.z rfl
  have hK43 : RK ((79, 7, 84) :: ((79, 6, 83) :: ((79, 5, 82) :: ((79, 4, 81) :: ((79, 3, 80) :: ([])))))) (uR (zR (uR (zR (uR (zR (uR (zR (uR (zR R 80) 79 3 80) 81) 79 4 81) 82) 79 5 82) 83) 79 6 83) 84) 79 7 84) := hK41.u rfl
  have hF44 : FR 79 R (uR (zR (uR (zR (uR (zR (uR (zR (uR (zR R 80) 79 3 80) 81) 79 4 81) 82) 79 5 82) 83) 79 6 83) 84) 79 7 84) := hF42.u rfl
  exact ⟨rfl, fun z => absurd z (by decide), hQ _ _ _ hB38 hF44 hK43 hI40 hZ39⟩
def zk_X0_init_85 : List (Nat × Nat × Int32) := []
def lk_X0_init_85 : List (Nat × Nat × Nat) := (85, 8, 90) :: ((85, 7, 89) :: ((85, 6, 88) :: ((85, 5, 87) :: ((85, 0, 86) :: ([])))))
set_option maxHeartbeats 4000000 in
set_option maxRecDepth 100000 in
theorem ct_X0_init_85 {d : Nat} {Q : Qt} {I : Im} {J : Jm} {R : Rm} (hB : BZ I) (hQ : ∀ (I2 : Im) (J2 : Jm) (R2 : Rm), BZ I2 → FR 85 R R2 → RK lk_X0_init_85 R2 → FI 85 I I2 → KI zk_X0_init_85 I2 → Q 0 0 I2 J2 R2) : AM (d + 1) 0 85 [.ref 85] I J R Q := by
  refine amc_of (k := kX0_init) rfl rfl rfl rfl rfl rfl (Nat.le_of_ble_eq_true rfl) (fun P hc => ?_)
  refine cs_X0_init_85_0_85 hc _ _ _ ?_
  refine ⟨rfl, ?_⟩
  have hB1 : BZ (zI I 86) := hB.z
  have hZ2 : KI ([]) (zI I 86) := (KI.nil (I := I)).z rfl
  have hI3 : FI 85 I (zI I 86) := (FI.refl 85 I).z rfl
  have hK4 : RK ([]) (zR R 86) := (RK.nil (R := R)).z rfl
  have hF5 : FR 85 R (zR R 86) := (FR.refl 85 R).z rfl
  have hK6 : RK ((85, 0, 86) :: ([])) (uR (zR R 86) 85 0 86) := hK4.u rfl
  have hF7 : FR 85 R (uR (zR R 86) 85 0 86) := hF5.u rfl
  have hB8 : BZ (uI (zI I 86) 85 1 4) := hB1.kw rfl rfl
  have hZ9 : KI ([]) (uI (zI I 86) 85 1 4) := hZ2.w rfl
  have hI10 : FI 85 I (uI (zI I 86) 85 1 4) := hI3.w rfl
  have hB11 : BZ (uI (uI (zI I 86) 85 1 4) 85 2 1073741823) := hB8.kw rfl rfl
  have hZ12 : KI ([]) (uI (uI (zI I 86) 85 1 4) 85 2 1073741823) := hZ9.w rfl
  have hI13 : FI 85 I (uI (uI (zI I 86) 85 1 4) 85 2 1073741823) := hI10.w rfl
  have hB14 : BZ (uI (uI (uI (zI I 86) 85 1 4) 85 2 1073741823) 85 3 0) := hB11.kw rfl rfl
  have hZ15 : KI ([]) (uI (uI (uI (zI I 86) 85 1 4) 85 2 1073741823) 85 3 0) := hZ12.w rfl
  have hI16 : FI 85 I (uI (uI (uI (zI I 86) 85 1 4) 85 2 1073741823) 85 3 0) := hI13.w rfl
  have hB17 : BZ (uI (uI (uI (uI (zI I 86) 85 1 4) 85 2 1073741823) 85 3 0) 85 4 0) := hB14.kw rfl rfl
  have hZ18 : KI ([]) (uI (uI (uI (uI (zI I 86) 85 1 4) 85 2 1073741823) 85 3 0) 85 4 0) := hZ15.w rfl
  have hI19 : FI 85 I (uI (uI (uI (uI (zI I 86) 85 1 4) 85 2 1073741823) 85 3 0) 85 4 0) := hI16.w rfl
  refine ⟨rfl, ?_⟩
  have hB20 : BZ (zI (uI (uI (uI (uI (zI I 86) 85 1 4) 85 2 1073741823) 85 3 0) 85 4 0) 87) := hB17.z
  have hZ21 : KI ([]) (zI (uI (uI (uI (uI (zI I 86) 85 1 4) 85 2 1073741823) 85 3 0) 85 4 0) 87) := hZ18.z rfl
  have hI22 : FI 85 I (zI (uI (uI (uI (uI (zI I 86) 85 1 4) 85 2 1073741823) 85 3 0) 85 4 0) 87) := hI19.z rfl
  have hK23 : RK ((85, 0, 86) :: ([])) (zR (uR (zR R 86) 85 0 86) 87) := hK6.z rfl
  have hF24 : FR 85 R (zR (uR (zR R 86) 85 0 86) 87) := hF7.z rfl
  have hK25 : RK ((85, 5, 87) :: ((85, 0, 86) :: ([]))) (uR (zR (uR (zR R 86) 85 0 86) 87) 85 5 87) := hK23.u rfl
  have hF26 : FR 85 R (uR (zR (uR (zR R 86) 85 0 86) 87) 85 5 87) := hF24.u rfl
  refine ⟨rfl, ?_⟩
  have hB27 : BZ (zI (zI (uI (uI (uI (uI (zI I 86) 85 1 4) 85 2 1073741823) 85 3 0) 85 4 0) 87) 88) := hB20.z
  have hZ28 : KI ([]) (zI (zI (uI (uI (uI (uI (zI I 86) 85 1 4) 85 2 1073741823) 85 3 0) 85 4 0) 87) 88) := hZ21.z rfl
  have hI29 : FI 85 I (zI (zI (uI (uI (uI (uI (zI I 86) 85 1 4) 85 2 1073741823) 85 3 0) 85 4 0) 87) 88) := hI22.z rfl
  have hK30 : RK ((85, 5, 87) :: ((85, 0, 86) :: ([]))) (zR (uR (zR (uR (zR R 86) 85 0 86) 87) 85 5 87) 88) := hK25.z rfl
  have hF31 : FR 85 R (zR (uR (zR (uR (zR R 86) 85 0 86) 87) 85 5 87) 88) := hF26.z rfl
  have hK32 : RK ((85, 6, 88) :: ((85, 5, 87) :: ((85, 0, 86) :: ([])))) (uR (zR (uR (zR (uR (zR R 86) 85 0 86) 87) 85 5 87) 88) 85 6 88) := hK30.u rfl
  have hF33 : FR 85 R (uR (zR (uR (zR (uR (zR R 86) 85 0 86) 87) 85 5 87) 88) 85 6 88) := hF31.u rfl
  refine ⟨rfl, ?_⟩
  have hB34 : BZ (zI (zI (zI (uI (uI (uI (uI (zI I 86) 85 1 4) 85 2 1073741823) 85 3 0) 85 4 0) 87) 88) 89) := hB27.z
  have hZ35 : KI ([]) (zI (zI (zI (uI (uI (uI (uI (zI I 86) 85 1 4) 85 2 1073741823) 85 3 0) 85 4 0) 87) 88) 89) := hZ28.z rfl
  have hI36 : FI 85 I (zI (zI (zI (uI (uI (uI (uI (zI I 86) 85 1 4) 85 2 1073741823) 85 3 0) 85 4 0) 87) 88) 89) := hI29.z rfl
  have hK37 : RK ((85, 6, 88) :: ((85, 5, 87) :: ((85, 0, 86) :: ([])))) (zR (uR (zR (uR (zR (uR (zR R 86) 85 0 86) 87) 85 5 87) 88) 85 6 88) 89) := hK32.z rfl
  have hF38 : FR 85 R (zR (uR (zR (uR (zR (uR (zR R 86) 85 0 86) 87) 85 5 87) 88) 85 6 88) 89) := hF33.z rfl
  have hK39 : RK ((85, 7, 89) :: ((85, 6, 88) :: ((85, 5, 87) :: ((85, 0, 86) :: ([]))))) (uR (zR (uR (zR (uR (zR (uR (zR R 86) 85 0 86) 87) 85 5 87) 88) 85 6 88) 89) 85 7 89) := hK37.u rfl
  have hF40 : FR 85 R (uR (zR (uR (zR (uR (zR (uR (zR R 86) 85 0 86) 87) 85 5 87) 88) 85 6 88) 89) 85 7 89) := hF38.u rfl
  refine ⟨rfl, ?_⟩
  have hB41 : BZ (zI (zI (zI (zI (uI (uI (uI (uI (zI I 86) 85 1 4) 85 2 1073741823) 85 3 0) 85 4 0) 87) 88) 89) 90) := hB34.z
  have hZ42 : KI ([]) (zI (zI (zI (zI (uI (uI (uI (uI (zI I 86) 85 1 4) 85 2 1073741823) 85 3 0) 85 4 0) 87) 88) 89) 90) := hZ35.z rfl
  have hI43 : FI 85 I (zI (zI (zI (zI (uI (uI (uI (uI (zI I 86) 85 1 4) 85 2 1073741823) 85 3 0) 85 4 0) 87) 88) 89) 90) := hI36.z rfl
  have hK44 : RK ((85, 7, 89) :: ((85, 6, 88) :: ((85, 5, 87) :: ((85, 0, 86) :: ([]))))) (zR (uR (zR (uR (zR (uR (zR (uR (zR R 86) 85 0 86) 87) 85 5 87) 88) 85 6 88) 89) 85 7 89) 90) := hK39.z rfl
  have hF45 : FR 85 R (zR (uR (zR (uR (zR (uR (zR (uR (zR R 86) 85 0 86) 87) 85 5 87) 88) 85 6 88) 89) 85 7 89) 90) := hF40.z rfl
  have hK46 : RK ((85, 8, 90) :: ((85, 7, 89) :: ((85, 6, 88) :: ((85, 5, 87) :: ((85, 0, 86) :: ([])))))) (uR (zR (uR (zR (uR (zR (uR (zR (uR (zR R 86) 85 0 86) 87) 85 5 87) 88) 85 6 88) 89) 85 7 89) 90) 85 8 90) := hK44.u rfl
  have hF47 : FR 85 R (uR (zR (uR (zR (uR (zR (uR (zR (uR (zR R 86) 85 0 86) 87) 85 5 87) 88) 85 6 88) 89) 85 7 89) 90) 85 8 90) := hF45.u rfl
  exact ⟨rfl, fun z => absurd z (by decide), hQ _ _ _ hB41 hF47 hK46 hI43 hZ42⟩
def zk_X2_init_91 : List (Nat × Nat × Int32) := []
def lk_X2_init_91 : List (Nat × Nat × Nat) := (91, 7, 96) :: ((91, 6, 95) :: ((91, 5, 94) :: ((91, 4, 93) :: ((91, 3, 92) :: ([])))))
set_option maxHeartbeats 4000000 in
set_option maxRecDepth 100000 in
theorem ct_X2_init_91 {d : Nat} {Q : Qt} {I : Im} {J : Jm} {R : Rm} (hB : BZ I) (hQ : ∀ (I2 : Im) (J2 : Jm) (R2 : Rm), BZ I2 → FR 91 R R2 → RK lk_X2_init_91 R2 → FI 91 I I2 → KI zk_X2_init_91 I2 → Q 0 0 I2 J2 R2) : AM (d + 1) 27 91 [.ref 91] I J R Q := by
  refine amc_of (k := kX2_init) rfl rfl rfl rfl rfl rfl (Nat.le_of_ble_eq_true rfl) (fun P hc => ?_)
  refine cs_X2_init_91_0_91 hc _ _ _ ?_
  refine ⟨Or.inl rfl, ?_⟩
  have hB1 : BZ (uI I 91 0 0) := hB.kw rfl rfl
  have hZ2 : KI ([]) (uI I 91 0 0) := (KI.nil (I := I)).w rfl
  have hI3 : FI 91 I (uI I 91 0 0) := (FI.refl 91 I).w rfl
  have hB4 : BZ (uI (uI I 91 0 0) 91 1 0) := hB1.kw rfl rfl
  have hZ5 : KI ([]) (uI (uI I 91 0 0) 91 1 0) := hZ2.w rfl
  have hI6 : FI 91 I (uI (uI I 91 0 0) 91 1 0) := hI3.w rfl
  have hB7 : BZ (uI (uI (uI I 91 0 0) 91 1 0) 91 2 0) := hB4.kw rfl rfl
  have hZ8 : KI ([]) (uI (uI (uI I 91 0 0) 91 1 0) 91 2 0) := hZ5.w rfl
  have hI9 : FI 91 I (uI (uI (uI I 91 0 0) 91 1 0) 91 2 0) := hI6.w rfl
  refine ⟨rfl, ?_⟩
  have hB10 : BZ (zI (uI (uI (uI I 91 0 0) 91 1 0) 91 2 0) 92) := hB7.z
  have hZ11 : KI ([]) (zI (uI (uI (uI I 91 0 0) 91 1 0) 91 2 0) 92) := hZ8.z rfl
  have hI12 : FI 91 I (zI (uI (uI (uI I 91 0 0) 91 1 0) 91 2 0) 92) := hI9.z rfl
  have hK13 : RK ([]) (zR R 92) := (RK.nil (R := R)).z rfl
  have hF14 : FR 91 R (zR R 92) := (FR.refl 91 R).z rfl
  have hK15 : RK ((91, 3, 92) :: ([])) (uR (zR R 92) 91 3 92) := hK13.u rfl
  have hF16 : FR 91 R (uR (zR R 92) 91 3 92) := hF14.u rfl
  refine ⟨rfl, ?_⟩
  have hB17 : BZ (zI (zI (uI (uI (uI I 91 0 0) 91 1 0) 91 2 0) 92) 93) := hB10.z
  have hZ18 : KI ([]) (zI (zI (uI (uI (uI I 91 0 0) 91 1 0) 91 2 0) 92) 93) := hZ11.z rfl
  have hI19 : FI 91 I (zI (zI (uI (uI (uI I 91 0 0) 91 1 0) 91 2 0) 92) 93) := hI12.z rfl
  have hK20 : RK ((91, 3, 92) :: ([])) (zR (uR (zR R 92) 91 3 92) 93) := hK15.z rfl
  have hF21 : FR 91 R (zR (uR (zR R 92) 91 3 92) 93) := hF16.z rfl
  have hK22 : RK ((91, 4, 93) :: ((91, 3, 92) :: ([]))) (uR (zR (uR (zR R 92) 91 3 92) 93) 91 4 93) := hK20.u rfl
  have hF23 : FR 91 R (uR (zR (uR (zR R 92) 91 3 92) 93) 91 4 93) := hF21.u rfl
  refine ⟨rfl, ?_⟩
  have hB24 : BZ (zI (zI (zI (uI (uI (uI I 91 0 0) 91 1 0) 91 2 0) 92) 93) 94) := hB17.z
  have hZ25 : KI ([]) (zI (zI (zI (uI (uI (uI I 91 0 0) 91 1 0) 91 2 0) 92) 93) 94) := hZ18.z rfl
  have hI26 : FI 91 I (zI (zI (zI (uI (uI (uI I 91 0 0) 91 1 0) 91 2 0) 92) 93) 94) := hI19.z rfl
  have hK27 : RK ((91, 4, 93) :: ((91, 3, 92) :: ([]))) (zR (uR (zR (uR (zR R 92) 91 3 92) 93) 91 4 93) 94) := hK22.z rfl
  have hF28 : FR 91 R (zR (uR (zR (uR (zR R 92) 91 3 92) 93) 91 4 93) 94) := hF23.z rfl
  have hK29 : RK ((91, 5, 94) :: ((91, 4, 93) :: ((91, 3, 92) :: ([])))) (uR (zR (uR (zR (uR (zR R 92) 91 3 92) 93) 91 4 93) 94) 91 5 94) := hK27.u rfl
  have hF30 : FR 91 R (uR (zR (uR (zR (uR (zR R 92) 91 3 92) 93) 91 4 93) 94) 91 5 94) := hF28.u rfl
  refine ⟨rfl, ?_⟩
  have hB31 : BZ (zI (zI (zI (zI (uI (uI (uI I 91 0 0) 91 1 0) 91 2 0) 92) 93) 94) 95) := hB24.z
  have hZ32 : KI ([]) (zI (zI (zI (zI (uI (uI (uI I 91 0 0) 91 1 0) 91 2 0) 92) 93) 94) 95) := hZ25.z rfl
  have hI33 : FI 91 I (zI (zI (zI (zI (uI (uI (uI I 91 0 0) 91 1 0) 91 2 0) 92) 93) 94) 95) := hI26.z rfl
  have hK34 : RK ((91, 5, 94) :: ((91, 4, 93) :: ((91, 3, 92) :: ([])))) (zR (uR (zR (uR (zR (uR (zR R 92) 91 3 92) 93) 91 4 93) 94) 91 5 94) 95) := hK29.z rfl
  have hF35 : FR 91 R (zR (uR (zR (uR (zR (uR (zR R 92) 91 3 92) 93) 91 4 93) 94) 91 5 94) 95) := hF30.z rfl
  have hK36 : RK ((91, 6, 95) :: ((91, 5, 94) :: ((91, 4, 93) :: ((91, 3, 92) :: ([]))))) (uR (zR (uR (zR (uR (zR (uR (zR R 92) 91 3 92) 93) 91 4 93) 94) 91 5 94) 95) 91 6 95) := hK34.u rfl
  have hF37 : FR 91 R (uR (zR (uR (zR (uR (zR (uR (zR R 92) 91 3 92) 93) 91 4 93) 94) 91 5 94) 95) 91 6 95) := hF35.u rfl
  refine ⟨rfl, ?_⟩
  have hB38 : BZ (zI (zI (zI (zI (zI (uI (uI (uI I 91 0 0) 91 1 0) 91 2 0) 92) 93) 94) 95) 96) := hB31.z
  have hZ39 : KI ([]) (zI (zI (zI (zI (zI (uI (uI (uI I 91 0 0) 91 1 0) 91 2 0) 92) 93) 94) 95) 96) := hZ32.z rfl
  have hI40 : FI 91 I (zI (zI (zI (zI (zI (uI (uI (uI I 91 0 0) 91 1 0) 91 2 0) 92) 93) 94) 95) 96) := hI33.z rfl
  have hK41 : RK ((91, 6, 95) :: ((91, 5, 94) :: ((91, 4, 93) :: ((91, 3, 92) :: ([]))))) (zR (uR (zR (uR (zR (uR (zR (uR (zR R 92) 91 3 92) 93) 91 4 93) 94) 91 5 94) 95) 91 6 95) 96) := hK36.z rfl
  have hF42 : FR 91 R (zR (uR (zR (uR (zR (uR (zR (uR (zR R 92) 91 3 92) 93) 91 4 93) 94) 91 5 94) 95) 91 6 95) 96) := hF37.z rfl
  have hK43 : RK ((91, 7, 96) :: ((91, 6, 95) :: ((91, 5, 94) :: ((91, 4, 93) :: ((91, 3, 92) :: ([])))))) (uR (zR (uR (zR (uR (zR (uR (zR (uR (zR R 92) 91 3 92) 93) 91 4 93) 94) 91 5 94) 95) 91 6 95) 96) 91 7 96) := hK41.u rfl
  have hF44 : FR 91 R (uR (zR (uR (zR (uR (zR (uR (zR (uR (zR R 92) 91 3 92) 93) 91 4 93) 94) 91 5 94) 95) 91 6 95) 96) 91 7 96) := hF42.u rfl
  exact ⟨rfl, fun z => absurd z (by decide), hQ _ _ _ hB38 hF44 hK43 hI40 hZ39⟩
def zk_X11_init_1 : List (Nat × Nat × Int32) := zk_X2_init_91 ++ (zk_X0_init_85 ++ (zk_X2_init_79 ++ (zk_X0_init_73 ++ (zk_X2_init_67 ++ (zk_X0_init_61 ++ (zk_X10_init_59 ++ (zk_X10_init_57 ++ (zk_X10_init_55 ++ (zk_X10_init_53 ++ (zk_X4_init_51 ++ (zk_X4_init_49 ++ (zk_X9_init_45 ++ (zk_X5_init_42 ++ (zk_X8_init_39 ++ (zk_X7_init_35 ++ (zk_X2_init_27 ++ (zk_X2_init_21 ++ (zk_X0_init_15 ++ (zk_X0_init_9 ++ (zk_X3_init_7 ++ (zk_X1_init_6 ++ (zk_X6_init_3 ++ ([])))))))))))))))))))))))
def lk_X11_init_1 : List (Nat × Nat × Nat) := (34, 2, 91) :: (lk_X2_init_91 ++ ((33, 2, 85) :: (lk_X0_init_85 ++ ((34, 1, 79) :: (lk_X2_init_79 ++ ((33, 1, 73) :: (lk_X0_init_73 ++ ((34, 0, 67) :: (lk_X2_init_67 ++ ((33, 0, 61) :: (lk_X0_init_61 ++ ((2, 3, 59) :: (lk_X10_init_59 ++ ((2, 2, 57) :: (lk_X10_init_57 ++ ((2, 1, 55) :: (lk_X10_init_55 ++ ((2, 0, 53) :: (lk_X10_init_53 ++ ((1, 19, 51) :: (lk_X4_init_51 ++ ((1, 18, 49) :: (lk_X4_init_49 ++ ((1, 17, 45) :: (lk_X9_init_45 ++ ((1, 16, 42) :: (lk_X5_init_42 ++ ((1, 15, 39) :: (lk_X8_init_39 ++ ((1, 14, 35) :: (lk_X7_init_35 ++ ((1, 12, 34) :: ((1, 11, 33) :: ((1, 10, 27) :: (lk_X2_init_27 ++ ((1, 9, 21) :: (lk_X2_init_21 ++ ((1, 8, 15) :: (lk_X0_init_15 ++ ((1, 7, 9) :: (lk_X0_init_9 ++ ((1, 6, 7) :: (lk_X3_init_7 ++ ((1, 5, 6) :: ((1, 4, 3) :: (lk_X6_init_3 ++ ((1, 3, 2) :: ([]))))))))))))))))))))))))))))))))))))))))))))))))
set_option maxHeartbeats 4000000 in
set_option maxRecDepth 100000 in
theorem ct_X11_init_1 {d : Nat} {Q : Qt} {I : Im} {J : Jm} {R : Rm} (hB : BZ I) (hQ : ∀ (I2 : Im) (J2 : Jm) (R2 : Rm), BZ I2 → FR 1 R R2 → RK lk_X11_init_1 R2 → FI 1 I I2 → KI zk_X11_init_1 I2 → Q 0 0 I2 J2 R2) : AM (d + 7) 99 1 [.ref 1] I J R Q := by
  refine amc_of (k := kX11_init) rfl rfl rfl rfl rfl rfl (Nat.le_of_ble_eq_true rfl) (fun P hc => ?_)
  refine cs_X11_init_1_0_1 hc _ _ _ ?_
  have hB1 : BZ (uI I 1 0 0) := hB.kw rfl rfl
  have hZ2 : KI ([]) (uI I 1 0 0) := (KI.nil (I := I)).w rfl
  have hI3 : FI 1 I (uI I 1 0 0) := (FI.refl 1 I).w rfl
  refine ⟨rfl, ?_⟩
  have hB4 : BZ (zI (uI I 1 0 0) 2) := hB1.z
  have hZ5 : KI ([]) (zI (uI I 1 0 0) 2) := hZ2.z rfl
  have hI6 : FI 1 I (zI (uI I 1 0 0) 2) := hI3.z rfl
  have hK7 : RK ([]) (zR R 2) := (RK.nil (R := R)).z rfl
  have hF8 : FR 1 R (zR R 2) := (FR.refl 1 R).z rfl
  have hK9 : RK ((1, 3, 2) :: ([])) (uR (zR R 2) 1 3 2) := hK7.u rfl
  have hF10 : FR 1 R (uR (zR R 2) 1 3 2) := hF8.u rfl
  have hB11 : BZ (zI (zI (uI I 1 0 0) 2) 3) := hB4.z
  have hZ12 : KI ([]) (zI (zI (uI I 1 0 0) 2) 3) := hZ5.z rfl
  have hI13 : FI 1 I (zI (zI (uI I 1 0 0) 2) 3) := hI6.z rfl
  have hK14 : RK ((1, 3, 2) :: ([])) (zR (uR (zR R 2) 1 3 2) 3) := hK9.z rfl
  have hF15 : FR 1 R (zR (uR (zR R 2) 1 3 2) 3) := hF10.z rfl
  refine ct_X6_init_3 hB11 (fun I16 J17 R18 hB19 hF20 hK21 hI22 hZ23 => ?_)
  have hZ24 : KI (zk_X6_init_3 ++ ([])) I16 := hZ23.app (hZ12.fr hI22 rfl)
  have hI25 : FI 1 I I16 := fun o ho => (hI22 o (by omega)).trans (hI13 o ho)
  have hK26 : RK (lk_X6_init_3 ++ ((1, 3, 2) :: ([]))) R18 := hK21.app (hK14.fr hF20 rfl)
  have hF27 : FR 1 R R18 := fun o ho => (hF20 o (by omega)).trans (hF15 o ho)
  have hK28 : RK ((1, 4, 3) :: (lk_X6_init_3 ++ ((1, 3, 2) :: ([])))) (uR R18 1 4 3) := hK26.u rfl
  have hF29 : FR 1 R (uR R18 1 4 3) := hF27.u rfl
  have hB30 : BZ (zI I16 6) := hB19.z
  have hZ31 : KI (zk_X6_init_3 ++ ([])) (zI I16 6) := hZ24.z rfl
  have hI32 : FI 1 I (zI I16 6) := hI25.z rfl
  have hK33 : RK ((1, 4, 3) :: (lk_X6_init_3 ++ ((1, 3, 2) :: ([])))) (zR (uR R18 1 4 3) 6) := hK28.z rfl
  have hF34 : FR 1 R (zR (uR R18 1 4 3) 6) := hF29.z rfl
  refine ct_X1_init_6 hB30 (fun I35 J36 R37 hB38 hF39 hK40 hI41 hZ42 => ?_)
  have hZ43 : KI (zk_X1_init_6 ++ (zk_X6_init_3 ++ ([]))) I35 := hZ42.app (hZ31.fr hI41 rfl)
  have hI44 : FI 1 I I35 := fun o ho => (hI41 o (by omega)).trans (hI32 o ho)
  subst hF39
  have hK45 : RK ((1, 5, 6) :: ((1, 4, 3) :: (lk_X6_init_3 ++ ((1, 3, 2) :: ([]))))) (uR (zR (uR R18 1 4 3) 6) 1 5 6) := hK33.u rfl
  have hF46 : FR 1 R (uR (zR (uR R18 1 4 3) 6) 1 5 6) := hF34.u rfl
  have hB47 : BZ (zI I35 7) := hB38.z
  have hZ48 : KI (zk_X1_init_6 ++ (zk_X6_init_3 ++ ([]))) (zI I35 7) := hZ43.z rfl
  have hI49 : FI 1 I (zI I35 7) := hI44.z rfl
  have hK50 : RK ((1, 5, 6) :: ((1, 4, 3) :: (lk_X6_init_3 ++ ((1, 3, 2) :: ([]))))) (zR (uR (zR (uR R18 1 4 3) 6) 1 5 6) 7) := hK45.z rfl
  have hF51 : FR 1 R (zR (uR (zR (uR R18 1 4 3) 6) 1 5 6) 7) := hF46.z rfl
  refine ct_X3_init_7 hB47 (fun I52 J53 R54 hB55 hF56 hK57 hI58 hZ59 => ?_)
  have hZ60 : KI (zk_X3_init_7 ++ (zk_X1_init_6 ++ (zk_X6_init_3 ++ ([])))) I52 := hZ59.app (hZ48.fr hI58 rfl)
  have hI61 : FI 1 I I52 := fun o ho => (hI58 o (by omega)).trans (hI49 o ho)
  have hK62 : RK (lk_X3_init_7 ++ ((1, 5, 6) :: ((1, 4, 3) :: (lk_X6_init_3 ++ ((1, 3, 2) :: ([])))))) R54 := hK57.app (hK50.fr hF56 rfl)
  have hF63 : FR 1 R R54 := fun o ho => (hF56 o (by omega)).trans (hF51 o ho)
  have hK64 : RK ((1, 6, 7) :: (lk_X3_init_7 ++ ((1, 5, 6) :: ((1, 4, 3) :: (lk_X6_init_3 ++ ((1, 3, 2) :: ([]))))))) (uR R54 1 6 7) := hK62.u rfl
  have hF65 : FR 1 R (uR R54 1 6 7) := hF63.u rfl
  have hB66 : BZ (zI I52 9) := hB55.z
  have hZ67 : KI (zk_X3_init_7 ++ (zk_X1_init_6 ++ (zk_X6_init_3 ++ ([])))) (zI I52 9) := hZ60.z rfl
  have hI68 : FI 1 I (zI I52 9) := hI61.z rfl
  have hK69 : RK ((1, 6, 7) :: (lk_X3_init_7 ++ ((1, 5, 6) :: ((1, 4, 3) :: (lk_X6_init_3 ++ ((1, 3, 2) :: ([]))))))) (zR (uR R54 1 6 7) 9) := hK64.z rfl
  have hF70 : FR 1 R (zR (uR R54 1 6 7) 9) := hF65.z rfl
  refine ct_X0_init_9 hB66 (fun I71 J72 R73 hB74 hF75 hK76 hI77 hZ78 => ?_)
  have hZ79 : KI (zk_X0_init_9 ++ (zk_X3_init_7 ++ (zk_X1_init_6 ++ (zk_X6_init_3 ++ ([]))))) I71 := hZ78.app (hZ67.fr hI77 rfl)
  have hI80 : FI 1 I I71 := fun o ho => (hI77 o (by omega)).trans (hI68 o ho)
  have hK81 : RK (lk_X0_init_9 ++ ((1, 6, 7) :: (lk_X3_init_7 ++ ((1, 5, 6) :: ((1, 4, 3) :: (lk_X6_init_3 ++ ((1, 3, 2) :: ([])))))))) R73 := hK76.app (hK69.fr hF75 rfl)
  have hF82 : FR 1 R R73 := fun o ho => (hF75 o (by omega)).trans (hF70 o ho)
  refine ⟨by decide, ?_⟩
  have hK83 : RK ((1, 7, 9) :: (lk_X0_init_9 ++ ((1, 6, 7) :: (lk_X3_init_7 ++ ((1, 5, 6) :: ((1, 4, 3) :: (lk_X6_init_3 ++ ((1, 3, 2) :: ([]))))))))) (uR R73 1 7 9) := hK81.u rfl
  have hF84 : FR 1 R (uR R73 1 7 9) := hF82.u rfl
  have hB85 : BZ (zI I71 15) := hB74.z
  have hZ86 : KI (zk_X0_init_9 ++ (zk_X3_init_7 ++ (zk_X1_init_6 ++ (zk_X6_init_3 ++ ([]))))) (zI I71 15) := hZ79.z rfl
  have hI87 : FI 1 I (zI I71 15) := hI80.z rfl
  have hK88 : RK ((1, 7, 9) :: (lk_X0_init_9 ++ ((1, 6, 7) :: (lk_X3_init_7 ++ ((1, 5, 6) :: ((1, 4, 3) :: (lk_X6_init_3 ++ ((1, 3, 2) :: ([]))))))))) (zR (uR R73 1 7 9) 15) := hK83.z rfl
  have hF89 : FR 1 R (zR (uR R73 1 7 9) 15) := hF84.z rfl
  refine ct_X0_init_15 hB85 (fun I90 J91 R92 hB93 hF94 hK95 hI96 hZ97 => ?_)
  have hZ98 : KI (zk_X0_init_15 ++ (zk_X0_init_9 ++ (zk_X3_init_7 ++ (zk_X1_init_6 ++ (zk_X6_init_3 ++ ([])))))) I90 := hZ97.app (hZ86.fr hI96 rfl)
  have hI99 : FI 1 I I90 := fun o ho => (hI96 o (by omega)).trans (hI87 o ho)
  have hK100 : RK (lk_X0_init_15 ++ ((1, 7, 9) :: (lk_X0_init_9 ++ ((1, 6, 7) :: (lk_X3_init_7 ++ ((1, 5, 6) :: ((1, 4, 3) :: (lk_X6_init_3 ++ ((1, 3, 2) :: ([])))))))))) R92 := hK95.app (hK88.fr hF94 rfl)
  have hF101 : FR 1 R R92 := fun o ho => (hF94 o (by omega)).trans (hF89 o ho)
  refine ⟨by decide, ?_⟩
  have hK102 : RK ((1, 8, 15) :: (lk_X0_init_15 ++ ((1, 7, 9) :: (lk_X0_init_9 ++ ((1, 6, 7) :: (lk_X3_init_7 ++ ((1, 5, 6) :: ((1, 4, 3) :: (lk_X6_init_3 ++ ((1, 3, 2) :: ([]))))))))))) (uR R92 1 8 15) := hK100.u rfl
  have hF103 : FR 1 R (uR R92 1 8 15) := hF101.u rfl
  have hB104 : BZ (zI I90 21) := hB93.z
  have hZ105 : KI (zk_X0_init_15 ++ (zk_X0_init_9 ++ (zk_X3_init_7 ++ (zk_X1_init_6 ++ (zk_X6_init_3 ++ ([])))))) (zI I90 21) := hZ98.z rfl
  have hI106 : FI 1 I (zI I90 21) := hI99.z rfl
  have hK107 : RK ((1, 8, 15) :: (lk_X0_init_15 ++ ((1, 7, 9) :: (lk_X0_init_9 ++ ((1, 6, 7) :: (lk_X3_init_7 ++ ((1, 5, 6) :: ((1, 4, 3) :: (lk_X6_init_3 ++ ((1, 3, 2) :: ([]))))))))))) (zR (uR R92 1 8 15) 21) := hK102.z rfl
  have hF108 : FR 1 R (zR (uR R92 1 8 15) 21) := hF103.z rfl
  refine ct_X2_init_21 hB104 (fun I109 J110 R111 hB112 hF113 hK114 hI115 hZ116 => ?_)
  have hZ117 : KI (zk_X2_init_21 ++ (zk_X0_init_15 ++ (zk_X0_init_9 ++ (zk_X3_init_7 ++ (zk_X1_init_6 ++ (zk_X6_init_3 ++ ([]))))))) I109 := hZ116.app (hZ105.fr hI115 rfl)
  have hI118 : FI 1 I I109 := fun o ho => (hI115 o (by omega)).trans (hI106 o ho)
  have hK119 : RK (lk_X2_init_21 ++ ((1, 8, 15) :: (lk_X0_init_15 ++ ((1, 7, 9) :: (lk_X0_init_9 ++ ((1, 6, 7) :: (lk_X3_init_7 ++ ((1, 5, 6) :: ((1, 4, 3) :: (lk_X6_init_3 ++ ((1, 3, 2) :: ([])))))))))))) R111 := hK114.app (hK107.fr hF113 rfl)
  have hF120 : FR 1 R R111 := fun o ho => (hF113 o (by omega)).trans (hF108 o ho)
  refine ⟨by decide, ?_⟩
  have hK121 : RK ((1, 9, 21) :: (lk_X2_init_21 ++ ((1, 8, 15) :: (lk_X0_init_15 ++ ((1, 7, 9) :: (lk_X0_init_9 ++ ((1, 6, 7) :: (lk_X3_init_7 ++ ((1, 5, 6) :: ((1, 4, 3) :: (lk_X6_init_3 ++ ((1, 3, 2) :: ([]))))))))))))) (uR R111 1 9 21) := hK119.u rfl
  have hF122 : FR 1 R (uR R111 1 9 21) := hF120.u rfl
  have hB123 : BZ (zI I109 27) := hB112.z
  have hZ124 : KI (zk_X2_init_21 ++ (zk_X0_init_15 ++ (zk_X0_init_9 ++ (zk_X3_init_7 ++ (zk_X1_init_6 ++ (zk_X6_init_3 ++ ([]))))))) (zI I109 27) := hZ117.z rfl
  have hI125 : FI 1 I (zI I109 27) := hI118.z rfl
  have hK126 : RK ((1, 9, 21) :: (lk_X2_init_21 ++ ((1, 8, 15) :: (lk_X0_init_15 ++ ((1, 7, 9) :: (lk_X0_init_9 ++ ((1, 6, 7) :: (lk_X3_init_7 ++ ((1, 5, 6) :: ((1, 4, 3) :: (lk_X6_init_3 ++ ((1, 3, 2) :: ([]))))))))))))) (zR (uR R111 1 9 21) 27) := hK121.z rfl
  have hF127 : FR 1 R (zR (uR R111 1 9 21) 27) := hF122.z rfl
  refine ct_X2_init_27 hB123 (fun I128 J129 R130 hB131 hF132 hK133 hI134 hZ135 => ?_)
  have hZ136 : KI (zk_X2_init_27 ++ (zk_X2_init_21 ++ (zk_X0_init_15 ++ (zk_X0_init_9 ++ (zk_X3_init_7 ++ (zk_X1_init_6 ++ (zk_X6_init_3 ++ ([])))))))) I128 := hZ135.app (hZ124.fr hI134 rfl)
  have hI137 : FI 1 I I128 := fun o ho => (hI134 o (by omega)).trans (hI125 o ho)
  have hK138 : RK (lk_X2_init_27 ++ ((1, 9, 21) :: (lk_X2_init_21 ++ ((1, 8, 15) :: (lk_X0_init_15 ++ ((1, 7, 9) :: (lk_X0_init_9 ++ ((1, 6, 7) :: (lk_X3_init_7 ++ ((1, 5, 6) :: ((1, 4, 3) :: (lk_X6_init_3 ++ ((1, 3, 2) :: ([])))))))))))))) R130 := hK133.app (hK126.fr hF132 rfl)
  have hF139 : FR 1 R R130 := fun o ho => (hF132 o (by omega)).trans (hF127 o ho)
  refine ⟨by decide, ?_⟩
  have hK140 : RK ((1, 10, 27) :: (lk_X2_init_27 ++ ((1, 9, 21) :: (lk_X2_init_21 ++ ((1, 8, 15) :: (lk_X0_init_15 ++ ((1, 7, 9) :: (lk_X0_init_9 ++ ((1, 6, 7) :: (lk_X3_init_7 ++ ((1, 5, 6) :: ((1, 4, 3) :: (lk_X6_init_3 ++ ((1, 3, 2) :: ([]))))))))))))))) (uR R130 1 10 27) := hK138.u rfl
  have hF141 : FR 1 R (uR R130 1 10 27) := hF139.u rfl
  refine ⟨rfl, ?_⟩
  have hB142 : BZ (zI I128 33) := hB131.z
  have hZ143 : KI (zk_X2_init_27 ++ (zk_X2_init_21 ++ (zk_X0_init_15 ++ (zk_X0_init_9 ++ (zk_X3_init_7 ++ (zk_X1_init_6 ++ (zk_X6_init_3 ++ ([])))))))) (zI I128 33) := hZ136.z rfl
  have hI144 : FI 1 I (zI I128 33) := hI137.z rfl
  have hK145 : RK ((1, 10, 27) :: (lk_X2_init_27 ++ ((1, 9, 21) :: (lk_X2_init_21 ++ ((1, 8, 15) :: (lk_X0_init_15 ++ ((1, 7, 9) :: (lk_X0_init_9 ++ ((1, 6, 7) :: (lk_X3_init_7 ++ ((1, 5, 6) :: ((1, 4, 3) :: (lk_X6_init_3 ++ ((1, 3, 2) :: ([]))))))))))))))) (zR (uR R130 1 10 27) 33) := hK140.z rfl
  have hF146 : FR 1 R (zR (uR R130 1 10 27) 33) := hF141.z rfl
  have hK147 : RK ((1, 11, 33) :: ((1, 10, 27) :: (lk_X2_init_27 ++ ((1, 9, 21) :: (lk_X2_init_21 ++ ((1, 8, 15) :: (lk_X0_init_15 ++ ((1, 7, 9) :: (lk_X0_init_9 ++ ((1, 6, 7) :: (lk_X3_init_7 ++ ((1, 5, 6) :: ((1, 4, 3) :: (lk_X6_init_3 ++ ((1, 3, 2) :: ([])))))))))))))))) (uR (zR (uR R130 1 10 27) 33) 1 11 33) := hK145.u rfl
  have hF148 : FR 1 R (uR (zR (uR R130 1 10 27) 33) 1 11 33) := hF146.u rfl
  refine ⟨rfl, ?_⟩
  have hB149 : BZ (zI (zI I128 33) 34) := hB142.z
  have hZ150 : KI (zk_X2_init_27 ++ (zk_X2_init_21 ++ (zk_X0_init_15 ++ (zk_X0_init_9 ++ (zk_X3_init_7 ++ (zk_X1_init_6 ++ (zk_X6_init_3 ++ ([])))))))) (zI (zI I128 33) 34) := hZ143.z rfl
  have hI151 : FI 1 I (zI (zI I128 33) 34) := hI144.z rfl
  have hK152 : RK ((1, 11, 33) :: ((1, 10, 27) :: (lk_X2_init_27 ++ ((1, 9, 21) :: (lk_X2_init_21 ++ ((1, 8, 15) :: (lk_X0_init_15 ++ ((1, 7, 9) :: (lk_X0_init_9 ++ ((1, 6, 7) :: (lk_X3_init_7 ++ ((1, 5, 6) :: ((1, 4, 3) :: (lk_X6_init_3 ++ ((1, 3, 2) :: ([])))))))))))))))) (zR (uR (zR (uR R130 1 10 27) 33) 1 11 33) 34) := hK147.z rfl
  have hF153 : FR 1 R (zR (uR (zR (uR R130 1 10 27) 33) 1 11 33) 34) := hF148.z rfl
  have hK154 : RK ((1, 12, 34) :: ((1, 11, 33) :: ((1, 10, 27) :: (lk_X2_init_27 ++ ((1, 9, 21) :: (lk_X2_init_21 ++ ((1, 8, 15) :: (lk_X0_init_15 ++ ((1, 7, 9) :: (lk_X0_init_9 ++ ((1, 6, 7) :: (lk_X3_init_7 ++ ((1, 5, 6) :: ((1, 4, 3) :: (lk_X6_init_3 ++ ((1, 3, 2) :: ([]))))))))))))))))) (uR (zR (uR (zR (uR R130 1 10 27) 33) 1 11 33) 34) 1 12 34) := hK152.u rfl
  have hF155 : FR 1 R (uR (zR (uR (zR (uR R130 1 10 27) 33) 1 11 33) 34) 1 12 34) := hF153.u rfl
  have hB156 : BZ (uI (zI (zI I128 33) 34) 1 13 0) := hB149.kw rfl rfl
  have hZ157 : KI (zk_X2_init_27 ++ (zk_X2_init_21 ++ (zk_X0_init_15 ++ (zk_X0_init_9 ++ (zk_X3_init_7 ++ (zk_X1_init_6 ++ (zk_X6_init_3 ++ ([])))))))) (uI (zI (zI I128 33) 34) 1 13 0) := hZ150.w rfl
  have hI158 : FI 1 I (uI (zI (zI I128 33) 34) 1 13 0) := hI151.w rfl
  have hB159 : BZ (zI (uI (zI (zI I128 33) 34) 1 13 0) 35) := hB156.z
  have hZ160 : KI (zk_X2_init_27 ++ (zk_X2_init_21 ++ (zk_X0_init_15 ++ (zk_X0_init_9 ++ (zk_X3_init_7 ++ (zk_X1_init_6 ++ (zk_X6_init_3 ++ ([])))))))) (zI (uI (zI (zI I128 33) 34) 1 13 0) 35) := hZ157.z rfl
  have hI161 : FI 1 I (zI (uI (zI (zI I128 33) 34) 1 13 0) 35) := hI158.z rfl
  have hK162 : RK ((1, 12, 34) :: ((1, 11, 33) :: ((1, 10, 27) :: (lk_X2_init_27 ++ ((1, 9, 21) :: (lk_X2_init_21 ++ ((1, 8, 15) :: (lk_X0_init_15 ++ ((1, 7, 9) :: (lk_X0_init_9 ++ ((1, 6, 7) :: (lk_X3_init_7 ++ ((1, 5, 6) :: ((1, 4, 3) :: (lk_X6_init_3 ++ ((1, 3, 2) :: ([]))))))))))))))))) (zR (uR (zR (uR (zR (uR R130 1 10 27) 33) 1 11 33) 34) 1 12 34) 35) := hK154.z rfl
  have hF163 : FR 1 R (zR (uR (zR (uR (zR (uR R130 1 10 27) 33) 1 11 33) 34) 1 12 34) 35) := hF155.z rfl
  refine ct_X7_init_35 hB159 (fun I164 J165 R166 hB167 hF168 hK169 hI170 hZ171 => ?_)
  have hZ172 : KI (zk_X7_init_35 ++ (zk_X2_init_27 ++ (zk_X2_init_21 ++ (zk_X0_init_15 ++ (zk_X0_init_9 ++ (zk_X3_init_7 ++ (zk_X1_init_6 ++ (zk_X6_init_3 ++ ([]))))))))) I164 := hZ171.app (hZ160.fr hI170 rfl)
  have hI173 : FI 1 I I164 := fun o ho => (hI170 o (by omega)).trans (hI161 o ho)
  have hK174 : RK (lk_X7_init_35 ++ ((1, 12, 34) :: ((1, 11, 33) :: ((1, 10, 27) :: (lk_X2_init_27 ++ ((1, 9, 21) :: (lk_X2_init_21 ++ ((1, 8, 15) :: (lk_X0_init_15 ++ ((1, 7, 9) :: (lk_X0_init_9 ++ ((1, 6, 7) :: (lk_X3_init_7 ++ ((1, 5, 6) :: ((1, 4, 3) :: (lk_X6_init_3 ++ ((1, 3, 2) :: ([])))))))))))))))))) R166 := hK169.app (hK162.fr hF168 rfl)
  have hF175 : FR 1 R R166 := fun o ho => (hF168 o (by omega)).trans (hF163 o ho)
  have hK176 : RK ((1, 14, 35) :: (lk_X7_init_35 ++ ((1, 12, 34) :: ((1, 11, 33) :: ((1, 10, 27) :: (lk_X2_init_27 ++ ((1, 9, 21) :: (lk_X2_init_21 ++ ((1, 8, 15) :: (lk_X0_init_15 ++ ((1, 7, 9) :: (lk_X0_init_9 ++ ((1, 6, 7) :: (lk_X3_init_7 ++ ((1, 5, 6) :: ((1, 4, 3) :: (lk_X6_init_3 ++ ((1, 3, 2) :: ([]))))))))))))))))))) (uR R166 1 14 35) := hK174.u rfl
  have hF177 : FR 1 R (uR R166 1 14 35) := hF175.u rfl
  have hB178 : BZ (zI I164 39) := hB167.z
  have hZ179 : KI (zk_X7_init_35 ++ (zk_X2_init_27 ++ (zk_X2_init_21 ++ (zk_X0_init_15 ++ (zk_X0_init_9 ++ (zk_X3_init_7 ++ (zk_X1_init_6 ++ (zk_X6_init_3 ++ ([]))))))))) (zI I164 39) := hZ172.z rfl
  have hI180 : FI 1 I (zI I164 39) := hI173.z rfl
  have hK181 : RK ((1, 14, 35) :: (lk_X7_init_35 ++ ((1, 12, 34) :: ((1, 11, 33) :: ((1, 10, 27) :: (lk_X2_init_27 ++ ((1, 9, 21) :: (lk_X2_init_21 ++ ((1, 8, 15) :: (lk_X0_init_15 ++ ((1, 7, 9) :: (lk_X0_init_9 ++ ((1, 6, 7) :: (lk_X3_init_7 ++ ((1, 5, 6) :: ((1, 4, 3) :: (lk_X6_init_3 ++ ((1, 3, 2) :: ([]))))))))))))))))))) (zR (uR R166 1 14 35) 39) := hK176.z rfl
  have hF182 : FR 1 R (zR (uR R166 1 14 35) 39) := hF177.z rfl
  refine ct_X8_init_39 hB178 (fun I183 J184 R185 hB186 hF187 hK188 hI189 hZ190 => ?_)
  have hZ191 : KI (zk_X8_init_39 ++ (zk_X7_init_35 ++ (zk_X2_init_27 ++ (zk_X2_init_21 ++ (zk_X0_init_15 ++ (zk_X0_init_9 ++ (zk_X3_init_7 ++ (zk_X1_init_6 ++ (zk_X6_init_3 ++ ([])))))))))) I183 := hZ190.app (hZ179.fr hI189 rfl)
  have hI192 : FI 1 I I183 := fun o ho => (hI189 o (by omega)).trans (hI180 o ho)
  have hK193 : RK (lk_X8_init_39 ++ ((1, 14, 35) :: (lk_X7_init_35 ++ ((1, 12, 34) :: ((1, 11, 33) :: ((1, 10, 27) :: (lk_X2_init_27 ++ ((1, 9, 21) :: (lk_X2_init_21 ++ ((1, 8, 15) :: (lk_X0_init_15 ++ ((1, 7, 9) :: (lk_X0_init_9 ++ ((1, 6, 7) :: (lk_X3_init_7 ++ ((1, 5, 6) :: ((1, 4, 3) :: (lk_X6_init_3 ++ ((1, 3, 2) :: ([])))))))))))))))))))) R185 := hK188.app (hK181.fr hF187 rfl)
  have hF194 : FR 1 R R185 := fun o ho => (hF187 o (by omega)).trans (hF182 o ho)
  have hK195 : RK ((1, 15, 39) :: (lk_X8_init_39 ++ ((1, 14, 35) :: (lk_X7_init_35 ++ ((1, 12, 34) :: ((1, 11, 33) :: ((1, 10, 27) :: (lk_X2_init_27 ++ ((1, 9, 21) :: (lk_X2_init_21 ++ ((1, 8, 15) :: (lk_X0_init_15 ++ ((1, 7, 9) :: (lk_X0_init_9 ++ ((1, 6, 7) :: (lk_X3_init_7 ++ ((1, 5, 6) :: ((1, 4, 3) :: (lk_X6_init_3 ++ ((1, 3, 2) :: ([]))))))))))))))))))))) (uR R185 1 15 39) := hK193.u rfl
  have hF196 : FR 1 R (uR R185 1 15 39) := hF194.u rfl
  have hB197 : BZ (zI I183 42) := hB186.z
  have hZ198 : KI (zk_X8_init_39 ++ (zk_X7_init_35 ++ (zk_X2_init_27 ++ (zk_X2_init_21 ++ (zk_X0_init_15 ++ (zk_X0_init_9 ++ (zk_X3_init_7 ++ (zk_X1_init_6 ++ (zk_X6_init_3 ++ ([])))))))))) (zI I183 42) := hZ191.z rfl
  have hI199 : FI 1 I (zI I183 42) := hI192.z rfl
  have hK200 : RK ((1, 15, 39) :: (lk_X8_init_39 ++ ((1, 14, 35) :: (lk_X7_init_35 ++ ((1, 12, 34) :: ((1, 11, 33) :: ((1, 10, 27) :: (lk_X2_init_27 ++ ((1, 9, 21) :: (lk_X2_init_21 ++ ((1, 8, 15) :: (lk_X0_init_15 ++ ((1, 7, 9) :: (lk_X0_init_9 ++ ((1, 6, 7) :: (lk_X3_init_7 ++ ((1, 5, 6) :: ((1, 4, 3) :: (lk_X6_init_3 ++ ((1, 3, 2) :: ([]))))))))))))))))))))) (zR (uR R185 1 15 39) 42) := hK195.z rfl
  have hF201 : FR 1 R (zR (uR R185 1 15 39) 42) := hF196.z rfl
  refine ct_X5_init_42 hB197 (fun I202 J203 R204 hB205 hF206 hK207 hI208 hZ209 => ?_)
  have hZ210 : KI (zk_X5_init_42 ++ (zk_X8_init_39 ++ (zk_X7_init_35 ++ (zk_X2_init_27 ++ (zk_X2_init_21 ++ (zk_X0_init_15 ++ (zk_X0_init_9 ++ (zk_X3_init_7 ++ (zk_X1_init_6 ++ (zk_X6_init_3 ++ ([]))))))))))) I202 := hZ209.app (hZ198.fr hI208 rfl)
  have hI211 : FI 1 I I202 := fun o ho => (hI208 o (by omega)).trans (hI199 o ho)
  have hK212 : RK (lk_X5_init_42 ++ ((1, 15, 39) :: (lk_X8_init_39 ++ ((1, 14, 35) :: (lk_X7_init_35 ++ ((1, 12, 34) :: ((1, 11, 33) :: ((1, 10, 27) :: (lk_X2_init_27 ++ ((1, 9, 21) :: (lk_X2_init_21 ++ ((1, 8, 15) :: (lk_X0_init_15 ++ ((1, 7, 9) :: (lk_X0_init_9 ++ ((1, 6, 7) :: (lk_X3_init_7 ++ ((1, 5, 6) :: ((1, 4, 3) :: (lk_X6_init_3 ++ ((1, 3, 2) :: ([])))))))))))))))))))))) R204 := hK207.app (hK200.fr hF206 rfl)
  have hF213 : FR 1 R R204 := fun o ho => (hF206 o (by omega)).trans (hF201 o ho)
  have hK214 : RK ((1, 16, 42) :: (lk_X5_init_42 ++ ((1, 15, 39) :: (lk_X8_init_39 ++ ((1, 14, 35) :: (lk_X7_init_35 ++ ((1, 12, 34) :: ((1, 11, 33) :: ((1, 10, 27) :: (lk_X2_init_27 ++ ((1, 9, 21) :: (lk_X2_init_21 ++ ((1, 8, 15) :: (lk_X0_init_15 ++ ((1, 7, 9) :: (lk_X0_init_9 ++ ((1, 6, 7) :: (lk_X3_init_7 ++ ((1, 5, 6) :: ((1, 4, 3) :: (lk_X6_init_3 ++ ((1, 3, 2) :: ([]))))))))))))))))))))))) (uR R204 1 16 42) := hK212.u rfl
  have hF215 : FR 1 R (uR R204 1 16 42) := hF213.u rfl
  have hB216 : BZ (zI I202 45) := hB205.z
  have hZ217 : KI (zk_X5_init_42 ++ (zk_X8_init_39 ++ (zk_X7_init_35 ++ (zk_X2_init_27 ++ (zk_X2_init_21 ++ (zk_X0_init_15 ++ (zk_X0_init_9 ++ (zk_X3_init_7 ++ (zk_X1_init_6 ++ (zk_X6_init_3 ++ ([]))))))))))) (zI I202 45) := hZ210.z rfl
  have hI218 : FI 1 I (zI I202 45) := hI211.z rfl
  have hK219 : RK ((1, 16, 42) :: (lk_X5_init_42 ++ ((1, 15, 39) :: (lk_X8_init_39 ++ ((1, 14, 35) :: (lk_X7_init_35 ++ ((1, 12, 34) :: ((1, 11, 33) :: ((1, 10, 27) :: (lk_X2_init_27 ++ ((1, 9, 21) :: (lk_X2_init_21 ++ ((1, 8, 15) :: (lk_X0_init_15 ++ ((1, 7, 9) :: (lk_X0_init_9 ++ ((1, 6, 7) :: (lk_X3_init_7 ++ ((1, 5, 6) :: ((1, 4, 3) :: (lk_X6_init_3 ++ ((1, 3, 2) :: ([]))))))))))))))))))))))) (zR (uR R204 1 16 42) 45) := hK214.z rfl
  have hF220 : FR 1 R (zR (uR R204 1 16 42) 45) := hF215.z rfl
  refine ct_X9_init_45 hB216 (fun I221 J222 R223 hB224 hF225 hK226 hI227 hZ228 => ?_)
  have hZ229 : KI (zk_X9_init_45 ++ (zk_X5_init_42 ++ (zk_X8_init_39 ++ (zk_X7_init_35 ++ (zk_X2_init_27 ++ (zk_X2_init_21 ++ (zk_X0_init_15 ++ (zk_X0_init_9 ++ (zk_X3_init_7 ++ (zk_X1_init_6 ++ (zk_X6_init_3 ++ ([])))))))))))) I221 := hZ228.app (hZ217.fr hI227 rfl)
  have hI230 : FI 1 I I221 := fun o ho => (hI227 o (by omega)).trans (hI218 o ho)
  have hK231 : RK (lk_X9_init_45 ++ ((1, 16, 42) :: (lk_X5_init_42 ++ ((1, 15, 39) :: (lk_X8_init_39 ++ ((1, 14, 35) :: (lk_X7_init_35 ++ ((1, 12, 34) :: ((1, 11, 33) :: ((1, 10, 27) :: (lk_X2_init_27 ++ ((1, 9, 21) :: (lk_X2_init_21 ++ ((1, 8, 15) :: (lk_X0_init_15 ++ ((1, 7, 9) :: (lk_X0_init_9 ++ ((1, 6, 7) :: (lk_X3_init_7 ++ ((1, 5, 6) :: ((1, 4, 3) :: (lk_X6_init_3 ++ ((1, 3, 2) :: ([])))))))))))))))))))))))) R223 := hK226.app (hK219.fr hF225 rfl)
  have hF232 : FR 1 R R223 := fun o ho => (hF225 o (by omega)).trans (hF220 o ho)
  have hK233 : RK ((1, 17, 45) :: (lk_X9_init_45 ++ ((1, 16, 42) :: (lk_X5_init_42 ++ ((1, 15, 39) :: (lk_X8_init_39 ++ ((1, 14, 35) :: (lk_X7_init_35 ++ ((1, 12, 34) :: ((1, 11, 33) :: ((1, 10, 27) :: (lk_X2_init_27 ++ ((1, 9, 21) :: (lk_X2_init_21 ++ ((1, 8, 15) :: (lk_X0_init_15 ++ ((1, 7, 9) :: (lk_X0_init_9 ++ ((1, 6, 7) :: (lk_X3_init_7 ++ ((1, 5, 6) :: ((1, 4, 3) :: (lk_X6_init_3 ++ ((1, 3, 2) :: ([]))))))))))))))))))))))))) (uR R223 1 17 45) := hK231.u rfl
  have hF234 : FR 1 R (uR R223 1 17 45) := hF232.u rfl
  have hB235 : BZ (zI I221 49) := hB224.z
  have hZ236 : KI (zk_X9_init_45 ++ (zk_X5_init_42 ++ (zk_X8_init_39 ++ (zk_X7_init_35 ++ (zk_X2_init_27 ++ (zk_X2_init_21 ++ (zk_X0_init_15 ++ (zk_X0_init_9 ++ (zk_X3_init_7 ++ (zk_X1_init_6 ++ (zk_X6_init_3 ++ ([])))))))))))) (zI I221 49) := hZ229.z rfl
  have hI237 : FI 1 I (zI I221 49) := hI230.z rfl
  have hK238 : RK ((1, 17, 45) :: (lk_X9_init_45 ++ ((1, 16, 42) :: (lk_X5_init_42 ++ ((1, 15, 39) :: (lk_X8_init_39 ++ ((1, 14, 35) :: (lk_X7_init_35 ++ ((1, 12, 34) :: ((1, 11, 33) :: ((1, 10, 27) :: (lk_X2_init_27 ++ ((1, 9, 21) :: (lk_X2_init_21 ++ ((1, 8, 15) :: (lk_X0_init_15 ++ ((1, 7, 9) :: (lk_X0_init_9 ++ ((1, 6, 7) :: (lk_X3_init_7 ++ ((1, 5, 6) :: ((1, 4, 3) :: (lk_X6_init_3 ++ ((1, 3, 2) :: ([]))))))))))))))))))))))))) (zR (uR R223 1 17 45) 49) := hK233.z rfl
  have hF239 : FR 1 R (zR (uR R223 1 17 45) 49) := hF234.z rfl
  refine ct_X4_init_49 hB235 (fun I240 J241 R242 hB243 hF244 hK245 hI246 hZ247 => ?_)
  have hZ248 : KI (zk_X4_init_49 ++ (zk_X9_init_45 ++ (zk_X5_init_42 ++ (zk_X8_init_39 ++ (zk_X7_init_35 ++ (zk_X2_init_27 ++ (zk_X2_init_21 ++ (zk_X0_init_15 ++ (zk_X0_init_9 ++ (zk_X3_init_7 ++ (zk_X1_init_6 ++ (zk_X6_init_3 ++ ([]))))))))))))) I240 := hZ247.app (hZ236.fr hI246 rfl)
  have hI249 : FI 1 I I240 := fun o ho => (hI246 o (by omega)).trans (hI237 o ho)
  have hK250 : RK (lk_X4_init_49 ++ ((1, 17, 45) :: (lk_X9_init_45 ++ ((1, 16, 42) :: (lk_X5_init_42 ++ ((1, 15, 39) :: (lk_X8_init_39 ++ ((1, 14, 35) :: (lk_X7_init_35 ++ ((1, 12, 34) :: ((1, 11, 33) :: ((1, 10, 27) :: (lk_X2_init_27 ++ ((1, 9, 21) :: (lk_X2_init_21 ++ ((1, 8, 15) :: (lk_X0_init_15 ++ ((1, 7, 9) :: (lk_X0_init_9 ++ ((1, 6, 7) :: (lk_X3_init_7 ++ ((1, 5, 6) :: ((1, 4, 3) :: (lk_X6_init_3 ++ ((1, 3, 2) :: ([])))))))))))))))))))))))))) R242 := hK245.app (hK238.fr hF244 rfl)
  have hF251 : FR 1 R R242 := fun o ho => (hF244 o (by omega)).trans (hF239 o ho)
  have hK252 : RK ((1, 18, 49) :: (lk_X4_init_49 ++ ((1, 17, 45) :: (lk_X9_init_45 ++ ((1, 16, 42) :: (lk_X5_init_42 ++ ((1, 15, 39) :: (lk_X8_init_39 ++ ((1, 14, 35) :: (lk_X7_init_35 ++ ((1, 12, 34) :: ((1, 11, 33) :: ((1, 10, 27) :: (lk_X2_init_27 ++ ((1, 9, 21) :: (lk_X2_init_21 ++ ((1, 8, 15) :: (lk_X0_init_15 ++ ((1, 7, 9) :: (lk_X0_init_9 ++ ((1, 6, 7) :: (lk_X3_init_7 ++ ((1, 5, 6) :: ((1, 4, 3) :: (lk_X6_init_3 ++ ((1, 3, 2) :: ([]))))))))))))))))))))))))))) (uR R242 1 18 49) := hK250.u rfl
  have hF253 : FR 1 R (uR R242 1 18 49) := hF251.u rfl
  have hB254 : BZ (zI I240 51) := hB243.z
  have hZ255 : KI (zk_X4_init_49 ++ (zk_X9_init_45 ++ (zk_X5_init_42 ++ (zk_X8_init_39 ++ (zk_X7_init_35 ++ (zk_X2_init_27 ++ (zk_X2_init_21 ++ (zk_X0_init_15 ++ (zk_X0_init_9 ++ (zk_X3_init_7 ++ (zk_X1_init_6 ++ (zk_X6_init_3 ++ ([]))))))))))))) (zI I240 51) := hZ248.z rfl
  have hI256 : FI 1 I (zI I240 51) := hI249.z rfl
  have hK257 : RK ((1, 18, 49) :: (lk_X4_init_49 ++ ((1, 17, 45) :: (lk_X9_init_45 ++ ((1, 16, 42) :: (lk_X5_init_42 ++ ((1, 15, 39) :: (lk_X8_init_39 ++ ((1, 14, 35) :: (lk_X7_init_35 ++ ((1, 12, 34) :: ((1, 11, 33) :: ((1, 10, 27) :: (lk_X2_init_27 ++ ((1, 9, 21) :: (lk_X2_init_21 ++ ((1, 8, 15) :: (lk_X0_init_15 ++ ((1, 7, 9) :: (lk_X0_init_9 ++ ((1, 6, 7) :: (lk_X3_init_7 ++ ((1, 5, 6) :: ((1, 4, 3) :: (lk_X6_init_3 ++ ((1, 3, 2) :: ([]))))))))))))))))))))))))))) (zR (uR R242 1 18 49) 51) := hK252.z rfl
  have hF258 : FR 1 R (zR (uR R242 1 18 49) 51) := hF253.z rfl
  refine ct_X4_init_51 hB254 (fun I259 J260 R261 hB262 hF263 hK264 hI265 hZ266 => ?_)
  have hZ267 : KI (zk_X4_init_51 ++ (zk_X4_init_49 ++ (zk_X9_init_45 ++ (zk_X5_init_42 ++ (zk_X8_init_39 ++ (zk_X7_init_35 ++ (zk_X2_init_27 ++ (zk_X2_init_21 ++ (zk_X0_init_15 ++ (zk_X0_init_9 ++ (zk_X3_init_7 ++ (zk_X1_init_6 ++ (zk_X6_init_3 ++ ([])))))))))))))) I259 := hZ266.app (hZ255.fr hI265 rfl)
  have hI268 : FI 1 I I259 := fun o ho => (hI265 o (by omega)).trans (hI256 o ho)
  have hK269 : RK (lk_X4_init_51 ++ ((1, 18, 49) :: (lk_X4_init_49 ++ ((1, 17, 45) :: (lk_X9_init_45 ++ ((1, 16, 42) :: (lk_X5_init_42 ++ ((1, 15, 39) :: (lk_X8_init_39 ++ ((1, 14, 35) :: (lk_X7_init_35 ++ ((1, 12, 34) :: ((1, 11, 33) :: ((1, 10, 27) :: (lk_X2_init_27 ++ ((1, 9, 21) :: (lk_X2_init_21 ++ ((1, 8, 15) :: (lk_X0_init_15 ++ ((1, 7, 9) :: (lk_X0_init_9 ++ ((1, 6, 7) :: (lk_X3_init_7 ++ ((1, 5, 6) :: ((1, 4, 3) :: (lk_X6_init_3 ++ ((1, 3, 2) :: ([])))))))))))))))))))))))))))) R261 := hK264.app (hK257.fr hF263 rfl)
  have hF270 : FR 1 R R261 := fun o ho => (hF263 o (by omega)).trans (hF258 o ho)
  have hK271 : RK ((1, 19, 51) :: (lk_X4_init_51 ++ ((1, 18, 49) :: (lk_X4_init_49 ++ ((1, 17, 45) :: (lk_X9_init_45 ++ ((1, 16, 42) :: (lk_X5_init_42 ++ ((1, 15, 39) :: (lk_X8_init_39 ++ ((1, 14, 35) :: (lk_X7_init_35 ++ ((1, 12, 34) :: ((1, 11, 33) :: ((1, 10, 27) :: (lk_X2_init_27 ++ ((1, 9, 21) :: (lk_X2_init_21 ++ ((1, 8, 15) :: (lk_X0_init_15 ++ ((1, 7, 9) :: (lk_X0_init_9 ++ ((1, 6, 7) :: (lk_X3_init_7 ++ ((1, 5, 6) :: ((1, 4, 3) :: (lk_X6_init_3 ++ ((1, 3, 2) :: ([]))))))))))))))))))))))))))))) (uR R261 1 19 51) := hK269.u rfl
  have hF272 : FR 1 R (uR R261 1 19 51) := hF270.u rfl
  refine cs_X11_init_1_193_52 hc _ _ _ ?_
  refine ⟨fun c => absurd c (by decide), fun _ => ?_⟩
  refine ⟨hK271.ne (show lkq ((1, 19, 51) :: (lk_X4_init_51 ++ ((1, 18, 49) :: (lk_X4_init_49 ++ ((1, 17, 45) :: (lk_X9_init_45 ++ ((1, 16, 42) :: (lk_X5_init_42 ++ ((1, 15, 39) :: (lk_X8_init_39 ++ ((1, 14, 35) :: (lk_X7_init_35 ++ ((1, 12, 34) :: ((1, 11, 33) :: ((1, 10, 27) :: (lk_X2_init_27 ++ ((1, 9, 21) :: (lk_X2_init_21 ++ ((1, 8, 15) :: (lk_X0_init_15 ++ ((1, 7, 9) :: (lk_X0_init_9 ++ ((1, 6, 7) :: (lk_X3_init_7 ++ ((1, 5, 6) :: ((1, 4, 3) :: (lk_X6_init_3 ++ ((1, 3, 2) :: ([]))))))))))))))))))))))))))))) 1 3 = true from rfl), ?_⟩
  have hB273 : BZ (zI I259 53) := hB262.z
  have hZ274 : KI (zk_X4_init_51 ++ (zk_X4_init_49 ++ (zk_X9_init_45 ++ (zk_X5_init_42 ++ (zk_X8_init_39 ++ (zk_X7_init_35 ++ (zk_X2_init_27 ++ (zk_X2_init_21 ++ (zk_X0_init_15 ++ (zk_X0_init_9 ++ (zk_X3_init_7 ++ (zk_X1_init_6 ++ (zk_X6_init_3 ++ ([])))))))))))))) (zI I259 53) := hZ267.z rfl
  have hI275 : FI 1 I (zI I259 53) := hI268.z rfl
  have hK276 : RK ((1, 19, 51) :: (lk_X4_init_51 ++ ((1, 18, 49) :: (lk_X4_init_49 ++ ((1, 17, 45) :: (lk_X9_init_45 ++ ((1, 16, 42) :: (lk_X5_init_42 ++ ((1, 15, 39) :: (lk_X8_init_39 ++ ((1, 14, 35) :: (lk_X7_init_35 ++ ((1, 12, 34) :: ((1, 11, 33) :: ((1, 10, 27) :: (lk_X2_init_27 ++ ((1, 9, 21) :: (lk_X2_init_21 ++ ((1, 8, 15) :: (lk_X0_init_15 ++ ((1, 7, 9) :: (lk_X0_init_9 ++ ((1, 6, 7) :: (lk_X3_init_7 ++ ((1, 5, 6) :: ((1, 4, 3) :: (lk_X6_init_3 ++ ((1, 3, 2) :: ([]))))))))))))))))))))))))))))) (zR (uR R261 1 19 51) 53) := hK271.z rfl
  have hF277 : FR 1 R (zR (uR R261 1 19 51) 53) := hF272.z rfl
  refine ct_X10_init_53 hB273 (fun I278 J279 R280 hB281 hF282 hK283 hI284 hZ285 => ?_)
  have hZ286 : KI (zk_X10_init_53 ++ (zk_X4_init_51 ++ (zk_X4_init_49 ++ (zk_X9_init_45 ++ (zk_X5_init_42 ++ (zk_X8_init_39 ++ (zk_X7_init_35 ++ (zk_X2_init_27 ++ (zk_X2_init_21 ++ (zk_X0_init_15 ++ (zk_X0_init_9 ++ (zk_X3_init_7 ++ (zk_X1_init_6 ++ (zk_X6_init_3 ++ ([]))))))))))))))) I278 := hZ285.app (hZ274.fr hI284 rfl)
  have hI287 : FI 1 I I278 := fun o ho => (hI284 o (by omega)).trans (hI275 o ho)
  have hK288 : RK (lk_X10_init_53 ++ ((1, 19, 51) :: (lk_X4_init_51 ++ ((1, 18, 49) :: (lk_X4_init_49 ++ ((1, 17, 45) :: (lk_X9_init_45 ++ ((1, 16, 42) :: (lk_X5_init_42 ++ ((1, 15, 39) :: (lk_X8_init_39 ++ ((1, 14, 35) :: (lk_X7_init_35 ++ ((1, 12, 34) :: ((1, 11, 33) :: ((1, 10, 27) :: (lk_X2_init_27 ++ ((1, 9, 21) :: (lk_X2_init_21 ++ ((1, 8, 15) :: (lk_X0_init_15 ++ ((1, 7, 9) :: (lk_X0_init_9 ++ ((1, 6, 7) :: (lk_X3_init_7 ++ ((1, 5, 6) :: ((1, 4, 3) :: (lk_X6_init_3 ++ ((1, 3, 2) :: ([])))))))))))))))))))))))))))))) R280 := hK283.app (hK276.fr hF282 rfl)
  have hF289 : FR 1 R R280 := fun o ho => (hF282 o (by omega)).trans (hF277 o ho)
  refine ⟨vp_of rfl (by decide) (by decide), ?_⟩
  have hK290 : RK ((2, 0, 53) :: (lk_X10_init_53 ++ ((1, 19, 51) :: (lk_X4_init_51 ++ ((1, 18, 49) :: (lk_X4_init_49 ++ ((1, 17, 45) :: (lk_X9_init_45 ++ ((1, 16, 42) :: (lk_X5_init_42 ++ ((1, 15, 39) :: (lk_X8_init_39 ++ ((1, 14, 35) :: (lk_X7_init_35 ++ ((1, 12, 34) :: ((1, 11, 33) :: ((1, 10, 27) :: (lk_X2_init_27 ++ ((1, 9, 21) :: (lk_X2_init_21 ++ ((1, 8, 15) :: (lk_X0_init_15 ++ ((1, 7, 9) :: (lk_X0_init_9 ++ ((1, 6, 7) :: (lk_X3_init_7 ++ ((1, 5, 6) :: ((1, 4, 3) :: (lk_X6_init_3 ++ ((1, 3, 2) :: ([]))))))))))))))))))))))))))))))) (uR R280 2 (Int32.toNatClampNeg 0) 53) := hK288.u rfl
  have hF291 : FR 1 R (uR R280 2 (Int32.toNatClampNeg 0) 53) := hF289.u rfl
  refine cs_X11_init_1_193_54 hc _ _ _ ?_
  refine ⟨fun c => absurd c (by decide), fun _ => ?_⟩
  refine ⟨hK290.ne (show lkq ((2, 0, 53) :: (lk_X10_init_53 ++ ((1, 19, 51) :: (lk_X4_init_51 ++ ((1, 18, 49) :: (lk_X4_init_49 ++ ((1, 17, 45) :: (lk_X9_init_45 ++ ((1, 16, 42) :: (lk_X5_init_42 ++ ((1, 15, 39) :: (lk_X8_init_39 ++ ((1, 14, 35) :: (lk_X7_init_35 ++ ((1, 12, 34) :: ((1, 11, 33) :: ((1, 10, 27) :: (lk_X2_init_27 ++ ((1, 9, 21) :: (lk_X2_init_21 ++ ((1, 8, 15) :: (lk_X0_init_15 ++ ((1, 7, 9) :: (lk_X0_init_9 ++ ((1, 6, 7) :: (lk_X3_init_7 ++ ((1, 5, 6) :: ((1, 4, 3) :: (lk_X6_init_3 ++ ((1, 3, 2) :: ([]))))))))))))))))))))))))))))))) 1 3 = true from rfl), ?_⟩
  have hB292 : BZ (zI I278 55) := hB281.z
  have hZ293 : KI (zk_X10_init_53 ++ (zk_X4_init_51 ++ (zk_X4_init_49 ++ (zk_X9_init_45 ++ (zk_X5_init_42 ++ (zk_X8_init_39 ++ (zk_X7_init_35 ++ (zk_X2_init_27 ++ (zk_X2_init_21 ++ (zk_X0_init_15 ++ (zk_X0_init_9 ++ (zk_X3_init_7 ++ (zk_X1_init_6 ++ (zk_X6_init_3 ++ ([]))))))))))))))) (zI I278 55) := hZ286.z rfl
  have hI294 : FI 1 I (zI I278 55) := hI287.z rfl
  have hK295 : RK ((2, 0, 53) :: (lk_X10_init_53 ++ ((1, 19, 51) :: (lk_X4_init_51 ++ ((1, 18, 49) :: (lk_X4_init_49 ++ ((1, 17, 45) :: (lk_X9_init_45 ++ ((1, 16, 42) :: (lk_X5_init_42 ++ ((1, 15, 39) :: (lk_X8_init_39 ++ ((1, 14, 35) :: (lk_X7_init_35 ++ ((1, 12, 34) :: ((1, 11, 33) :: ((1, 10, 27) :: (lk_X2_init_27 ++ ((1, 9, 21) :: (lk_X2_init_21 ++ ((1, 8, 15) :: (lk_X0_init_15 ++ ((1, 7, 9) :: (lk_X0_init_9 ++ ((1, 6, 7) :: (lk_X3_init_7 ++ ((1, 5, 6) :: ((1, 4, 3) :: (lk_X6_init_3 ++ ((1, 3, 2) :: ([]))))))))))))))))))))))))))))))) (zR (uR R280 2 (Int32.toNatClampNeg 0) 53) 55) := hK290.z rfl
  have hF296 : FR 1 R (zR (uR R280 2 (Int32.toNatClampNeg 0) 53) 55) := hF291.z rfl
  refine ct_X10_init_55 hB292 (fun I297 J298 R299 hB300 hF301 hK302 hI303 hZ304 => ?_)
  have hZ305 : KI (zk_X10_init_55 ++ (zk_X10_init_53 ++ (zk_X4_init_51 ++ (zk_X4_init_49 ++ (zk_X9_init_45 ++ (zk_X5_init_42 ++ (zk_X8_init_39 ++ (zk_X7_init_35 ++ (zk_X2_init_27 ++ (zk_X2_init_21 ++ (zk_X0_init_15 ++ (zk_X0_init_9 ++ (zk_X3_init_7 ++ (zk_X1_init_6 ++ (zk_X6_init_3 ++ ([])))))))))))))))) I297 := hZ304.app (hZ293.fr hI303 rfl)
  have hI306 : FI 1 I I297 := fun o ho => (hI303 o (by omega)).trans (hI294 o ho)
  have hK307 : RK (lk_X10_init_55 ++ ((2, 0, 53) :: (lk_X10_init_53 ++ ((1, 19, 51) :: (lk_X4_init_51 ++ ((1, 18, 49) :: (lk_X4_init_49 ++ ((1, 17, 45) :: (lk_X9_init_45 ++ ((1, 16, 42) :: (lk_X5_init_42 ++ ((1, 15, 39) :: (lk_X8_init_39 ++ ((1, 14, 35) :: (lk_X7_init_35 ++ ((1, 12, 34) :: ((1, 11, 33) :: ((1, 10, 27) :: (lk_X2_init_27 ++ ((1, 9, 21) :: (lk_X2_init_21 ++ ((1, 8, 15) :: (lk_X0_init_15 ++ ((1, 7, 9) :: (lk_X0_init_9 ++ ((1, 6, 7) :: (lk_X3_init_7 ++ ((1, 5, 6) :: ((1, 4, 3) :: (lk_X6_init_3 ++ ((1, 3, 2) :: ([])))))))))))))))))))))))))))))))) R299 := hK302.app (hK295.fr hF301 rfl)
  have hF308 : FR 1 R R299 := fun o ho => (hF301 o (by omega)).trans (hF296 o ho)
  refine ⟨vp_of rfl (by decide) (by decide), ?_⟩
  have hK309 : RK ((2, 1, 55) :: (lk_X10_init_55 ++ ((2, 0, 53) :: (lk_X10_init_53 ++ ((1, 19, 51) :: (lk_X4_init_51 ++ ((1, 18, 49) :: (lk_X4_init_49 ++ ((1, 17, 45) :: (lk_X9_init_45 ++ ((1, 16, 42) :: (lk_X5_init_42 ++ ((1, 15, 39) :: (lk_X8_init_39 ++ ((1, 14, 35) :: (lk_X7_init_35 ++ ((1, 12, 34) :: ((1, 11, 33) :: ((1, 10, 27) :: (lk_X2_init_27 ++ ((1, 9, 21) :: (lk_X2_init_21 ++ ((1, 8, 15) :: (lk_X0_init_15 ++ ((1, 7, 9) :: (lk_X0_init_9 ++ ((1, 6, 7) :: (lk_X3_init_7 ++ ((1, 5, 6) :: ((1, 4, 3) :: (lk_X6_init_3 ++ ((1, 3, 2) :: ([]))))))))))))))))))))))))))))))))) (uR R299 2 (Int32.toNatClampNeg (0 + 1)) 55) := hK307.u rfl
  have hF310 : FR 1 R (uR R299 2 (Int32.toNatClampNeg (0 + 1)) 55) := hF308.u rfl
  refine cs_X11_init_1_193_56 hc _ _ _ ?_
  refine ⟨fun c => absurd c (by decide), fun _ => ?_⟩
  refine ⟨hK309.ne (show lkq ((2, 1, 55) :: (lk_X10_init_55 ++ ((2, 0, 53) :: (lk_X10_init_53 ++ ((1, 19, 51) :: (lk_X4_init_51 ++ ((1, 18, 49) :: (lk_X4_init_49 ++ ((1, 17, 45) :: (lk_X9_init_45 ++ ((1, 16, 42) :: (lk_X5_init_42 ++ ((1, 15, 39) :: (lk_X8_init_39 ++ ((1, 14, 35) :: (lk_X7_init_35 ++ ((1, 12, 34) :: ((1, 11, 33) :: ((1, 10, 27) :: (lk_X2_init_27 ++ ((1, 9, 21) :: (lk_X2_init_21 ++ ((1, 8, 15) :: (lk_X0_init_15 ++ ((1, 7, 9) :: (lk_X0_init_9 ++ ((1, 6, 7) :: (lk_X3_init_7 ++ ((1, 5, 6) :: ((1, 4, 3) :: (lk_X6_init_3 ++ ((1, 3, 2) :: ([]))))))))))))))))))))))))))))))))) 1 3 = true from rfl), ?_⟩
  have hB311 : BZ (zI I297 57) := hB300.z
  have hZ312 : KI (zk_X10_init_55 ++ (zk_X10_init_53 ++ (zk_X4_init_51 ++ (zk_X4_init_49 ++ (zk_X9_init_45 ++ (zk_X5_init_42 ++ (zk_X8_init_39 ++ (zk_X7_init_35 ++ (zk_X2_init_27 ++ (zk_X2_init_21 ++ (zk_X0_init_15 ++ (zk_X0_init_9 ++ (zk_X3_init_7 ++ (zk_X1_init_6 ++ (zk_X6_init_3 ++ ([])))))))))))))))) (zI I297 57) := hZ305.z rfl
  have hI313 : FI 1 I (zI I297 57) := hI306.z rfl
  have hK314 : RK ((2, 1, 55) :: (lk_X10_init_55 ++ ((2, 0, 53) :: (lk_X10_init_53 ++ ((1, 19, 51) :: (lk_X4_init_51 ++ ((1, 18, 49) :: (lk_X4_init_49 ++ ((1, 17, 45) :: (lk_X9_init_45 ++ ((1, 16, 42) :: (lk_X5_init_42 ++ ((1, 15, 39) :: (lk_X8_init_39 ++ ((1, 14, 35) :: (lk_X7_init_35 ++ ((1, 12, 34) :: ((1, 11, 33) :: ((1, 10, 27) :: (lk_X2_init_27 ++ ((1, 9, 21) :: (lk_X2_init_21 ++ ((1, 8, 15) :: (lk_X0_init_15 ++ ((1, 7, 9) :: (lk_X0_init_9 ++ ((1, 6, 7) :: (lk_X3_init_7 ++ ((1, 5, 6) :: ((1, 4, 3) :: (lk_X6_init_3 ++ ((1, 3, 2) :: ([]))))))))))))))))))))))))))))))))) (zR (uR R299 2 (Int32.toNatClampNeg (0 + 1)) 55) 57) := hK309.z rfl
  have hF315 : FR 1 R (zR (uR R299 2 (Int32.toNatClampNeg (0 + 1)) 55) 57) := hF310.z rfl
  refine ct_X10_init_57 hB311 (fun I316 J317 R318 hB319 hF320 hK321 hI322 hZ323 => ?_)
  have hZ324 : KI (zk_X10_init_57 ++ (zk_X10_init_55 ++ (zk_X10_init_53 ++ (zk_X4_init_51 ++ (zk_X4_init_49 ++ (zk_X9_init_45 ++ (zk_X5_init_42 ++ (zk_X8_init_39 ++ (zk_X7_init_35 ++ (zk_X2_init_27 ++ (zk_X2_init_21 ++ (zk_X0_init_15 ++ (zk_X0_init_9 ++ (zk_X3_init_7 ++ (zk_X1_init_6 ++ (zk_X6_init_3 ++ ([]))))))))))))))))) I316 := hZ323.app (hZ312.fr hI322 rfl)
  have hI325 : FI 1 I I316 := fun o ho => (hI322 o (by omega)).trans (hI313 o ho)
  have hK326 : RK (lk_X10_init_57 ++ ((2, 1, 55) :: (lk_X10_init_55 ++ ((2, 0, 53) :: (lk_X10_init_53 ++ ((1, 19, 51) :: (lk_X4_init_51 ++ ((1, 18, 49) :: (lk_X4_init_49 ++ ((1, 17, 45) :: (lk_X9_init_45 ++ ((1, 16, 42) :: (lk_X5_init_42 ++ ((1, 15, 39) :: (lk_X8_init_39 ++ ((1, 14, 35) :: (lk_X7_init_35 ++ ((1, 12, 34) :: ((1, 11, 33) :: ((1, 10, 27) :: (lk_X2_init_27 ++ ((1, 9, 21) :: (lk_X2_init_21 ++ ((1, 8, 15) :: (lk_X0_init_15 ++ ((1, 7, 9) :: (lk_X0_init_9 ++ ((1, 6, 7) :: (lk_X3_init_7 ++ ((1, 5, 6) :: ((1, 4, 3) :: (lk_X6_init_3 ++ ((1, 3, 2) :: ([])))))))))))))))))))))))))))))))))) R318 := hK321.app (hK314.fr hF320 rfl)
  have hF327 : FR 1 R R318 := fun o ho => (hF320 o (by omega)).trans (hF315 o ho)
  refine ⟨vp_of rfl (by decide) (by decide), ?_⟩
  have hK328 : RK ((2, 2, 57) :: (lk_X10_init_57 ++ ((2, 1, 55) :: (lk_X10_init_55 ++ ((2, 0, 53) :: (lk_X10_init_53 ++ ((1, 19, 51) :: (lk_X4_init_51 ++ ((1, 18, 49) :: (lk_X4_init_49 ++ ((1, 17, 45) :: (lk_X9_init_45 ++ ((1, 16, 42) :: (lk_X5_init_42 ++ ((1, 15, 39) :: (lk_X8_init_39 ++ ((1, 14, 35) :: (lk_X7_init_35 ++ ((1, 12, 34) :: ((1, 11, 33) :: ((1, 10, 27) :: (lk_X2_init_27 ++ ((1, 9, 21) :: (lk_X2_init_21 ++ ((1, 8, 15) :: (lk_X0_init_15 ++ ((1, 7, 9) :: (lk_X0_init_9 ++ ((1, 6, 7) :: (lk_X3_init_7 ++ ((1, 5, 6) :: ((1, 4, 3) :: (lk_X6_init_3 ++ ((1, 3, 2) :: ([]))))))))))))))))))))))))))))))))))) (uR R318 2 (Int32.toNatClampNeg ((0 + 1) + 1)) 57) := hK326.u rfl
  have hF329 : FR 1 R (uR R318 2 (Int32.toNatClampNeg ((0 + 1) + 1)) 57) := hF327.u rfl
  refine cs_X11_init_1_193_58 hc _ _ _ ?_
  refine ⟨fun c => absurd c (by decide), fun _ => ?_⟩
  refine ⟨hK328.ne (show lkq ((2, 2, 57) :: (lk_X10_init_57 ++ ((2, 1, 55) :: (lk_X10_init_55 ++ ((2, 0, 53) :: (lk_X10_init_53 ++ ((1, 19, 51) :: (lk_X4_init_51 ++ ((1, 18, 49) :: (lk_X4_init_49 ++ ((1, 17, 45) :: (lk_X9_init_45 ++ ((1, 16, 42) :: (lk_X5_init_42 ++ ((1, 15, 39) :: (lk_X8_init_39 ++ ((1, 14, 35) :: (lk_X7_init_35 ++ ((1, 12, 34) :: ((1, 11, 33) :: ((1, 10, 27) :: (lk_X2_init_27 ++ ((1, 9, 21) :: (lk_X2_init_21 ++ ((1, 8, 15) :: (lk_X0_init_15 ++ ((1, 7, 9) :: (lk_X0_init_9 ++ ((1, 6, 7) :: (lk_X3_init_7 ++ ((1, 5, 6) :: ((1, 4, 3) :: (lk_X6_init_3 ++ ((1, 3, 2) :: ([]))))))))))))))))))))))))))))))))))) 1 3 = true from rfl), ?_⟩
  have hB330 : BZ (zI I316 59) := hB319.z
  have hZ331 : KI (zk_X10_init_57 ++ (zk_X10_init_55 ++ (zk_X10_init_53 ++ (zk_X4_init_51 ++ (zk_X4_init_49 ++ (zk_X9_init_45 ++ (zk_X5_init_42 ++ (zk_X8_init_39 ++ (zk_X7_init_35 ++ (zk_X2_init_27 ++ (zk_X2_init_21 ++ (zk_X0_init_15 ++ (zk_X0_init_9 ++ (zk_X3_init_7 ++ (zk_X1_init_6 ++ (zk_X6_init_3 ++ ([]))))))))))))))))) (zI I316 59) := hZ324.z rfl
  have hI332 : FI 1 I (zI I316 59) := hI325.z rfl
  have hK333 : RK ((2, 2, 57) :: (lk_X10_init_57 ++ ((2, 1, 55) :: (lk_X10_init_55 ++ ((2, 0, 53) :: (lk_X10_init_53 ++ ((1, 19, 51) :: (lk_X4_init_51 ++ ((1, 18, 49) :: (lk_X4_init_49 ++ ((1, 17, 45) :: (lk_X9_init_45 ++ ((1, 16, 42) :: (lk_X5_init_42 ++ ((1, 15, 39) :: (lk_X8_init_39 ++ ((1, 14, 35) :: (lk_X7_init_35 ++ ((1, 12, 34) :: ((1, 11, 33) :: ((1, 10, 27) :: (lk_X2_init_27 ++ ((1, 9, 21) :: (lk_X2_init_21 ++ ((1, 8, 15) :: (lk_X0_init_15 ++ ((1, 7, 9) :: (lk_X0_init_9 ++ ((1, 6, 7) :: (lk_X3_init_7 ++ ((1, 5, 6) :: ((1, 4, 3) :: (lk_X6_init_3 ++ ((1, 3, 2) :: ([]))))))))))))))))))))))))))))))))))) (zR (uR R318 2 (Int32.toNatClampNeg ((0 + 1) + 1)) 57) 59) := hK328.z rfl
  have hF334 : FR 1 R (zR (uR R318 2 (Int32.toNatClampNeg ((0 + 1) + 1)) 57) 59) := hF329.z rfl
  refine ct_X10_init_59 hB330 (fun I335 J336 R337 hB338 hF339 hK340 hI341 hZ342 => ?_)
  have hZ343 : KI (zk_X10_init_59 ++ (zk_X10_init_57 ++ (zk_X10_init_55 ++ (zk_X10_init_53 ++ (zk_X4_init_51 ++ (zk_X4_init_49 ++ (zk_X9_init_45 ++ (zk_X5_init_42 ++ (zk_X8_init_39 ++ (zk_X7_init_35 ++ (zk_X2_init_27 ++ (zk_X2_init_21 ++ (zk_X0_init_15 ++ (zk_X0_init_9 ++ (zk_X3_init_7 ++ (zk_X1_init_6 ++ (zk_X6_init_3 ++ ([])))))))))))))))))) I335 := hZ342.app (hZ331.fr hI341 rfl)
  have hI344 : FI 1 I I335 := fun o ho => (hI341 o (by omega)).trans (hI332 o ho)
  have hK345 : RK (lk_X10_init_59 ++ ((2, 2, 57) :: (lk_X10_init_57 ++ ((2, 1, 55) :: (lk_X10_init_55 ++ ((2, 0, 53) :: (lk_X10_init_53 ++ ((1, 19, 51) :: (lk_X4_init_51 ++ ((1, 18, 49) :: (lk_X4_init_49 ++ ((1, 17, 45) :: (lk_X9_init_45 ++ ((1, 16, 42) :: (lk_X5_init_42 ++ ((1, 15, 39) :: (lk_X8_init_39 ++ ((1, 14, 35) :: (lk_X7_init_35 ++ ((1, 12, 34) :: ((1, 11, 33) :: ((1, 10, 27) :: (lk_X2_init_27 ++ ((1, 9, 21) :: (lk_X2_init_21 ++ ((1, 8, 15) :: (lk_X0_init_15 ++ ((1, 7, 9) :: (lk_X0_init_9 ++ ((1, 6, 7) :: (lk_X3_init_7 ++ ((1, 5, 6) :: ((1, 4, 3) :: (lk_X6_init_3 ++ ((1, 3, 2) :: ([])))))))))))))))))))))))))))))))))))) R337 := hK340.app (hK333.fr hF339 rfl)
  have hF346 : FR 1 R R337 := fun o ho => (hF339 o (by omega)).trans (hF334 o ho)
  refine ⟨vp_of rfl (by decide) (by decide), ?_⟩
  have hK347 : RK ((2, 3, 59) :: (lk_X10_init_59 ++ ((2, 2, 57) :: (lk_X10_init_57 ++ ((2, 1, 55) :: (lk_X10_init_55 ++ ((2, 0, 53) :: (lk_X10_init_53 ++ ((1, 19, 51) :: (lk_X4_init_51 ++ ((1, 18, 49) :: (lk_X4_init_49 ++ ((1, 17, 45) :: (lk_X9_init_45 ++ ((1, 16, 42) :: (lk_X5_init_42 ++ ((1, 15, 39) :: (lk_X8_init_39 ++ ((1, 14, 35) :: (lk_X7_init_35 ++ ((1, 12, 34) :: ((1, 11, 33) :: ((1, 10, 27) :: (lk_X2_init_27 ++ ((1, 9, 21) :: (lk_X2_init_21 ++ ((1, 8, 15) :: (lk_X0_init_15 ++ ((1, 7, 9) :: (lk_X0_init_9 ++ ((1, 6, 7) :: (lk_X3_init_7 ++ ((1, 5, 6) :: ((1, 4, 3) :: (lk_X6_init_3 ++ ((1, 3, 2) :: ([]))))))))))))))))))))))))))))))))))))) (uR R337 2 (Int32.toNatClampNeg (((0 + 1) + 1) + 1)) 59) := hK345.u rfl
  have hF348 : FR 1 R (uR R337 2 (Int32.toNatClampNeg (((0 + 1) + 1) + 1)) 59) := hF346.u rfl
  refine cs_X11_init_1_193_60 hc _ _ _ ?_
  refine ⟨fun _ => ?_, fun c => absurd (by decide) c⟩
  refine cs_X11_init_1_219_60 hc _ _ _ ?_
  refine ⟨fun c => absurd c (by decide), fun _ => ?_⟩
  refine ⟨hK347.ne (show lkq ((2, 3, 59) :: (lk_X10_init_59 ++ ((2, 2, 57) :: (lk_X10_init_57 ++ ((2, 1, 55) :: (lk_X10_init_55 ++ ((2, 0, 53) :: (lk_X10_init_53 ++ ((1, 19, 51) :: (lk_X4_init_51 ++ ((1, 18, 49) :: (lk_X4_init_49 ++ ((1, 17, 45) :: (lk_X9_init_45 ++ ((1, 16, 42) :: (lk_X5_init_42 ++ ((1, 15, 39) :: (lk_X8_init_39 ++ ((1, 14, 35) :: (lk_X7_init_35 ++ ((1, 12, 34) :: ((1, 11, 33) :: ((1, 10, 27) :: (lk_X2_init_27 ++ ((1, 9, 21) :: (lk_X2_init_21 ++ ((1, 8, 15) :: (lk_X0_init_15 ++ ((1, 7, 9) :: (lk_X0_init_9 ++ ((1, 6, 7) :: (lk_X3_init_7 ++ ((1, 5, 6) :: ((1, 4, 3) :: (lk_X6_init_3 ++ ((1, 3, 2) :: ([]))))))))))))))))))))))))))))))))))))) 1 11 = true from rfl), ?_⟩
  have hB349 : BZ (zI I335 61) := hB338.z
  have hZ350 : KI (zk_X10_init_59 ++ (zk_X10_init_57 ++ (zk_X10_init_55 ++ (zk_X10_init_53 ++ (zk_X4_init_51 ++ (zk_X4_init_49 ++ (zk_X9_init_45 ++ (zk_X5_init_42 ++ (zk_X8_init_39 ++ (zk_X7_init_35 ++ (zk_X2_init_27 ++ (zk_X2_init_21 ++ (zk_X0_init_15 ++ (zk_X0_init_9 ++ (zk_X3_init_7 ++ (zk_X1_init_6 ++ (zk_X6_init_3 ++ ([])))))))))))))))))) (zI I335 61) := hZ343.z rfl
  have hI351 : FI 1 I (zI I335 61) := hI344.z rfl
  have hK352 : RK ((2, 3, 59) :: (lk_X10_init_59 ++ ((2, 2, 57) :: (lk_X10_init_57 ++ ((2, 1, 55) :: (lk_X10_init_55 ++ ((2, 0, 53) :: (lk_X10_init_53 ++ ((1, 19, 51) :: (lk_X4_init_51 ++ ((1, 18, 49) :: (lk_X4_init_49 ++ ((1, 17, 45) :: (lk_X9_init_45 ++ ((1, 16, 42) :: (lk_X5_init_42 ++ ((1, 15, 39) :: (lk_X8_init_39 ++ ((1, 14, 35) :: (lk_X7_init_35 ++ ((1, 12, 34) :: ((1, 11, 33) :: ((1, 10, 27) :: (lk_X2_init_27 ++ ((1, 9, 21) :: (lk_X2_init_21 ++ ((1, 8, 15) :: (lk_X0_init_15 ++ ((1, 7, 9) :: (lk_X0_init_9 ++ ((1, 6, 7) :: (lk_X3_init_7 ++ ((1, 5, 6) :: ((1, 4, 3) :: (lk_X6_init_3 ++ ((1, 3, 2) :: ([]))))))))))))))))))))))))))))))))))))) (zR (uR R337 2 (Int32.toNatClampNeg (((0 + 1) + 1) + 1)) 59) 61) := hK347.z rfl
  have hF353 : FR 1 R (zR (uR R337 2 (Int32.toNatClampNeg (((0 + 1) + 1) + 1)) 59) 61) := hF348.z rfl
  refine ct_X0_init_61 hB349 (fun I354 J355 R356 hB357 hF358 hK359 hI360 hZ361 => ?_)
  have hZ362 : KI (zk_X0_init_61 ++ (zk_X10_init_59 ++ (zk_X10_init_57 ++ (zk_X10_init_55 ++ (zk_X10_init_53 ++ (zk_X4_init_51 ++ (zk_X4_init_49 ++ (zk_X9_init_45 ++ (zk_X5_init_42 ++ (zk_X8_init_39 ++ (zk_X7_init_35 ++ (zk_X2_init_27 ++ (zk_X2_init_21 ++ (zk_X0_init_15 ++ (zk_X0_init_9 ++ (zk_X3_init_7 ++ (zk_X1_init_6 ++ (zk_X6_init_3 ++ ([]))))))))))))))))))) I354 := hZ361.app (hZ350.fr hI360 rfl)
  have hI363 : FI 1 I I354 := fun o ho => (hI360 o (by omega)).trans (hI351 o ho)
  have hK364 : RK (lk_X0_init_61 ++ ((2, 3, 59) :: (lk_X10_init_59 ++ ((2, 2, 57) :: (lk_X10_init_57 ++ ((2, 1, 55) :: (lk_X10_init_55 ++ ((2, 0, 53) :: (lk_X10_init_53 ++ ((1, 19, 51) :: (lk_X4_init_51 ++ ((1, 18, 49) :: (lk_X4_init_49 ++ ((1, 17, 45) :: (lk_X9_init_45 ++ ((1, 16, 42) :: (lk_X5_init_42 ++ ((1, 15, 39) :: (lk_X8_init_39 ++ ((1, 14, 35) :: (lk_X7_init_35 ++ ((1, 12, 34) :: ((1, 11, 33) :: ((1, 10, 27) :: (lk_X2_init_27 ++ ((1, 9, 21) :: (lk_X2_init_21 ++ ((1, 8, 15) :: (lk_X0_init_15 ++ ((1, 7, 9) :: (lk_X0_init_9 ++ ((1, 6, 7) :: (lk_X3_init_7 ++ ((1, 5, 6) :: ((1, 4, 3) :: (lk_X6_init_3 ++ ((1, 3, 2) :: ([])))))))))))))))))))))))))))))))))))))) R356 := hK359.app (hK352.fr hF358 rfl)
  have hF365 : FR 1 R R356 := fun o ho => (hF358 o (by omega)).trans (hF353 o ho)
  refine ⟨vp_of rfl (by decide) (by decide), ?_⟩
  have hK366 : RK ((33, 0, 61) :: (lk_X0_init_61 ++ ((2, 3, 59) :: (lk_X10_init_59 ++ ((2, 2, 57) :: (lk_X10_init_57 ++ ((2, 1, 55) :: (lk_X10_init_55 ++ ((2, 0, 53) :: (lk_X10_init_53 ++ ((1, 19, 51) :: (lk_X4_init_51 ++ ((1, 18, 49) :: (lk_X4_init_49 ++ ((1, 17, 45) :: (lk_X9_init_45 ++ ((1, 16, 42) :: (lk_X5_init_42 ++ ((1, 15, 39) :: (lk_X8_init_39 ++ ((1, 14, 35) :: (lk_X7_init_35 ++ ((1, 12, 34) :: ((1, 11, 33) :: ((1, 10, 27) :: (lk_X2_init_27 ++ ((1, 9, 21) :: (lk_X2_init_21 ++ ((1, 8, 15) :: (lk_X0_init_15 ++ ((1, 7, 9) :: (lk_X0_init_9 ++ ((1, 6, 7) :: (lk_X3_init_7 ++ ((1, 5, 6) :: ((1, 4, 3) :: (lk_X6_init_3 ++ ((1, 3, 2) :: ([]))))))))))))))))))))))))))))))))))))))) (uR R356 33 (Int32.toNatClampNeg 0) 61) := hK364.u rfl
  have hF367 : FR 1 R (uR R356 33 (Int32.toNatClampNeg 0) 61) := hF365.u rfl
  refine ⟨hK366.ne (show lkq ((33, 0, 61) :: (lk_X0_init_61 ++ ((2, 3, 59) :: (lk_X10_init_59 ++ ((2, 2, 57) :: (lk_X10_init_57 ++ ((2, 1, 55) :: (lk_X10_init_55 ++ ((2, 0, 53) :: (lk_X10_init_53 ++ ((1, 19, 51) :: (lk_X4_init_51 ++ ((1, 18, 49) :: (lk_X4_init_49 ++ ((1, 17, 45) :: (lk_X9_init_45 ++ ((1, 16, 42) :: (lk_X5_init_42 ++ ((1, 15, 39) :: (lk_X8_init_39 ++ ((1, 14, 35) :: (lk_X7_init_35 ++ ((1, 12, 34) :: ((1, 11, 33) :: ((1, 10, 27) :: (lk_X2_init_27 ++ ((1, 9, 21) :: (lk_X2_init_21 ++ ((1, 8, 15) :: (lk_X0_init_15 ++ ((1, 7, 9) :: (lk_X0_init_9 ++ ((1, 6, 7) :: (lk_X3_init_7 ++ ((1, 5, 6) :: ((1, 4, 3) :: (lk_X6_init_3 ++ ((1, 3, 2) :: ([]))))))))))))))))))))))))))))))))))))))) 1 12 = true from rfl), ?_⟩
  have hB368 : BZ (zI I354 67) := hB357.z
  have hZ369 : KI (zk_X0_init_61 ++ (zk_X10_init_59 ++ (zk_X10_init_57 ++ (zk_X10_init_55 ++ (zk_X10_init_53 ++ (zk_X4_init_51 ++ (zk_X4_init_49 ++ (zk_X9_init_45 ++ (zk_X5_init_42 ++ (zk_X8_init_39 ++ (zk_X7_init_35 ++ (zk_X2_init_27 ++ (zk_X2_init_21 ++ (zk_X0_init_15 ++ (zk_X0_init_9 ++ (zk_X3_init_7 ++ (zk_X1_init_6 ++ (zk_X6_init_3 ++ ([]))))))))))))))))))) (zI I354 67) := hZ362.z rfl
  have hI370 : FI 1 I (zI I354 67) := hI363.z rfl
  have hK371 : RK ((33, 0, 61) :: (lk_X0_init_61 ++ ((2, 3, 59) :: (lk_X10_init_59 ++ ((2, 2, 57) :: (lk_X10_init_57 ++ ((2, 1, 55) :: (lk_X10_init_55 ++ ((2, 0, 53) :: (lk_X10_init_53 ++ ((1, 19, 51) :: (lk_X4_init_51 ++ ((1, 18, 49) :: (lk_X4_init_49 ++ ((1, 17, 45) :: (lk_X9_init_45 ++ ((1, 16, 42) :: (lk_X5_init_42 ++ ((1, 15, 39) :: (lk_X8_init_39 ++ ((1, 14, 35) :: (lk_X7_init_35 ++ ((1, 12, 34) :: ((1, 11, 33) :: ((1, 10, 27) :: (lk_X2_init_27 ++ ((1, 9, 21) :: (lk_X2_init_21 ++ ((1, 8, 15) :: (lk_X0_init_15 ++ ((1, 7, 9) :: (lk_X0_init_9 ++ ((1, 6, 7) :: (lk_X3_init_7 ++ ((1, 5, 6) :: ((1, 4, 3) :: (lk_X6_init_3 ++ ((1, 3, 2) :: ([]))))))))))))))))))))))))))))))))))))))) (zR (uR R356 33 (Int32.toNatClampNeg 0) 61) 67) := hK366.z rfl
  have hF372 : FR 1 R (zR (uR R356 33 (Int32.toNatClampNeg 0) 61) 67) := hF367.z rfl
  refine ct_X2_init_67 hB368 (fun I373 J374 R375 hB376 hF377 hK378 hI379 hZ380 => ?_)
  have hZ381 : KI (zk_X2_init_67 ++ (zk_X0_init_61 ++ (zk_X10_init_59 ++ (zk_X10_init_57 ++ (zk_X10_init_55 ++ (zk_X10_init_53 ++ (zk_X4_init_51 ++ (zk_X4_init_49 ++ (zk_X9_init_45 ++ (zk_X5_init_42 ++ (zk_X8_init_39 ++ (zk_X7_init_35 ++ (zk_X2_init_27 ++ (zk_X2_init_21 ++ (zk_X0_init_15 ++ (zk_X0_init_9 ++ (zk_X3_init_7 ++ (zk_X1_init_6 ++ (zk_X6_init_3 ++ ([])))))))))))))))))))) I373 := hZ380.app (hZ369.fr hI379 rfl)
  have hI382 : FI 1 I I373 := fun o ho => (hI379 o (by omega)).trans (hI370 o ho)
  have hK383 : RK (lk_X2_init_67 ++ ((33, 0, 61) :: (lk_X0_init_61 ++ ((2, 3, 59) :: (lk_X10_init_59 ++ ((2, 2, 57) :: (lk_X10_init_57 ++ ((2, 1, 55) :: (lk_X10_init_55 ++ ((2, 0, 53) :: (lk_X10_init_53 ++ ((1, 19, 51) :: (lk_X4_init_51 ++ ((1, 18, 49) :: (lk_X4_init_49 ++ ((1, 17, 45) :: (lk_X9_init_45 ++ ((1, 16, 42) :: (lk_X5_init_42 ++ ((1, 15, 39) :: (lk_X8_init_39 ++ ((1, 14, 35) :: (lk_X7_init_35 ++ ((1, 12, 34) :: ((1, 11, 33) :: ((1, 10, 27) :: (lk_X2_init_27 ++ ((1, 9, 21) :: (lk_X2_init_21 ++ ((1, 8, 15) :: (lk_X0_init_15 ++ ((1, 7, 9) :: (lk_X0_init_9 ++ ((1, 6, 7) :: (lk_X3_init_7 ++ ((1, 5, 6) :: ((1, 4, 3) :: (lk_X6_init_3 ++ ((1, 3, 2) :: ([])))))))))))))))))))))))))))))))))))))))) R375 := hK378.app (hK371.fr hF377 rfl)
  have hF384 : FR 1 R R375 := fun o ho => (hF377 o (by omega)).trans (hF372 o ho)
  refine ⟨vp_of rfl (by decide) (by decide), ?_⟩
  have hK385 : RK ((34, 0, 67) :: (lk_X2_init_67 ++ ((33, 0, 61) :: (lk_X0_init_61 ++ ((2, 3, 59) :: (lk_X10_init_59 ++ ((2, 2, 57) :: (lk_X10_init_57 ++ ((2, 1, 55) :: (lk_X10_init_55 ++ ((2, 0, 53) :: (lk_X10_init_53 ++ ((1, 19, 51) :: (lk_X4_init_51 ++ ((1, 18, 49) :: (lk_X4_init_49 ++ ((1, 17, 45) :: (lk_X9_init_45 ++ ((1, 16, 42) :: (lk_X5_init_42 ++ ((1, 15, 39) :: (lk_X8_init_39 ++ ((1, 14, 35) :: (lk_X7_init_35 ++ ((1, 12, 34) :: ((1, 11, 33) :: ((1, 10, 27) :: (lk_X2_init_27 ++ ((1, 9, 21) :: (lk_X2_init_21 ++ ((1, 8, 15) :: (lk_X0_init_15 ++ ((1, 7, 9) :: (lk_X0_init_9 ++ ((1, 6, 7) :: (lk_X3_init_7 ++ ((1, 5, 6) :: ((1, 4, 3) :: (lk_X6_init_3 ++ ((1, 3, 2) :: ([]))))))))))))))))))))))))))))))))))))))))) (uR R375 34 (Int32.toNatClampNeg 0) 67) := hK383.u rfl
  have hF386 : FR 1 R (uR R375 34 (Int32.toNatClampNeg 0) 67) := hF384.u rfl
  refine cs_X11_init_1_219_72 hc _ _ _ ?_
  refine ⟨fun c => absurd c (by decide), fun _ => ?_⟩
  refine ⟨hK385.ne (show lkq ((34, 0, 67) :: (lk_X2_init_67 ++ ((33, 0, 61) :: (lk_X0_init_61 ++ ((2, 3, 59) :: (lk_X10_init_59 ++ ((2, 2, 57) :: (lk_X10_init_57 ++ ((2, 1, 55) :: (lk_X10_init_55 ++ ((2, 0, 53) :: (lk_X10_init_53 ++ ((1, 19, 51) :: (lk_X4_init_51 ++ ((1, 18, 49) :: (lk_X4_init_49 ++ ((1, 17, 45) :: (lk_X9_init_45 ++ ((1, 16, 42) :: (lk_X5_init_42 ++ ((1, 15, 39) :: (lk_X8_init_39 ++ ((1, 14, 35) :: (lk_X7_init_35 ++ ((1, 12, 34) :: ((1, 11, 33) :: ((1, 10, 27) :: (lk_X2_init_27 ++ ((1, 9, 21) :: (lk_X2_init_21 ++ ((1, 8, 15) :: (lk_X0_init_15 ++ ((1, 7, 9) :: (lk_X0_init_9 ++ ((1, 6, 7) :: (lk_X3_init_7 ++ ((1, 5, 6) :: ((1, 4, 3) :: (lk_X6_init_3 ++ ((1, 3, 2) :: ([]))))))))))))))))))))))))))))))))))))))))) 1 11 = true from rfl), ?_⟩
  have hB387 : BZ (zI I373 73) := hB376.z
  have hZ388 : KI (zk_X2_init_67 ++ (zk_X0_init_61 ++ (zk_X10_init_59 ++ (zk_X10_init_57 ++ (zk_X10_init_55 ++ (zk_X10_init_53 ++ (zk_X4_init_51 ++ (zk_X4_init_49 ++ (zk_X9_init_45 ++ (zk_X5_init_42 ++ (zk_X8_init_39 ++ (zk_X7_init_35 ++ (zk_X2_init_27 ++ (zk_X2_init_21 ++ (zk_X0_init_15 ++ (zk_X0_init_9 ++ (zk_X3_init_7 ++ (zk_X1_init_6 ++ (zk_X6_init_3 ++ ([])))))))))))))))))))) (zI I373 73) := hZ381.z rfl
  have hI389 : FI 1 I (zI I373 73) := hI382.z rfl
  have hK390 : RK ((34, 0, 67) :: (lk_X2_init_67 ++ ((33, 0, 61) :: (lk_X0_init_61 ++ ((2, 3, 59) :: (lk_X10_init_59 ++ ((2, 2, 57) :: (lk_X10_init_57 ++ ((2, 1, 55) :: (lk_X10_init_55 ++ ((2, 0, 53) :: (lk_X10_init_53 ++ ((1, 19, 51) :: (lk_X4_init_51 ++ ((1, 18, 49) :: (lk_X4_init_49 ++ ((1, 17, 45) :: (lk_X9_init_45 ++ ((1, 16, 42) :: (lk_X5_init_42 ++ ((1, 15, 39) :: (lk_X8_init_39 ++ ((1, 14, 35) :: (lk_X7_init_35 ++ ((1, 12, 34) :: ((1, 11, 33) :: ((1, 10, 27) :: (lk_X2_init_27 ++ ((1, 9, 21) :: (lk_X2_init_21 ++ ((1, 8, 15) :: (lk_X0_init_15 ++ ((1, 7, 9) :: (lk_X0_init_9 ++ ((1, 6, 7) :: (lk_X3_init_7 ++ ((1, 5, 6) :: ((1, 4, 3) :: (lk_X6_init_3 ++ ((1, 3, 2) :: ([]))))))))))))))))))))))))))))))))))))))))) (zR (uR R375 34 (Int32.toNatClampNeg 0) 67) 73) := hK385.z rfl
  have hF391 : FR 1 R (zR (uR R375 34 (Int32.toNatClampNeg 0) 67) 73) := hF386.z rfl
  refine ct_X0_init_73 hB387 (fun I392 J393 R394 hB395 hF396 hK397 hI398 hZ399 => ?_)
  have hZ400 : KI (zk_X0_init_73 ++ (zk_X2_init_67 ++ (zk_X0_init_61 ++ (zk_X10_init_59 ++ (zk_X10_init_57 ++ (zk_X10_init_55 ++ (zk_X10_init_53 ++ (zk_X4_init_51 ++ (zk_X4_init_49 ++ (zk_X9_init_45 ++ (zk_X5_init_42 ++ (zk_X8_init_39 ++ (zk_X7_init_35 ++ (zk_X2_init_27 ++ (zk_X2_init_21 ++ (zk_X0_init_15 ++ (zk_X0_init_9 ++ (zk_X3_init_7 ++ (zk_X1_init_6 ++ (zk_X6_init_3 ++ ([]))))))))))))))))))))) I392 := hZ399.app (hZ388.fr hI398 rfl)
  have hI401 : FI 1 I I392 := fun o ho => (hI398 o (by omega)).trans (hI389 o ho)
  have hK402 : RK (lk_X0_init_73 ++ ((34, 0, 67) :: (lk_X2_init_67 ++ ((33, 0, 61) :: (lk_X0_init_61 ++ ((2, 3, 59) :: (lk_X10_init_59 ++ ((2, 2, 57) :: (lk_X10_init_57 ++ ((2, 1, 55) :: (lk_X10_init_55 ++ ((2, 0, 53) :: (lk_X10_init_53 ++ ((1, 19, 51) :: (lk_X4_init_51 ++ ((1, 18, 49) :: (lk_X4_init_49 ++ ((1, 17, 45) :: (lk_X9_init_45 ++ ((1, 16, 42) :: (lk_X5_init_42 ++ ((1, 15, 39) :: (lk_X8_init_39 ++ ((1, 14, 35) :: (lk_X7_init_35 ++ ((1, 12, 34) :: ((1, 11, 33) :: ((1, 10, 27) :: (lk_X2_init_27 ++ ((1, 9, 21) :: (lk_X2_init_21 ++ ((1, 8, 15) :: (lk_X0_init_15 ++ ((1, 7, 9) :: (lk_X0_init_9 ++ ((1, 6, 7) :: (lk_X3_init_7 ++ ((1, 5, 6) :: ((1, 4, 3) :: (lk_X6_init_3 ++ ((1, 3, 2) :: ([])))))))))))))))))))))))))))))))))))))))))) R394 := hK397.app (hK390.fr hF396 rfl)
  have hF403 : FR 1 R R394 := fun o ho => (hF396 o (by omega)).trans (hF391 o ho)
  refine ⟨vp_of rfl (by decide) (by decide), ?_⟩
  have hK404 : RK ((33, 1, 73) :: (lk_X0_init_73 ++ ((34, 0, 67) :: (lk_X2_init_67 ++ ((33, 0, 61) :: (lk_X0_init_61 ++ ((2, 3, 59) :: (lk_X10_init_59 ++ ((2, 2, 57) :: (lk_X10_init_57 ++ ((2, 1, 55) :: (lk_X10_init_55 ++ ((2, 0, 53) :: (lk_X10_init_53 ++ ((1, 19, 51) :: (lk_X4_init_51 ++ ((1, 18, 49) :: (lk_X4_init_49 ++ ((1, 17, 45) :: (lk_X9_init_45 ++ ((1, 16, 42) :: (lk_X5_init_42 ++ ((1, 15, 39) :: (lk_X8_init_39 ++ ((1, 14, 35) :: (lk_X7_init_35 ++ ((1, 12, 34) :: ((1, 11, 33) :: ((1, 10, 27) :: (lk_X2_init_27 ++ ((1, 9, 21) :: (lk_X2_init_21 ++ ((1, 8, 15) :: (lk_X0_init_15 ++ ((1, 7, 9) :: (lk_X0_init_9 ++ ((1, 6, 7) :: (lk_X3_init_7 ++ ((1, 5, 6) :: ((1, 4, 3) :: (lk_X6_init_3 ++ ((1, 3, 2) :: ([]))))))))))))))))))))))))))))))))))))))))))) (uR R394 33 (Int32.toNatClampNeg (0 + 1)) 73) := hK402.u rfl
  have hF405 : FR 1 R (uR R394 33 (Int32.toNatClampNeg (0 + 1)) 73) := hF403.u rfl
  refine ⟨hK404.ne (show lkq ((33, 1, 73) :: (lk_X0_init_73 ++ ((34, 0, 67) :: (lk_X2_init_67 ++ ((33, 0, 61) :: (lk_X0_init_61 ++ ((2, 3, 59) :: (lk_X10_init_59 ++ ((2, 2, 57) :: (lk_X10_init_57 ++ ((2, 1, 55) :: (lk_X10_init_55 ++ ((2, 0, 53) :: (lk_X10_init_53 ++ ((1, 19, 51) :: (lk_X4_init_51 ++ ((1, 18, 49) :: (lk_X4_init_49 ++ ((1, 17, 45) :: (lk_X9_init_45 ++ ((1, 16, 42) :: (lk_X5_init_42 ++ ((1, 15, 39) :: (lk_X8_init_39 ++ ((1, 14, 35) :: (lk_X7_init_35 ++ ((1, 12, 34) :: ((1, 11, 33) :: ((1, 10, 27) :: (lk_X2_init_27 ++ ((1, 9, 21) :: (lk_X2_init_21 ++ ((1, 8, 15) :: (lk_X0_init_15 ++ ((1, 7, 9) :: (lk_X0_init_9 ++ ((1, 6, 7) :: (lk_X3_init_7 ++ ((1, 5, 6) :: ((1, 4, 3) :: (lk_X6_init_3 ++ ((1, 3, 2) :: ([]))))))))))))))))))))))))))))))))))))))))))) 1 12 = true from rfl), ?_⟩
  have hB406 : BZ (zI I392 79) := hB395.z
  have hZ407 : KI (zk_X0_init_73 ++ (zk_X2_init_67 ++ (zk_X0_init_61 ++ (zk_X10_init_59 ++ (zk_X10_init_57 ++ (zk_X10_init_55 ++ (zk_X10_init_53 ++ (zk_X4_init_51 ++ (zk_X4_init_49 ++ (zk_X9_init_45 ++ (zk_X5_init_42 ++ (zk_X8_init_39 ++ (zk_X7_init_35 ++ (zk_X2_init_27 ++ (zk_X2_init_21 ++ (zk_X0_init_15 ++ (zk_X0_init_9 ++ (zk_X3_init_7 ++ (zk_X1_init_6 ++ (zk_X6_init_3 ++ ([]))))))))))))))))))))) (zI I392 79) := hZ400.z rfl
  have hI408 : FI 1 I (zI I392 79) := hI401.z rfl
  have hK409 : RK ((33, 1, 73) :: (lk_X0_init_73 ++ ((34, 0, 67) :: (lk_X2_init_67 ++ ((33, 0, 61) :: (lk_X0_init_61 ++ ((2, 3, 59) :: (lk_X10_init_59 ++ ((2, 2, 57) :: (lk_X10_init_57 ++ ((2, 1, 55) :: (lk_X10_init_55 ++ ((2, 0, 53) :: (lk_X10_init_53 ++ ((1, 19, 51) :: (lk_X4_init_51 ++ ((1, 18, 49) :: (lk_X4_init_49 ++ ((1, 17, 45) :: (lk_X9_init_45 ++ ((1, 16, 42) :: (lk_X5_init_42 ++ ((1, 15, 39) :: (lk_X8_init_39 ++ ((1, 14, 35) :: (lk_X7_init_35 ++ ((1, 12, 34) :: ((1, 11, 33) :: ((1, 10, 27) :: (lk_X2_init_27 ++ ((1, 9, 21) :: (lk_X2_init_21 ++ ((1, 8, 15) :: (lk_X0_init_15 ++ ((1, 7, 9) :: (lk_X0_init_9 ++ ((1, 6, 7) :: (lk_X3_init_7 ++ ((1, 5, 6) :: ((1, 4, 3) :: (lk_X6_init_3 ++ ((1, 3, 2) :: ([]))))))))))))))))))))))))))))))))))))))))))) (zR (uR R394 33 (Int32.toNatClampNeg (0 + 1)) 73) 79) := hK404.z rfl
  have hF410 : FR 1 R (zR (uR R394 33 (Int32.toNatClampNeg (0 + 1)) 73) 79) := hF405.z rfl
  refine ct_X2_init_79 hB406 (fun I411 J412 R413 hB414 hF415 hK416 hI417 hZ418 => ?_)
  have hZ419 : KI (zk_X2_init_79 ++ (zk_X0_init_73 ++ (zk_X2_init_67 ++ (zk_X0_init_61 ++ (zk_X10_init_59 ++ (zk_X10_init_57 ++ (zk_X10_init_55 ++ (zk_X10_init_53 ++ (zk_X4_init_51 ++ (zk_X4_init_49 ++ (zk_X9_init_45 ++ (zk_X5_init_42 ++ (zk_X8_init_39 ++ (zk_X7_init_35 ++ (zk_X2_init_27 ++ (zk_X2_init_21 ++ (zk_X0_init_15 ++ (zk_X0_init_9 ++ (zk_X3_init_7 ++ (zk_X1_init_6 ++ (zk_X6_init_3 ++ ([])))))))))))))))))))))) I411 := hZ418.app (hZ407.fr hI417 rfl)
  have hI420 : FI 1 I I411 := fun o ho => (hI417 o (by omega)).trans (hI408 o ho)
  have hK421 : RK (lk_X2_init_79 ++ ((33, 1, 73) :: (lk_X0_init_73 ++ ((34, 0, 67) :: (lk_X2_init_67 ++ ((33, 0, 61) :: (lk_X0_init_61 ++ ((2, 3, 59) :: (lk_X10_init_59 ++ ((2, 2, 57) :: (lk_X10_init_57 ++ ((2, 1, 55) :: (lk_X10_init_55 ++ ((2, 0, 53) :: (lk_X10_init_53 ++ ((1, 19, 51) :: (lk_X4_init_51 ++ ((1, 18, 49) :: (lk_X4_init_49 ++ ((1, 17, 45) :: (lk_X9_init_45 ++ ((1, 16, 42) :: (lk_X5_init_42 ++ ((1, 15, 39) :: (lk_X8_init_39 ++ ((1, 14, 35) :: (lk_X7_init_35 ++ ((1, 12, 34) :: ((1, 11, 33) :: ((1, 10, 27) :: (lk_X2_init_27 ++ ((1, 9, 21) :: (lk_X2_init_21 ++ ((1, 8, 15) :: (lk_X0_init_15 ++ ((1, 7, 9) :: (lk_X0_init_9 ++ ((1, 6, 7) :: (lk_X3_init_7 ++ ((1, 5, 6) :: ((1, 4, 3) :: (lk_X6_init_3 ++ ((1, 3, 2) :: ([])))))))))))))))))))))))))))))))))))))))))))) R413 := hK416.app (hK409.fr hF415 rfl)
  have hF422 : FR 1 R R413 := fun o ho => (hF415 o (by omega)).trans (hF410 o ho)
  refine ⟨vp_of rfl (by decide) (by decide), ?_⟩
  have hK423 : RK ((34, 1, 79) :: (lk_X2_init_79 ++ ((33, 1, 73) :: (lk_X0_init_73 ++ ((34, 0, 67) :: (lk_X2_init_67 ++ ((33, 0, 61) :: (lk_X0_init_61 ++ ((2, 3, 59) :: (lk_X10_init_59 ++ ((2, 2, 57) :: (lk_X10_init_57 ++ ((2, 1, 55) :: (lk_X10_init_55 ++ ((2, 0, 53) :: (lk_X10_init_53 ++ ((1, 19, 51) :: (lk_X4_init_51 ++ ((1, 18, 49) :: (lk_X4_init_49 ++ ((1, 17, 45) :: (lk_X9_init_45 ++ ((1, 16, 42) :: (lk_X5_init_42 ++ ((1, 15, 39) :: (lk_X8_init_39 ++ ((1, 14, 35) :: (lk_X7_init_35 ++ ((1, 12, 34) :: ((1, 11, 33) :: ((1, 10, 27) :: (lk_X2_init_27 ++ ((1, 9, 21) :: (lk_X2_init_21 ++ ((1, 8, 15) :: (lk_X0_init_15 ++ ((1, 7, 9) :: (lk_X0_init_9 ++ ((1, 6, 7) :: (lk_X3_init_7 ++ ((1, 5, 6) :: ((1, 4, 3) :: (lk_X6_init_3 ++ ((1, 3, 2) :: ([]))))))))))))))))))))))))))))))))))))))))))))) (uR R413 34 (Int32.toNatClampNeg (0 + 1)) 79) := hK421.u rfl
  have hF424 : FR 1 R (uR R413 34 (Int32.toNatClampNeg (0 + 1)) 79) := hF422.u rfl
  refine cs_X11_init_1_219_84 hc _ _ _ ?_
  refine ⟨fun c => absurd c (by decide), fun _ => ?_⟩
  refine ⟨hK423.ne (show lkq ((34, 1, 79) :: (lk_X2_init_79 ++ ((33, 1, 73) :: (lk_X0_init_73 ++ ((34, 0, 67) :: (lk_X2_init_67 ++ ((33, 0, 61) :: (lk_X0_init_61 ++ ((2, 3, 59) :: (lk_X10_init_59 ++ ((2, 2, 57) :: (lk_X10_init_57 ++ ((2, 1, 55) :: (lk_X10_init_55 ++ ((2, 0, 53) :: (lk_X10_init_53 ++ ((1, 19, 51) :: (lk_X4_init_51 ++ ((1, 18, 49) :: (lk_X4_init_49 ++ ((1, 17, 45) :: (lk_X9_init_45 ++ ((1, 16, 42) :: (lk_X5_init_42 ++ ((1, 15, 39) :: (lk_X8_init_39 ++ ((1, 14, 35) :: (lk_X7_init_35 ++ ((1, 12, 34) :: ((1, 11, 33) :: ((1, 10, 27) :: (lk_X2_init_27 ++ ((1, 9, 21) :: (lk_X2_init_21 ++ ((1, 8, 15) :: (lk_X0_init_15 ++ ((1, 7, 9) :: (lk_X0_init_9 ++ ((1, 6, 7) :: (lk_X3_init_7 ++ ((1, 5, 6) :: ((1, 4, 3) :: (lk_X6_init_3 ++ ((1, 3, 2) :: ([]))))))))))))))))))))))))))))))))))))))))))))) 1 11 = true from rfl), ?_⟩
  have hB425 : BZ (zI I411 85) := hB414.z
  have hZ426 : KI (zk_X2_init_79 ++ (zk_X0_init_73 ++ (zk_X2_init_67 ++ (zk_X0_init_61 ++ (zk_X10_init_59 ++ (zk_X10_init_57 ++ (zk_X10_init_55 ++ (zk_X10_init_53 ++ (zk_X4_init_51 ++ (zk_X4_init_49 ++ (zk_X9_init_45 ++ (zk_X5_init_42 ++ (zk_X8_init_39 ++ (zk_X7_init_35 ++ (zk_X2_init_27 ++ (zk_X2_init_21 ++ (zk_X0_init_15 ++ (zk_X0_init_9 ++ (zk_X3_init_7 ++ (zk_X1_init_6 ++ (zk_X6_init_3 ++ ([])))))))))))))))))))))) (zI I411 85) := hZ419.z rfl
  have hI427 : FI 1 I (zI I411 85) := hI420.z rfl
  have hK428 : RK ((34, 1, 79) :: (lk_X2_init_79 ++ ((33, 1, 73) :: (lk_X0_init_73 ++ ((34, 0, 67) :: (lk_X2_init_67 ++ ((33, 0, 61) :: (lk_X0_init_61 ++ ((2, 3, 59) :: (lk_X10_init_59 ++ ((2, 2, 57) :: (lk_X10_init_57 ++ ((2, 1, 55) :: (lk_X10_init_55 ++ ((2, 0, 53) :: (lk_X10_init_53 ++ ((1, 19, 51) :: (lk_X4_init_51 ++ ((1, 18, 49) :: (lk_X4_init_49 ++ ((1, 17, 45) :: (lk_X9_init_45 ++ ((1, 16, 42) :: (lk_X5_init_42 ++ ((1, 15, 39) :: (lk_X8_init_39 ++ ((1, 14, 35) :: (lk_X7_init_35 ++ ((1, 12, 34) :: ((1, 11, 33) :: ((1, 10, 27) :: (lk_X2_init_27 ++ ((1, 9, 21) :: (lk_X2_init_21 ++ ((1, 8, 15) :: (lk_X0_init_15 ++ ((1, 7, 9) :: (lk_X0_init_9 ++ ((1, 6, 7) :: (lk_X3_init_7 ++ ((1, 5, 6) :: ((1, 4, 3) :: (lk_X6_init_3 ++ ((1, 3, 2) :: ([]))))))))))))))))))))))))))))))))))))))))))))) (zR (uR R413 34 (Int32.toNatClampNeg (0 + 1)) 79) 85) := hK423.z rfl
  have hF429 : FR 1 R (zR (uR R413 34 (Int32.toNatClampNeg (0 + 1)) 79) 85) := hF424.z rfl
  refine ct_X0_init_85 hB425 (fun I430 J431 R432 hB433 hF434 hK435 hI436 hZ437 => ?_)
  have hZ438 : KI (zk_X0_init_85 ++ (zk_X2_init_79 ++ (zk_X0_init_73 ++ (zk_X2_init_67 ++ (zk_X0_init_61 ++ (zk_X10_init_59 ++ (zk_X10_init_57 ++ (zk_X10_init_55 ++ (zk_X10_init_53 ++ (zk_X4_init_51 ++ (zk_X4_init_49 ++ (zk_X9_init_45 ++ (zk_X5_init_42 ++ (zk_X8_init_39 ++ (zk_X7_init_35 ++ (zk_X2_init_27 ++ (zk_X2_init_21 ++ (zk_X0_init_15 ++ (zk_X0_init_9 ++ (zk_X3_init_7 ++ (zk_X1_init_6 ++ (zk_X6_init_3 ++ ([]))))))))))))))))))))))) I430 := hZ437.app (hZ426.fr hI436 rfl)
  have hI439 : FI 1 I I430 := fun o ho => (hI436 o (by omega)).trans (hI427 o ho)
  have hK440 : RK (lk_X0_init_85 ++ ((34, 1, 79) :: (lk_X2_init_79 ++ ((33, 1, 73) :: (lk_X0_init_73 ++ ((34, 0, 67) :: (lk_X2_init_67 ++ ((33, 0, 61) :: (lk_X0_init_61 ++ ((2, 3, 59) :: (lk_X10_init_59 ++ ((2, 2, 57) :: (lk_X10_init_57 ++ ((2, 1, 55) :: (lk_X10_init_55 ++ ((2, 0, 53) :: (lk_X10_init_53 ++ ((1, 19, 51) :: (lk_X4_init_51 ++ ((1, 18, 49) :: (lk_X4_init_49 ++ ((1, 17, 45) :: (lk_X9_init_45 ++ ((1, 16, 42) :: (lk_X5_init_42 ++ ((1, 15, 39) :: (lk_X8_init_39 ++ ((1, 14, 35) :: (lk_X7_init_35 ++ ((1, 12, 34) :: ((1, 11, 33) :: ((1, 10, 27) :: (lk_X2_init_27 ++ ((1, 9, 21) :: (lk_X2_init_21 ++ ((1, 8, 15) :: (lk_X0_init_15 ++ ((1, 7, 9) :: (lk_X0_init_9 ++ ((1, 6, 7) :: (lk_X3_init_7 ++ ((1, 5, 6) :: ((1, 4, 3) :: (lk_X6_init_3 ++ ((1, 3, 2) :: ([])))))))))))))))))))))))))))))))))))))))))))))) R432 := hK435.app (hK428.fr hF434 rfl)
  have hF441 : FR 1 R R432 := fun o ho => (hF434 o (by omega)).trans (hF429 o ho)
  refine ⟨vp_of rfl (by decide) (by decide), ?_⟩
  have hK442 : RK ((33, 2, 85) :: (lk_X0_init_85 ++ ((34, 1, 79) :: (lk_X2_init_79 ++ ((33, 1, 73) :: (lk_X0_init_73 ++ ((34, 0, 67) :: (lk_X2_init_67 ++ ((33, 0, 61) :: (lk_X0_init_61 ++ ((2, 3, 59) :: (lk_X10_init_59 ++ ((2, 2, 57) :: (lk_X10_init_57 ++ ((2, 1, 55) :: (lk_X10_init_55 ++ ((2, 0, 53) :: (lk_X10_init_53 ++ ((1, 19, 51) :: (lk_X4_init_51 ++ ((1, 18, 49) :: (lk_X4_init_49 ++ ((1, 17, 45) :: (lk_X9_init_45 ++ ((1, 16, 42) :: (lk_X5_init_42 ++ ((1, 15, 39) :: (lk_X8_init_39 ++ ((1, 14, 35) :: (lk_X7_init_35 ++ ((1, 12, 34) :: ((1, 11, 33) :: ((1, 10, 27) :: (lk_X2_init_27 ++ ((1, 9, 21) :: (lk_X2_init_21 ++ ((1, 8, 15) :: (lk_X0_init_15 ++ ((1, 7, 9) :: (lk_X0_init_9 ++ ((1, 6, 7) :: (lk_X3_init_7 ++ ((1, 5, 6) :: ((1, 4, 3) :: (lk_X6_init_3 ++ ((1, 3, 2) :: ([]))))))))))))))))))))))))))))))))))))))))))))))) (uR R432 33 (Int32.toNatClampNeg ((0 + 1) + 1)) 85) := hK440.u rfl
  have hF443 : FR 1 R (uR R432 33 (Int32.toNatClampNeg ((0 + 1) + 1)) 85) := hF441.u rfl
  refine ⟨hK442.ne (show lkq ((33, 2, 85) :: (lk_X0_init_85 ++ ((34, 1, 79) :: (lk_X2_init_79 ++ ((33, 1, 73) :: (lk_X0_init_73 ++ ((34, 0, 67) :: (lk_X2_init_67 ++ ((33, 0, 61) :: (lk_X0_init_61 ++ ((2, 3, 59) :: (lk_X10_init_59 ++ ((2, 2, 57) :: (lk_X10_init_57 ++ ((2, 1, 55) :: (lk_X10_init_55 ++ ((2, 0, 53) :: (lk_X10_init_53 ++ ((1, 19, 51) :: (lk_X4_init_51 ++ ((1, 18, 49) :: (lk_X4_init_49 ++ ((1, 17, 45) :: (lk_X9_init_45 ++ ((1, 16, 42) :: (lk_X5_init_42 ++ ((1, 15, 39) :: (lk_X8_init_39 ++ ((1, 14, 35) :: (lk_X7_init_35 ++ ((1, 12, 34) :: ((1, 11, 33) :: ((1, 10, 27) :: (lk_X2_init_27 ++ ((1, 9, 21) :: (lk_X2_init_21 ++ ((1, 8, 15) :: (lk_X0_init_15 ++ ((1, 7, 9) :: (lk_X0_init_9 ++ ((1, 6, 7) :: (lk_X3_init_7 ++ ((1, 5, 6) :: ((1, 4, 3) :: (lk_X6_init_3 ++ ((1, 3, 2) :: ([]))))))))))))))))))))))))))))))))))))))))))))))) 1 12 = true from rfl), ?_⟩
  have hB444 : BZ (zI I430 91) := hB433.z
  have hZ445 : KI (zk_X0_init_85 ++ (zk_X2_init_79 ++ (zk_X0_init_73 ++ (zk_X2_init_67 ++ (zk_X0_init_61 ++ (zk_X10_init_59 ++ (zk_X10_init_57 ++ (zk_X10_init_55 ++ (zk_X10_init_53 ++ (zk_X4_init_51 ++ (zk_X4_init_49 ++ (zk_X9_init_45 ++ (zk_X5_init_42 ++ (zk_X8_init_39 ++ (zk_X7_init_35 ++ (zk_X2_init_27 ++ (zk_X2_init_21 ++ (zk_X0_init_15 ++ (zk_X0_init_9 ++ (zk_X3_init_7 ++ (zk_X1_init_6 ++ (zk_X6_init_3 ++ ([]))))))))))))))))))))))) (zI I430 91) := hZ438.z rfl
  have hI446 : FI 1 I (zI I430 91) := hI439.z rfl
  have hK447 : RK ((33, 2, 85) :: (lk_X0_init_85 ++ ((34, 1, 79) :: (lk_X2_init_79 ++ ((33, 1, 73) :: (lk_X0_init_73 ++ ((34, 0, 67) :: (lk_X2_init_67 ++ ((33, 0, 61) :: (lk_X0_init_61 ++ ((2, 3, 59) :: (lk_X10_init_59 ++ ((2, 2, 57) :: (lk_X10_init_57 ++ ((2, 1, 55) :: (lk_X10_init_55 ++ ((2, 0, 53) :: (lk_X10_init_53 ++ ((1, 19, 51) :: (lk_X4_init_51 ++ ((1, 18, 49) :: (lk_X4_init_49 ++ ((1, 17, 45) :: (lk_X9_init_45 ++ ((1, 16, 42) :: (lk_X5_init_42 ++ ((1, 15, 39) :: (lk_X8_init_39 ++ ((1, 14, 35) :: (lk_X7_init_35 ++ ((1, 12, 34) :: ((1, 11, 33) :: ((1, 10, 27) :: (lk_X2_init_27 ++ ((1, 9, 21) :: (lk_X2_init_21 ++ ((1, 8, 15) :: (lk_X0_init_15 ++ ((1, 7, 9) :: (lk_X0_init_9 ++ ((1, 6, 7) :: (lk_X3_init_7 ++ ((1, 5, 6) :: ((1, 4, 3) :: (lk_X6_init_3 ++ ((1, 3, 2) :: ([]))))))))))))))))))))))))))))))))))))))))))))))) (zR (uR R432 33 (Int32.toNatClampNeg ((0 + 1) + 1)) 85) 91) := hK442.z rfl
  have hF448 : FR 1 R (zR (uR R432 33 (Int32.toNatClampNeg ((0 + 1) + 1)) 85) 91) := hF443.z rfl
  refine ct_X2_init_91 hB444 (fun I449 J450 R451 hB452 hF453 hK454 hI455 hZ456 => ?_)
  have hZ457 : KI (zk_X2_init_91 ++ (zk_X0_init_85 ++ (zk_X2_init_79 ++ (zk_X0_init_73 ++ (zk_X2_init_67 ++ (zk_X0_init_61 ++ (zk_X10_init_59 ++ (zk_X10_init_57 ++ (zk_X10_init_55 ++ (zk_X10_init_53 ++ (zk_X4_init_51 ++ (zk_X4_init_49 ++ (zk_X9_init_45 ++ (zk_X5_init_42 ++ (zk_X8_init_39 ++ (zk_X7_init_35 ++ (zk_X2_init_27 ++ (zk_X2_init_21 ++ (zk_X0_init_15 ++ (zk_X0_init_9 ++ (zk_X3_init_7 ++ (zk_X1_init_6 ++ (zk_X6_init_3 ++ ([])))))))))))))))))))))))) I449 := hZ456.app (hZ445.fr hI455 rfl)
  have hI458 : FI 1 I I449 := fun o ho => (hI455 o (by omega)).trans (hI446 o ho)
  have hK459 : RK (lk_X2_init_91 ++ ((33, 2, 85) :: (lk_X0_init_85 ++ ((34, 1, 79) :: (lk_X2_init_79 ++ ((33, 1, 73) :: (lk_X0_init_73 ++ ((34, 0, 67) :: (lk_X2_init_67 ++ ((33, 0, 61) :: (lk_X0_init_61 ++ ((2, 3, 59) :: (lk_X10_init_59 ++ ((2, 2, 57) :: (lk_X10_init_57 ++ ((2, 1, 55) :: (lk_X10_init_55 ++ ((2, 0, 53) :: (lk_X10_init_53 ++ ((1, 19, 51) :: (lk_X4_init_51 ++ ((1, 18, 49) :: (lk_X4_init_49 ++ ((1, 17, 45) :: (lk_X9_init_45 ++ ((1, 16, 42) :: (lk_X5_init_42 ++ ((1, 15, 39) :: (lk_X8_init_39 ++ ((1, 14, 35) :: (lk_X7_init_35 ++ ((1, 12, 34) :: ((1, 11, 33) :: ((1, 10, 27) :: (lk_X2_init_27 ++ ((1, 9, 21) :: (lk_X2_init_21 ++ ((1, 8, 15) :: (lk_X0_init_15 ++ ((1, 7, 9) :: (lk_X0_init_9 ++ ((1, 6, 7) :: (lk_X3_init_7 ++ ((1, 5, 6) :: ((1, 4, 3) :: (lk_X6_init_3 ++ ((1, 3, 2) :: ([])))))))))))))))))))))))))))))))))))))))))))))))) R451 := hK454.app (hK447.fr hF453 rfl)
  have hF460 : FR 1 R R451 := fun o ho => (hF453 o (by omega)).trans (hF448 o ho)
  refine ⟨vp_of rfl (by decide) (by decide), ?_⟩
  have hK461 : RK ((34, 2, 91) :: (lk_X2_init_91 ++ ((33, 2, 85) :: (lk_X0_init_85 ++ ((34, 1, 79) :: (lk_X2_init_79 ++ ((33, 1, 73) :: (lk_X0_init_73 ++ ((34, 0, 67) :: (lk_X2_init_67 ++ ((33, 0, 61) :: (lk_X0_init_61 ++ ((2, 3, 59) :: (lk_X10_init_59 ++ ((2, 2, 57) :: (lk_X10_init_57 ++ ((2, 1, 55) :: (lk_X10_init_55 ++ ((2, 0, 53) :: (lk_X10_init_53 ++ ((1, 19, 51) :: (lk_X4_init_51 ++ ((1, 18, 49) :: (lk_X4_init_49 ++ ((1, 17, 45) :: (lk_X9_init_45 ++ ((1, 16, 42) :: (lk_X5_init_42 ++ ((1, 15, 39) :: (lk_X8_init_39 ++ ((1, 14, 35) :: (lk_X7_init_35 ++ ((1, 12, 34) :: ((1, 11, 33) :: ((1, 10, 27) :: (lk_X2_init_27 ++ ((1, 9, 21) :: (lk_X2_init_21 ++ ((1, 8, 15) :: (lk_X0_init_15 ++ ((1, 7, 9) :: (lk_X0_init_9 ++ ((1, 6, 7) :: (lk_X3_init_7 ++ ((1, 5, 6) :: ((1, 4, 3) :: (lk_X6_init_3 ++ ((1, 3, 2) :: ([]))))))))))))))))))))))))))))))))))))))))))))))))) (uR R451 34 (Int32.toNatClampNeg ((0 + 1) + 1)) 91) := hK459.u rfl
  have hF462 : FR 1 R (uR R451 34 (Int32.toNatClampNeg ((0 + 1) + 1)) 91) := hF460.u rfl
  refine cs_X11_init_1_219_96 hc _ _ _ ?_
  refine ⟨fun _ => ?_, fun c => absurd (by decide) c⟩
  exact ⟨rfl, fun z => absurd z (by decide), hQ _ _ _ hB452 hF462 hK461 hI458 hZ457⟩
def zk_X12_init_97 : List (Nat × Nat × Int32) := (99, 3, -1) :: ((99, 2, -1) :: ((99, 1, -1) :: ((99, 0, -1) :: (zk_X11_init_1))))
def lk_X12_init_97 : List (Nat × Nat × Nat) := (97, 39, 112) :: ((97, 38, 111) :: ((97, 37, 110) :: ((97, 36, 109) :: ((97, 35, 108) :: ((97, 30, 107) :: ((97, 29, 106) :: ((97, 28, 105) :: ((97, 22, 104) :: ((97, 21, 103) :: ((97, 20, 102) :: ((97, 7, 101) :: ((97, 6, 100) :: ((97, 5, 99) :: ((97, 4, 98) :: ([])))))))))))))))
theorem getD_out {α : Type} {l : List α} {n : Nat} {d : α} (h : l.length ≤ n) : l.getD n d = d := by rw [List.getD_eq_getElem?_getD, List.getElem?_eq_none h]; rfl
def lkA : List (Nat × Nat × Nat) := lk_X12_init_97 ++ lk_X11_init_1
theorem fl_of {R : Rm} (h : RK lkA R) : Fl R := by
  have h1 : ((List.range 112).all fun i => (List.range 60).all fun k => !(Nat.beq (fkd (shl.getD i (999, 0)).1 k) 4) || lkq lkA (i + 1) k) = true := by decide +kernel
  have h2 : ∀ ci, ci < 1000 → (fkl.getD ci []).length ≤ 60 := by decide +kernel
  have h3 : shl.length = 112 := by decide +kernel
  have h4 : ∀ i, i < 112 → (shl.getD i (999, 0)).1 < 1000 := by decide +kernel
  intro i k hk
  have hi : i < 112 := by
    rcases Nat.lt_or_ge i 112 with q | q
    · exact q
    · rw [getD_out (by omega)] at hk
      have : fkd 999 k = 9 := by
        unfold fkd
        rw [getD_out (l := fkl) (by decide)]; rfl
      rw [show ((999, 0) : Nat × Nat).1 = 999 from rfl, this] at hk
      omega
  have hk6 : k < 60 := by
    rcases Nat.lt_or_ge k 60 with q | q
    · exact q
    · have h5 := h2 _ (h4 i hi)
      unfold fkd at hk
      rw [getD_out (by omega)] at hk
      omega
  have h5 := List.all_eq_true.mp (List.all_eq_true.mp h1 i (List.mem_range.mpr hi)) k (List.mem_range.mpr hk6)
  rw [hk] at h5
  exact h.ne h5
theorem ri_of {R : Rm} (h : RK lkA R) : RI R := by
  have a : ∀ o k v : Nat, lkA.contains (o, k, v) = true → R o k = v := fun o k v q => h.at q
  refine ⟨?_, ?_, ?_, ?_, fun j hj => ?_, fun j hj => ?_, fun j hj => ?_, fun j hj => ?_⟩
  · rw [a 1 7 9 rfl]; decide
  · rw [a 1 8 15 rfl]; decide
  · rw [a 1 9 21 rfl]; decide
  · rw [a 1 10 27 rfl]; decide
  · rcases (show j = 0 ∨ j = 1 ∨ j = 2 ∨ j = 3 by omega) with q | q | q | q <;> subst q
    · rw [a 2 0 53 rfl]; decide
    · rw [a 2 1 55 rfl]; decide
    · rw [a 2 2 57 rfl]; decide
    · rw [a 2 3 59 rfl]; decide
  · rcases (show j = 0 ∨ j = 1 ∨ j = 2 by omega) with q | q | q <;> subst q
    · rw [a 33 0 61 rfl]; decide
    · rw [a 33 1 73 rfl]; decide
    · rw [a 33 2 85 rfl]; decide
  · rcases (show j = 0 ∨ j = 1 ∨ j = 2 by omega) with q | q | q <;> subst q
    · rw [a 34 0 67 rfl]; decide
    · rw [a 34 1 79 rfl]; decide
    · rw [a 34 2 91 rfl]; decide
  · rcases (show j = 0 ∨ j = 1 ∨ j = 2 ∨ j = 3 by omega) with q | q | q | q <;> subst q
    · exact a 2 0 53 rfl
    · exact a 2 1 55 rfl
    · exact a 2 2 57 rfl
    · exact a 2 3 59 rfl
set_option maxHeartbeats 4000000 in
set_option maxRecDepth 100000 in
theorem ct_X12_init_97 {d : Nat} {Q : Qt} {I : Im} {J : Jm} {R : Rm} (hB : BZ I) (hL : RK lk_X11_init_1 R) (hZ0 : KI zk_X11_init_1 I) (hQ : ∀ (I2 : Im) (J2 : Jm) (R2 : Rm), Bd I2 → FR 97 R R2 → RK lk_X12_init_97 R2 → RLk I2 → Q 0 0 I2 J2 R2) : AM (d + 2) 172 97 [.ref 97] I J R Q := by
  refine amc_of (k := kX12_init) rfl rfl rfl rfl rfl rfl (Nat.le_of_ble_eq_true rfl) (fun P hc => ?_)
  refine cs_X12_init_97_0_97 hc _ _ _ ?_
  refine ⟨rfl, ?_⟩
  have hB1 : BZ (zI I 98) := hB.z
  have hZ2 : KI (zk_X11_init_1) (zI I 98) := hZ0.z rfl
  have hI3 : FI 97 I (zI I 98) := (FI.refl 97 I).z rfl
  have hK4 : RK ([]) (zR R 98) := (RK.nil (R := R)).z rfl
  have hF5 : FR 97 R (zR R 98) := (FR.refl 97 R).z rfl
  have hK6 : RK ((97, 4, 98) :: ([])) (uR (zR R 98) 97 4 98) := hK4.u rfl
  have hF7 : FR 97 R (uR (zR R 98) 97 4 98) := hF5.u rfl
  refine ⟨rfl, ?_⟩
  have hB8 : BZ (zI (zI I 98) 99) := hB1.z
  have hZ9 : KI (zk_X11_init_1) (zI (zI I 98) 99) := hZ2.z rfl
  have hI10 : FI 97 I (zI (zI I 98) 99) := hI3.z rfl
  have hK11 : RK ((97, 4, 98) :: ([])) (zR (uR (zR R 98) 97 4 98) 99) := hK6.z rfl
  have hF12 : FR 97 R (zR (uR (zR R 98) 97 4 98) 99) := hF7.z rfl
  have hK13 : RK ((97, 5, 99) :: ((97, 4, 98) :: ([]))) (uR (zR (uR (zR R 98) 97 4 98) 99) 97 5 99) := hK11.u rfl
  have hF14 : FR 97 R (uR (zR (uR (zR R 98) 97 4 98) 99) 97 5 99) := hF12.u rfl
  refine ⟨rfl, ?_⟩
  have hB15 : BZ (zI (zI (zI I 98) 99) 100) := hB8.z
  have hZ16 : KI (zk_X11_init_1) (zI (zI (zI I 98) 99) 100) := hZ9.z rfl
  have hI17 : FI 97 I (zI (zI (zI I 98) 99) 100) := hI10.z rfl
  have hK18 : RK ((97, 5, 99) :: ((97, 4, 98) :: ([]))) (zR (uR (zR (uR (zR R 98) 97 4 98) 99) 97 5 99) 100) := hK13.z rfl
  have hF19 : FR 97 R (zR (uR (zR (uR (zR R 98) 97 4 98) 99) 97 5 99) 100) := hF14.z rfl
  have hK20 : RK ((97, 6, 100) :: ((97, 5, 99) :: ((97, 4, 98) :: ([])))) (uR (zR (uR (zR (uR (zR R 98) 97 4 98) 99) 97 5 99) 100) 97 6 100) := hK18.u rfl
  have hF21 : FR 97 R (uR (zR (uR (zR (uR (zR R 98) 97 4 98) 99) 97 5 99) 100) 97 6 100) := hF19.u rfl
  refine ⟨rfl, ?_⟩
  have hB22 : BZ (zI (zI (zI (zI I 98) 99) 100) 101) := hB15.z
  have hZ23 : KI (zk_X11_init_1) (zI (zI (zI (zI I 98) 99) 100) 101) := hZ16.z rfl
  have hI24 : FI 97 I (zI (zI (zI (zI I 98) 99) 100) 101) := hI17.z rfl
  have hK25 : RK ((97, 6, 100) :: ((97, 5, 99) :: ((97, 4, 98) :: ([])))) (zR (uR (zR (uR (zR (uR (zR R 98) 97 4 98) 99) 97 5 99) 100) 97 6 100) 101) := hK20.z rfl
  have hF26 : FR 97 R (zR (uR (zR (uR (zR (uR (zR R 98) 97 4 98) 99) 97 5 99) 100) 97 6 100) 101) := hF21.z rfl
  have hK27 : RK ((97, 7, 101) :: ((97, 6, 100) :: ((97, 5, 99) :: ((97, 4, 98) :: ([]))))) (uR (zR (uR (zR (uR (zR (uR (zR R 98) 97 4 98) 99) 97 5 99) 100) 97 6 100) 101) 97 7 101) := hK25.u rfl
  have hF28 : FR 97 R (uR (zR (uR (zR (uR (zR (uR (zR R 98) 97 4 98) 99) 97 5 99) 100) 97 6 100) 101) 97 7 101) := hF26.u rfl
  have hB29 : BZ (uI (zI (zI (zI (zI I 98) 99) 100) 101) 97 10 (-1)) := hB22.kw rfl rfl
  have hZ30 : KI (zk_X11_init_1) (uI (zI (zI (zI (zI I 98) 99) 100) 101) 97 10 (-1)) := hZ23.w rfl
  have hI31 : FI 97 I (uI (zI (zI (zI (zI I 98) 99) 100) 101) 97 10 (-1)) := hI24.w rfl
  have hB32 : BZ (uI (uI (zI (zI (zI (zI I 98) 99) 100) 101) 97 10 (-1)) 97 11 (-1)) := hB29.kw rfl rfl
  have hZ33 : KI (zk_X11_init_1) (uI (uI (zI (zI (zI (zI I 98) 99) 100) 101) 97 10 (-1)) 97 11 (-1)) := hZ30.w rfl
  have hI34 : FI 97 I (uI (uI (zI (zI (zI (zI I 98) 99) 100) 101) 97 10 (-1)) 97 11 (-1)) := hI31.w rfl
  refine ⟨rfl, ?_⟩
  have hB35 : BZ (zI (uI (uI (zI (zI (zI (zI I 98) 99) 100) 101) 97 10 (-1)) 97 11 (-1)) 102) := hB32.z
  have hZ36 : KI (zk_X11_init_1) (zI (uI (uI (zI (zI (zI (zI I 98) 99) 100) 101) 97 10 (-1)) 97 11 (-1)) 102) := hZ33.z rfl
  have hI37 : FI 97 I (zI (uI (uI (zI (zI (zI (zI I 98) 99) 100) 101) 97 10 (-1)) 97 11 (-1)) 102) := hI34.z rfl
  have hK38 : RK ((97, 7, 101) :: ((97, 6, 100) :: ((97, 5, 99) :: ((97, 4, 98) :: ([]))))) (zR (uR (zR (uR (zR (uR (zR (uR (zR R 98) 97 4 98) 99) 97 5 99) 100) 97 6 100) 101) 97 7 101) 102) := hK27.z rfl
  have hF39 : FR 97 R (zR (uR (zR (uR (zR (uR (zR (uR (zR R 98) 97 4 98) 99) 97 5 99) 100) 97 6 100) 101) 97 7 101) 102) := hF28.z rfl
  have hK40 : RK ((97, 20, 102) :: ((97, 7, 101) :: ((97, 6, 100) :: ((97, 5, 99) :: ((97, 4, 98) :: ([])))))) (uR (zR (uR (zR (uR (zR (uR (zR (uR (zR R 98) 97 4 98) 99) 97 5 99) 100) 97 6 100) 101) 97 7 101) 102) 97 20 102) := hK38.u rfl
  have hF41 : FR 97 R (uR (zR (uR (zR (uR (zR (uR (zR (uR (zR R 98) 97 4 98) 99) 97 5 99) 100) 97 6 100) 101) 97 7 101) 102) 97 20 102) := hF39.u rfl
  refine ⟨rfl, ?_⟩
  have hB42 : BZ (zI (zI (uI (uI (zI (zI (zI (zI I 98) 99) 100) 101) 97 10 (-1)) 97 11 (-1)) 102) 103) := hB35.z
  have hZ43 : KI (zk_X11_init_1) (zI (zI (uI (uI (zI (zI (zI (zI I 98) 99) 100) 101) 97 10 (-1)) 97 11 (-1)) 102) 103) := hZ36.z rfl
  have hI44 : FI 97 I (zI (zI (uI (uI (zI (zI (zI (zI I 98) 99) 100) 101) 97 10 (-1)) 97 11 (-1)) 102) 103) := hI37.z rfl
  have hK45 : RK ((97, 20, 102) :: ((97, 7, 101) :: ((97, 6, 100) :: ((97, 5, 99) :: ((97, 4, 98) :: ([])))))) (zR (uR (zR (uR (zR (uR (zR (uR (zR (uR (zR R 98) 97 4 98) 99) 97 5 99) 100) 97 6 100) 101) 97 7 101) 102) 97 20 102) 103) := hK40.z rfl
  have hF46 : FR 97 R (zR (uR (zR (uR (zR (uR (zR (uR (zR (uR (zR R 98) 97 4 98) 99) 97 5 99) 100) 97 6 100) 101) 97 7 101) 102) 97 20 102) 103) := hF41.z rfl
  have hK47 : RK ((97, 21, 103) :: ((97, 20, 102) :: ((97, 7, 101) :: ((97, 6, 100) :: ((97, 5, 99) :: ((97, 4, 98) :: ([]))))))) (uR (zR (uR (zR (uR (zR (uR (zR (uR (zR (uR (zR R 98) 97 4 98) 99) 97 5 99) 100) 97 6 100) 101) 97 7 101) 102) 97 20 102) 103) 97 21 103) := hK45.u rfl
  have hF48 : FR 97 R (uR (zR (uR (zR (uR (zR (uR (zR (uR (zR (uR (zR R 98) 97 4 98) 99) 97 5 99) 100) 97 6 100) 101) 97 7 101) 102) 97 20 102) 103) 97 21 103) := hF46.u rfl
  refine ⟨rfl, ?_⟩
  have hB49 : BZ (zI (zI (zI (uI (uI (zI (zI (zI (zI I 98) 99) 100) 101) 97 10 (-1)) 97 11 (-1)) 102) 103) 104) := hB42.z
  have hZ50 : KI (zk_X11_init_1) (zI (zI (zI (uI (uI (zI (zI (zI (zI I 98) 99) 100) 101) 97 10 (-1)) 97 11 (-1)) 102) 103) 104) := hZ43.z rfl
  have hI51 : FI 97 I (zI (zI (zI (uI (uI (zI (zI (zI (zI I 98) 99) 100) 101) 97 10 (-1)) 97 11 (-1)) 102) 103) 104) := hI44.z rfl
  have hK52 : RK ((97, 21, 103) :: ((97, 20, 102) :: ((97, 7, 101) :: ((97, 6, 100) :: ((97, 5, 99) :: ((97, 4, 98) :: ([]))))))) (zR (uR (zR (uR (zR (uR (zR (uR (zR (uR (zR (uR (zR R 98) 97 4 98) 99) 97 5 99) 100) 97 6 100) 101) 97 7 101) 102) 97 20 102) 103) 97 21 103) 104) := hK47.z rfl
  have hF53 : FR 97 R (zR (uR (zR (uR (zR (uR (zR (uR (zR (uR (zR (uR (zR R 98) 97 4 98) 99) 97 5 99) 100) 97 6 100) 101) 97 7 101) 102) 97 20 102) 103) 97 21 103) 104) := hF48.z rfl
  have hK54 : RK ((97, 22, 104) :: ((97, 21, 103) :: ((97, 20, 102) :: ((97, 7, 101) :: ((97, 6, 100) :: ((97, 5, 99) :: ((97, 4, 98) :: ([])))))))) (uR (zR (uR (zR (uR (zR (uR (zR (uR (zR (uR (zR (uR (zR R 98) 97 4 98) 99) 97 5 99) 100) 97 6 100) 101) 97 7 101) 102) 97 20 102) 103) 97 21 103) 104) 97 22 104) := hK52.u rfl
  have hF55 : FR 97 R (uR (zR (uR (zR (uR (zR (uR (zR (uR (zR (uR (zR (uR (zR R 98) 97 4 98) 99) 97 5 99) 100) 97 6 100) 101) 97 7 101) 102) 97 20 102) 103) 97 21 103) 104) 97 22 104) := hF53.u rfl
  refine ⟨rfl, ?_⟩
  have hB56 : BZ (zI (zI (zI (zI (uI (uI (zI (zI (zI (zI I 98) 99) 100) 101) 97 10 (-1)) 97 11 (-1)) 102) 103) 104) 105) := hB49.z
  have hZ57 : KI (zk_X11_init_1) (zI (zI (zI (zI (uI (uI (zI (zI (zI (zI I 98) 99) 100) 101) 97 10 (-1)) 97 11 (-1)) 102) 103) 104) 105) := hZ50.z rfl
  have hI58 : FI 97 I (zI (zI (zI (zI (uI (uI (zI (zI (zI (zI I 98) 99) 100) 101) 97 10 (-1)) 97 11 (-1)) 102) 103) 104) 105) := hI51.z rfl
  have hK59 : RK ((97, 22, 104) :: ((97, 21, 103) :: ((97, 20, 102) :: ((97, 7, 101) :: ((97, 6, 100) :: ((97, 5, 99) :: ((97, 4, 98) :: ([])))))))) (zR (uR (zR (uR (zR (uR (zR (uR (zR (uR (zR (uR (zR (uR (zR R 98) 97 4 98) 99) 97 5 99) 100) 97 6 100) 101) 97 7 101) 102) 97 20 102) 103) 97 21 103) 104) 97 22 104) 105) := hK54.z rfl
  have hF60 : FR 97 R (zR (uR (zR (uR (zR (uR (zR (uR (zR (uR (zR (uR (zR (uR (zR R 98) 97 4 98) 99) 97 5 99) 100) 97 6 100) 101) 97 7 101) 102) 97 20 102) 103) 97 21 103) 104) 97 22 104) 105) := hF55.z rfl
  have hK61 : RK ((97, 28, 105) :: ((97, 22, 104) :: ((97, 21, 103) :: ((97, 20, 102) :: ((97, 7, 101) :: ((97, 6, 100) :: ((97, 5, 99) :: ((97, 4, 98) :: ([]))))))))) (uR (zR (uR (zR (uR (zR (uR (zR (uR (zR (uR (zR (uR (zR (uR (zR R 98) 97 4 98) 99) 97 5 99) 100) 97 6 100) 101) 97 7 101) 102) 97 20 102) 103) 97 21 103) 104) 97 22 104) 105) 97 28 105) := hK59.u rfl
  have hF62 : FR 97 R (uR (zR (uR (zR (uR (zR (uR (zR (uR (zR (uR (zR (uR (zR (uR (zR R 98) 97 4 98) 99) 97 5 99) 100) 97 6 100) 101) 97 7 101) 102) 97 20 102) 103) 97 21 103) 104) 97 22 104) 105) 97 28 105) := hF60.u rfl
  refine ⟨rfl, ?_⟩
  have hB63 : BZ (zI (zI (zI (zI (zI (uI (uI (zI (zI (zI (zI I 98) 99) 100) 101) 97 10 (-1)) 97 11 (-1)) 102) 103) 104) 105) 106) := hB56.z
  have hZ64 : KI (zk_X11_init_1) (zI (zI (zI (zI (zI (uI (uI (zI (zI (zI (zI I 98) 99) 100) 101) 97 10 (-1)) 97 11 (-1)) 102) 103) 104) 105) 106) := hZ57.z rfl
  have hI65 : FI 97 I (zI (zI (zI (zI (zI (uI (uI (zI (zI (zI (zI I 98) 99) 100) 101) 97 10 (-1)) 97 11 (-1)) 102) 103) 104) 105) 106) := hI58.z rfl
  have hK66 : RK ((97, 28, 105) :: ((97, 22, 104) :: ((97, 21, 103) :: ((97, 20, 102) :: ((97, 7, 101) :: ((97, 6, 100) :: ((97, 5, 99) :: ((97, 4, 98) :: ([]))))))))) (zR (uR (zR (uR (zR (uR (zR (uR (zR (uR (zR (uR (zR (uR (zR (uR (zR R 98) 97 4 98) 99) 97 5 99) 100) 97 6 100) 101) 97 7 101) 102) 97 20 102) 103) 97 21 103) 104) 97 22 104) 105) 97 28 105) 106) := hK61.z rfl
  have hF67 : FR 97 R (zR (uR (zR (uR (zR (uR (zR (uR (zR (uR (zR (uR (zR (uR (zR (uR (zR R 98) 97 4 98) 99) 97 5 99) 100) 97 6 100) 101) 97 7 101) 102) 97 20 102) 103) 97 21 103) 104) 97 22 104) 105) 97 28 105) 106) := hF62.z rfl
  have hK68 : RK ((97, 29, 106) :: ((97, 28, 105) :: ((97, 22, 104) :: ((97, 21, 103) :: ((97, 20, 102) :: ((97, 7, 101) :: ((97, 6, 100) :: ((97, 5, 99) :: ((97, 4, 98) :: ([])))))))))) (uR (zR (uR (zR (uR (zR (uR (zR (uR (zR (uR (zR (uR (zR (uR (zR (uR (zR R 98) 97 4 98) 99) 97 5 99) 100) 97 6 100) 101) 97 7 101) 102) 97 20 102) 103) 97 21 103) 104) 97 22 104) 105) 97 28 105) 106) 97 29 106) := hK66.u rfl
  have hF69 : FR 97 R (uR (zR (uR (zR (uR (zR (uR (zR (uR (zR (uR (zR (uR (zR (uR (zR (uR (zR R 98) 97 4 98) 99) 97 5 99) 100) 97 6 100) 101) 97 7 101) 102) 97 20 102) 103) 97 21 103) 104) 97 22 104) 105) 97 28 105) 106) 97 29 106) := hF67.u rfl
  refine ⟨rfl, ?_⟩
  have hB70 : BZ (zI (zI (zI (zI (zI (zI (uI (uI (zI (zI (zI (zI I 98) 99) 100) 101) 97 10 (-1)) 97 11 (-1)) 102) 103) 104) 105) 106) 107) := hB63.z
  have hZ71 : KI (zk_X11_init_1) (zI (zI (zI (zI (zI (zI (uI (uI (zI (zI (zI (zI I 98) 99) 100) 101) 97 10 (-1)) 97 11 (-1)) 102) 103) 104) 105) 106) 107) := hZ64.z rfl
  have hI72 : FI 97 I (zI (zI (zI (zI (zI (zI (uI (uI (zI (zI (zI (zI I 98) 99) 100) 101) 97 10 (-1)) 97 11 (-1)) 102) 103) 104) 105) 106) 107) := hI65.z rfl
  have hK73 : RK ((97, 29, 106) :: ((97, 28, 105) :: ((97, 22, 104) :: ((97, 21, 103) :: ((97, 20, 102) :: ((97, 7, 101) :: ((97, 6, 100) :: ((97, 5, 99) :: ((97, 4, 98) :: ([])))))))))) (zR (uR (zR (uR (zR (uR (zR (uR (zR (uR (zR (uR (zR (uR (zR (uR (zR (uR (zR R 98) 97 4 98) 99) 97 5 99) 100) 97 6 100) 101) 97 7 101) 102) 97 20 102) 103) 97 21 103) 104) 97 22 104) 105) 97 28 105) 106) 97 29 106) 107) := hK68.z rfl
  have hF74 : FR 97 R (zR (uR (zR (uR (zR (uR (zR (uR (zR (uR (zR (uR (zR (uR (zR (uR (zR (uR (zR R 98) 97 4 98) 99) 97 5 99) 100) 97 6 100) 101) 97 7 101) 102) 97 20 102) 103) 97 21 103) 104) 97 22 104) 105) 97 28 105) 106) 97 29 106) 107) := hF69.z rfl
  have hK75 : RK ((97, 30, 107) :: ((97, 29, 106) :: ((97, 28, 105) :: ((97, 22, 104) :: ((97, 21, 103) :: ((97, 20, 102) :: ((97, 7, 101) :: ((97, 6, 100) :: ((97, 5, 99) :: ((97, 4, 98) :: ([]))))))))))) (uR (zR (uR (zR (uR (zR (uR (zR (uR (zR (uR (zR (uR (zR (uR (zR (uR (zR (uR (zR R 98) 97 4 98) 99) 97 5 99) 100) 97 6 100) 101) 97 7 101) 102) 97 20 102) 103) 97 21 103) 104) 97 22 104) 105) 97 28 105) 106) 97 29 106) 107) 97 30 107) := hK73.u rfl
  have hF76 : FR 97 R (uR (zR (uR (zR (uR (zR (uR (zR (uR (zR (uR (zR (uR (zR (uR (zR (uR (zR (uR (zR R 98) 97 4 98) 99) 97 5 99) 100) 97 6 100) 101) 97 7 101) 102) 97 20 102) 103) 97 21 103) 104) 97 22 104) 105) 97 28 105) 106) 97 29 106) 107) 97 30 107) := hF74.u rfl
  refine ⟨rfl, ?_⟩
  have hB77 : BZ (zI (zI (zI (zI (zI (zI (zI (uI (uI (zI (zI (zI (zI I 98) 99) 100) 101) 97 10 (-1)) 97 11 (-1)) 102) 103) 104) 105) 106) 107) 108) := hB70.z
  have hZ78 : KI (zk_X11_init_1) (zI (zI (zI (zI (zI (zI (zI (uI (uI (zI (zI (zI (zI I 98) 99) 100) 101) 97 10 (-1)) 97 11 (-1)) 102) 103) 104) 105) 106) 107) 108) := hZ71.z rfl
  have hI79 : FI 97 I (zI (zI (zI (zI (zI (zI (zI (uI (uI (zI (zI (zI (zI I 98) 99) 100) 101) 97 10 (-1)) 97 11 (-1)) 102) 103) 104) 105) 106) 107) 108) := hI72.z rfl
  have hK80 : RK ((97, 30, 107) :: ((97, 29, 106) :: ((97, 28, 105) :: ((97, 22, 104) :: ((97, 21, 103) :: ((97, 20, 102) :: ((97, 7, 101) :: ((97, 6, 100) :: ((97, 5, 99) :: ((97, 4, 98) :: ([]))))))))))) (zR (uR (zR (uR (zR (uR (zR (uR (zR (uR (zR (uR (zR (uR (zR (uR (zR (uR (zR (uR (zR R 98) 97 4 98) 99) 97 5 99) 100) 97 6 100) 101) 97 7 101) 102) 97 20 102) 103) 97 21 103) 104) 97 22 104) 105) 97 28 105) 106) 97 29 106) 107) 97 30 107) 108) := hK75.z rfl
  have hF81 : FR 97 R (zR (uR (zR (uR (zR (uR (zR (uR (zR (uR (zR (uR (zR (uR (zR (uR (zR (uR (zR (uR (zR R 98) 97 4 98) 99) 97 5 99) 100) 97 6 100) 101) 97 7 101) 102) 97 20 102) 103) 97 21 103) 104) 97 22 104) 105) 97 28 105) 106) 97 29 106) 107) 97 30 107) 108) := hF76.z rfl
  have hK82 : RK ((97, 35, 108) :: ((97, 30, 107) :: ((97, 29, 106) :: ((97, 28, 105) :: ((97, 22, 104) :: ((97, 21, 103) :: ((97, 20, 102) :: ((97, 7, 101) :: ((97, 6, 100) :: ((97, 5, 99) :: ((97, 4, 98) :: ([])))))))))))) (uR (zR (uR (zR (uR (zR (uR (zR (uR (zR (uR (zR (uR (zR (uR (zR (uR (zR (uR (zR (uR (zR R 98) 97 4 98) 99) 97 5 99) 100) 97 6 100) 101) 97 7 101) 102) 97 20 102) 103) 97 21 103) 104) 97 22 104) 105) 97 28 105) 106) 97 29 106) 107) 97 30 107) 108) 97 35 108) := hK80.u rfl
  have hF83 : FR 97 R (uR (zR (uR (zR (uR (zR (uR (zR (uR (zR (uR (zR (uR (zR (uR (zR (uR (zR (uR (zR (uR (zR R 98) 97 4 98) 99) 97 5 99) 100) 97 6 100) 101) 97 7 101) 102) 97 20 102) 103) 97 21 103) 104) 97 22 104) 105) 97 28 105) 106) 97 29 106) 107) 97 30 107) 108) 97 35 108) := hF81.u rfl
  refine ⟨rfl, ?_⟩
  have hB84 : BZ (zI (zI (zI (zI (zI (zI (zI (zI (uI (uI (zI (zI (zI (zI I 98) 99) 100) 101) 97 10 (-1)) 97 11 (-1)) 102) 103) 104) 105) 106) 107) 108) 109) := hB77.z
  have hZ85 : KI (zk_X11_init_1) (zI (zI (zI (zI (zI (zI (zI (zI (uI (uI (zI (zI (zI (zI I 98) 99) 100) 101) 97 10 (-1)) 97 11 (-1)) 102) 103) 104) 105) 106) 107) 108) 109) := hZ78.z rfl
  have hI86 : FI 97 I (zI (zI (zI (zI (zI (zI (zI (zI (uI (uI (zI (zI (zI (zI I 98) 99) 100) 101) 97 10 (-1)) 97 11 (-1)) 102) 103) 104) 105) 106) 107) 108) 109) := hI79.z rfl
  have hK87 : RK ((97, 35, 108) :: ((97, 30, 107) :: ((97, 29, 106) :: ((97, 28, 105) :: ((97, 22, 104) :: ((97, 21, 103) :: ((97, 20, 102) :: ((97, 7, 101) :: ((97, 6, 100) :: ((97, 5, 99) :: ((97, 4, 98) :: ([])))))))))))) (zR (uR (zR (uR (zR (uR (zR (uR (zR (uR (zR (uR (zR (uR (zR (uR (zR (uR (zR (uR (zR (uR (zR R 98) 97 4 98) 99) 97 5 99) 100) 97 6 100) 101) 97 7 101) 102) 97 20 102) 103) 97 21 103) 104) 97 22 104) 105) 97 28 105) 106) 97 29 106) 107) 97 30 107) 108) 97 35 108) 109) := hK82.z rfl
  have hF88 : FR 97 R (zR (uR (zR (uR (zR (uR (zR (uR (zR (uR (zR (uR (zR (uR (zR (uR (zR (uR (zR (uR (zR (uR (zR R 98) 97 4 98) 99) 97 5 99) 100) 97 6 100) 101) 97 7 101) 102) 97 20 102) 103) 97 21 103) 104) 97 22 104) 105) 97 28 105) 106) 97 29 106) 107) 97 30 107) 108) 97 35 108) 109) := hF83.z rfl
  have hK89 : RK ((97, 36, 109) :: ((97, 35, 108) :: ((97, 30, 107) :: ((97, 29, 106) :: ((97, 28, 105) :: ((97, 22, 104) :: ((97, 21, 103) :: ((97, 20, 102) :: ((97, 7, 101) :: ((97, 6, 100) :: ((97, 5, 99) :: ((97, 4, 98) :: ([]))))))))))))) (uR (zR (uR (zR (uR (zR (uR (zR (uR (zR (uR (zR (uR (zR (uR (zR (uR (zR (uR (zR (uR (zR (uR (zR R 98) 97 4 98) 99) 97 5 99) 100) 97 6 100) 101) 97 7 101) 102) 97 20 102) 103) 97 21 103) 104) 97 22 104) 105) 97 28 105) 106) 97 29 106) 107) 97 30 107) 108) 97 35 108) 109) 97 36 109) := hK87.u rfl
  have hF90 : FR 97 R (uR (zR (uR (zR (uR (zR (uR (zR (uR (zR (uR (zR (uR (zR (uR (zR (uR (zR (uR (zR (uR (zR (uR (zR R 98) 97 4 98) 99) 97 5 99) 100) 97 6 100) 101) 97 7 101) 102) 97 20 102) 103) 97 21 103) 104) 97 22 104) 105) 97 28 105) 106) 97 29 106) 107) 97 30 107) 108) 97 35 108) 109) 97 36 109) := hF88.u rfl
  refine ⟨rfl, ?_⟩
  have hB91 : BZ (zI (zI (zI (zI (zI (zI (zI (zI (zI (uI (uI (zI (zI (zI (zI I 98) 99) 100) 101) 97 10 (-1)) 97 11 (-1)) 102) 103) 104) 105) 106) 107) 108) 109) 110) := hB84.z
  have hZ92 : KI (zk_X11_init_1) (zI (zI (zI (zI (zI (zI (zI (zI (zI (uI (uI (zI (zI (zI (zI I 98) 99) 100) 101) 97 10 (-1)) 97 11 (-1)) 102) 103) 104) 105) 106) 107) 108) 109) 110) := hZ85.z rfl
  have hI93 : FI 97 I (zI (zI (zI (zI (zI (zI (zI (zI (zI (uI (uI (zI (zI (zI (zI I 98) 99) 100) 101) 97 10 (-1)) 97 11 (-1)) 102) 103) 104) 105) 106) 107) 108) 109) 110) := hI86.z rfl
  have hK94 : RK ((97, 36, 109) :: ((97, 35, 108) :: ((97, 30, 107) :: ((97, 29, 106) :: ((97, 28, 105) :: ((97, 22, 104) :: ((97, 21, 103) :: ((97, 20, 102) :: ((97, 7, 101) :: ((97, 6, 100) :: ((97, 5, 99) :: ((97, 4, 98) :: ([]))))))))))))) (zR (uR (zR (uR (zR (uR (zR (uR (zR (uR (zR (uR (zR (uR (zR (uR (zR (uR (zR (uR (zR (uR (zR (uR (zR R 98) 97 4 98) 99) 97 5 99) 100) 97 6 100) 101) 97 7 101) 102) 97 20 102) 103) 97 21 103) 104) 97 22 104) 105) 97 28 105) 106) 97 29 106) 107) 97 30 107) 108) 97 35 108) 109) 97 36 109) 110) := hK89.z rfl
  have hF95 : FR 97 R (zR (uR (zR (uR (zR (uR (zR (uR (zR (uR (zR (uR (zR (uR (zR (uR (zR (uR (zR (uR (zR (uR (zR (uR (zR R 98) 97 4 98) 99) 97 5 99) 100) 97 6 100) 101) 97 7 101) 102) 97 20 102) 103) 97 21 103) 104) 97 22 104) 105) 97 28 105) 106) 97 29 106) 107) 97 30 107) 108) 97 35 108) 109) 97 36 109) 110) := hF90.z rfl
  have hK96 : RK ((97, 37, 110) :: ((97, 36, 109) :: ((97, 35, 108) :: ((97, 30, 107) :: ((97, 29, 106) :: ((97, 28, 105) :: ((97, 22, 104) :: ((97, 21, 103) :: ((97, 20, 102) :: ((97, 7, 101) :: ((97, 6, 100) :: ((97, 5, 99) :: ((97, 4, 98) :: ([])))))))))))))) (uR (zR (uR (zR (uR (zR (uR (zR (uR (zR (uR (zR (uR (zR (uR (zR (uR (zR (uR (zR (uR (zR (uR (zR (uR (zR R 98) 97 4 98) 99) 97 5 99) 100) 97 6 100) 101) 97 7 101) 102) 97 20 102) 103) 97 21 103) 104) 97 22 104) 105) 97 28 105) 106) 97 29 106) 107) 97 30 107) 108) 97 35 108) 109) 97 36 109) 110) 97 37 110) := hK94.u rfl
  have hF97 : FR 97 R (uR (zR (uR (zR (uR (zR (uR (zR (uR (zR (uR (zR (uR (zR (uR (zR (uR (zR (uR (zR (uR (zR (uR (zR (uR (zR R 98) 97 4 98) 99) 97 5 99) 100) 97 6 100) 101) 97 7 101) 102) 97 20 102) 103) 97 21 103) 104) 97 22 104) 105) 97 28 105) 106) 97 29 106) 107) 97 30 107) 108) 97 35 108) 109) 97 36 109) 110) 97 37 110) := hF95.u rfl
  refine ⟨rfl, ?_⟩
  have hB98 : BZ (zI (zI (zI (zI (zI (zI (zI (zI (zI (zI (uI (uI (zI (zI (zI (zI I 98) 99) 100) 101) 97 10 (-1)) 97 11 (-1)) 102) 103) 104) 105) 106) 107) 108) 109) 110) 111) := hB91.z
  have hZ99 : KI (zk_X11_init_1) (zI (zI (zI (zI (zI (zI (zI (zI (zI (zI (uI (uI (zI (zI (zI (zI I 98) 99) 100) 101) 97 10 (-1)) 97 11 (-1)) 102) 103) 104) 105) 106) 107) 108) 109) 110) 111) := hZ92.z rfl
  have hI100 : FI 97 I (zI (zI (zI (zI (zI (zI (zI (zI (zI (zI (uI (uI (zI (zI (zI (zI I 98) 99) 100) 101) 97 10 (-1)) 97 11 (-1)) 102) 103) 104) 105) 106) 107) 108) 109) 110) 111) := hI93.z rfl
  have hK101 : RK ((97, 37, 110) :: ((97, 36, 109) :: ((97, 35, 108) :: ((97, 30, 107) :: ((97, 29, 106) :: ((97, 28, 105) :: ((97, 22, 104) :: ((97, 21, 103) :: ((97, 20, 102) :: ((97, 7, 101) :: ((97, 6, 100) :: ((97, 5, 99) :: ((97, 4, 98) :: ([])))))))))))))) (zR (uR (zR (uR (zR (uR (zR (uR (zR (uR (zR (uR (zR (uR (zR (uR (zR (uR (zR (uR (zR (uR (zR (uR (zR (uR (zR R 98) 97 4 98) 99) 97 5 99) 100) 97 6 100) 101) 97 7 101) 102) 97 20 102) 103) 97 21 103) 104) 97 22 104) 105) 97 28 105) 106) 97 29 106) 107) 97 30 107) 108) 97 35 108) 109) 97 36 109) 110) 97 37 110) 111) := hK96.z rfl
  have hF102 : FR 97 R (zR (uR (zR (uR (zR (uR (zR (uR (zR (uR (zR (uR (zR (uR (zR (uR (zR (uR (zR (uR (zR (uR (zR (uR (zR (uR (zR R 98) 97 4 98) 99) 97 5 99) 100) 97 6 100) 101) 97 7 101) 102) 97 20 102) 103) 97 21 103) 104) 97 22 104) 105) 97 28 105) 106) 97 29 106) 107) 97 30 107) 108) 97 35 108) 109) 97 36 109) 110) 97 37 110) 111) := hF97.z rfl
  have hK103 : RK ((97, 38, 111) :: ((97, 37, 110) :: ((97, 36, 109) :: ((97, 35, 108) :: ((97, 30, 107) :: ((97, 29, 106) :: ((97, 28, 105) :: ((97, 22, 104) :: ((97, 21, 103) :: ((97, 20, 102) :: ((97, 7, 101) :: ((97, 6, 100) :: ((97, 5, 99) :: ((97, 4, 98) :: ([]))))))))))))))) (uR (zR (uR (zR (uR (zR (uR (zR (uR (zR (uR (zR (uR (zR (uR (zR (uR (zR (uR (zR (uR (zR (uR (zR (uR (zR (uR (zR R 98) 97 4 98) 99) 97 5 99) 100) 97 6 100) 101) 97 7 101) 102) 97 20 102) 103) 97 21 103) 104) 97 22 104) 105) 97 28 105) 106) 97 29 106) 107) 97 30 107) 108) 97 35 108) 109) 97 36 109) 110) 97 37 110) 111) 97 38 111) := hK101.u rfl
  have hF104 : FR 97 R (uR (zR (uR (zR (uR (zR (uR (zR (uR (zR (uR (zR (uR (zR (uR (zR (uR (zR (uR (zR (uR (zR (uR (zR (uR (zR (uR (zR R 98) 97 4 98) 99) 97 5 99) 100) 97 6 100) 101) 97 7 101) 102) 97 20 102) 103) 97 21 103) 104) 97 22 104) 105) 97 28 105) 106) 97 29 106) 107) 97 30 107) 108) 97 35 108) 109) 97 36 109) 110) 97 37 110) 111) 97 38 111) := hF102.u rfl
  refine ⟨rfl, ?_⟩
  have hB105 : BZ (zI (zI (zI (zI (zI (zI (zI (zI (zI (zI (zI (uI (uI (zI (zI (zI (zI I 98) 99) 100) 101) 97 10 (-1)) 97 11 (-1)) 102) 103) 104) 105) 106) 107) 108) 109) 110) 111) 112) := hB98.z
  have hZ106 : KI (zk_X11_init_1) (zI (zI (zI (zI (zI (zI (zI (zI (zI (zI (zI (uI (uI (zI (zI (zI (zI I 98) 99) 100) 101) 97 10 (-1)) 97 11 (-1)) 102) 103) 104) 105) 106) 107) 108) 109) 110) 111) 112) := hZ99.z rfl
  have hI107 : FI 97 I (zI (zI (zI (zI (zI (zI (zI (zI (zI (zI (zI (uI (uI (zI (zI (zI (zI I 98) 99) 100) 101) 97 10 (-1)) 97 11 (-1)) 102) 103) 104) 105) 106) 107) 108) 109) 110) 111) 112) := hI100.z rfl
  have hK108 : RK ((97, 38, 111) :: ((97, 37, 110) :: ((97, 36, 109) :: ((97, 35, 108) :: ((97, 30, 107) :: ((97, 29, 106) :: ((97, 28, 105) :: ((97, 22, 104) :: ((97, 21, 103) :: ((97, 20, 102) :: ((97, 7, 101) :: ((97, 6, 100) :: ((97, 5, 99) :: ((97, 4, 98) :: ([]))))))))))))))) (zR (uR (zR (uR (zR (uR (zR (uR (zR (uR (zR (uR (zR (uR (zR (uR (zR (uR (zR (uR (zR (uR (zR (uR (zR (uR (zR (uR (zR R 98) 97 4 98) 99) 97 5 99) 100) 97 6 100) 101) 97 7 101) 102) 97 20 102) 103) 97 21 103) 104) 97 22 104) 105) 97 28 105) 106) 97 29 106) 107) 97 30 107) 108) 97 35 108) 109) 97 36 109) 110) 97 37 110) 111) 97 38 111) 112) := hK103.z rfl
  have hF109 : FR 97 R (zR (uR (zR (uR (zR (uR (zR (uR (zR (uR (zR (uR (zR (uR (zR (uR (zR (uR (zR (uR (zR (uR (zR (uR (zR (uR (zR (uR (zR R 98) 97 4 98) 99) 97 5 99) 100) 97 6 100) 101) 97 7 101) 102) 97 20 102) 103) 97 21 103) 104) 97 22 104) 105) 97 28 105) 106) 97 29 106) 107) 97 30 107) 108) 97 35 108) 109) 97 36 109) 110) 97 37 110) 111) 97 38 111) 112) := hF104.z rfl
  have hK110 : RK ((97, 39, 112) :: ((97, 38, 111) :: ((97, 37, 110) :: ((97, 36, 109) :: ((97, 35, 108) :: ((97, 30, 107) :: ((97, 29, 106) :: ((97, 28, 105) :: ((97, 22, 104) :: ((97, 21, 103) :: ((97, 20, 102) :: ((97, 7, 101) :: ((97, 6, 100) :: ((97, 5, 99) :: ((97, 4, 98) :: ([])))))))))))))))) (uR (zR (uR (zR (uR (zR (uR (zR (uR (zR (uR (zR (uR (zR (uR (zR (uR (zR (uR (zR (uR (zR (uR (zR (uR (zR (uR (zR (uR (zR R 98) 97 4 98) 99) 97 5 99) 100) 97 6 100) 101) 97 7 101) 102) 97 20 102) 103) 97 21 103) 104) 97 22 104) 105) 97 28 105) 106) 97 29 106) 107) 97 30 107) 108) 97 35 108) 109) 97 36 109) 110) 97 37 110) 111) 97 38 111) 112) 97 39 112) := hK108.u rfl
  have hF111 : FR 97 R (uR (zR (uR (zR (uR (zR (uR (zR (uR (zR (uR (zR (uR (zR (uR (zR (uR (zR (uR (zR (uR (zR (uR (zR (uR (zR (uR (zR (uR (zR R 98) 97 4 98) 99) 97 5 99) 100) 97 6 100) 101) 97 7 101) 102) 97 20 102) 103) 97 21 103) 104) 97 22 104) 105) 97 28 105) 106) 97 29 106) 107) 97 30 107) 108) 97 35 108) 109) 97 36 109) 110) 97 37 110) 111) 97 38 111) 112) 97 39 112) := hF109.u rfl
  refine cs_X12_init_97_140_112 hc 0 _ _ _ ?_
  refine ⟨fun c => absurd c (by decide), fun _ => ?_⟩
  refine ⟨hK110.ne (show lkq ((97, 39, 112) :: ((97, 38, 111) :: ((97, 37, 110) :: ((97, 36, 109) :: ((97, 35, 108) :: ((97, 30, 107) :: ((97, 29, 106) :: ((97, 28, 105) :: ((97, 22, 104) :: ((97, 21, 103) :: ((97, 20, 102) :: ((97, 7, 101) :: ((97, 6, 100) :: ((97, 5, 99) :: ((97, 4, 98) :: ([])))))))))))))))) 97 5 = true from rfl), ?_⟩
  refine ⟨vp_of rfl (by decide) (by decide), ?_⟩
  have hB112 : BZ (uI (zI (zI (zI (zI (zI (zI (zI (zI (zI (zI (zI (uI (uI (zI (zI (zI (zI I 98) 99) 100) 101) 97 10 (-1)) 97 11 (-1)) 102) 103) 104) 105) 106) 107) 108) 109) 110) 111) 112) 99 (Int32.toNatClampNeg 0) (-1)) := hB105.kw rfl rfl
  have hZ113 : KI ((99, 0, -1) :: (zk_X11_init_1)) (uI (zI (zI (zI (zI (zI (zI (zI (zI (zI (zI (zI (uI (uI (zI (zI (zI (zI I 98) 99) 100) 101) 97 10 (-1)) 97 11 (-1)) 102) 103) 104) 105) 106) 107) 108) 109) 110) 111) 112) 99 (Int32.toNatClampNeg 0) (-1)) := hZ106.u rfl
  have hI114 : FI 97 I (uI (zI (zI (zI (zI (zI (zI (zI (zI (zI (zI (zI (uI (uI (zI (zI (zI (zI I 98) 99) 100) 101) 97 10 (-1)) 97 11 (-1)) 102) 103) 104) 105) 106) 107) 108) 109) 110) 111) 112) 99 (Int32.toNatClampNeg 0) (-1)) := hI107.w rfl
  refine cs_X12_init_97_140_112 hc (0 + 1) _ _ _ ?_
  refine ⟨fun c => absurd c (by decide), fun _ => ?_⟩
  refine ⟨hK110.ne (show lkq ((97, 39, 112) :: ((97, 38, 111) :: ((97, 37, 110) :: ((97, 36, 109) :: ((97, 35, 108) :: ((97, 30, 107) :: ((97, 29, 106) :: ((97, 28, 105) :: ((97, 22, 104) :: ((97, 21, 103) :: ((97, 20, 102) :: ((97, 7, 101) :: ((97, 6, 100) :: ((97, 5, 99) :: ((97, 4, 98) :: ([])))))))))))))))) 97 5 = true from rfl), ?_⟩
  refine ⟨vp_of rfl (by decide) (by decide), ?_⟩
  have hB115 : BZ (uI (uI (zI (zI (zI (zI (zI (zI (zI (zI (zI (zI (zI (uI (uI (zI (zI (zI (zI I 98) 99) 100) 101) 97 10 (-1)) 97 11 (-1)) 102) 103) 104) 105) 106) 107) 108) 109) 110) 111) 112) 99 (Int32.toNatClampNeg 0) (-1)) 99 (Int32.toNatClampNeg (0 + 1)) (-1)) := hB112.kw rfl rfl
  have hZ116 : KI ((99, 1, -1) :: ((99, 0, -1) :: (zk_X11_init_1))) (uI (uI (zI (zI (zI (zI (zI (zI (zI (zI (zI (zI (zI (uI (uI (zI (zI (zI (zI I 98) 99) 100) 101) 97 10 (-1)) 97 11 (-1)) 102) 103) 104) 105) 106) 107) 108) 109) 110) 111) 112) 99 (Int32.toNatClampNeg 0) (-1)) 99 (Int32.toNatClampNeg (0 + 1)) (-1)) := hZ113.u rfl
  have hI117 : FI 97 I (uI (uI (zI (zI (zI (zI (zI (zI (zI (zI (zI (zI (zI (uI (uI (zI (zI (zI (zI I 98) 99) 100) 101) 97 10 (-1)) 97 11 (-1)) 102) 103) 104) 105) 106) 107) 108) 109) 110) 111) 112) 99 (Int32.toNatClampNeg 0) (-1)) 99 (Int32.toNatClampNeg (0 + 1)) (-1)) := hI114.w rfl
  refine cs_X12_init_97_140_112 hc ((0 + 1) + 1) _ _ _ ?_
  refine ⟨fun c => absurd c (by decide), fun _ => ?_⟩
  refine ⟨hK110.ne (show lkq ((97, 39, 112) :: ((97, 38, 111) :: ((97, 37, 110) :: ((97, 36, 109) :: ((97, 35, 108) :: ((97, 30, 107) :: ((97, 29, 106) :: ((97, 28, 105) :: ((97, 22, 104) :: ((97, 21, 103) :: ((97, 20, 102) :: ((97, 7, 101) :: ((97, 6, 100) :: ((97, 5, 99) :: ((97, 4, 98) :: ([])))))))))))))))) 97 5 = true from rfl), ?_⟩
  refine ⟨vp_of rfl (by decide) (by decide), ?_⟩
  have hB118 : BZ (uI (uI (uI (zI (zI (zI (zI (zI (zI (zI (zI (zI (zI (zI (uI (uI (zI (zI (zI (zI I 98) 99) 100) 101) 97 10 (-1)) 97 11 (-1)) 102) 103) 104) 105) 106) 107) 108) 109) 110) 111) 112) 99 (Int32.toNatClampNeg 0) (-1)) 99 (Int32.toNatClampNeg (0 + 1)) (-1)) 99 (Int32.toNatClampNeg ((0 + 1) + 1)) (-1)) := hB115.kw rfl rfl
  have hZ119 : KI ((99, 2, -1) :: ((99, 1, -1) :: ((99, 0, -1) :: (zk_X11_init_1)))) (uI (uI (uI (zI (zI (zI (zI (zI (zI (zI (zI (zI (zI (zI (uI (uI (zI (zI (zI (zI I 98) 99) 100) 101) 97 10 (-1)) 97 11 (-1)) 102) 103) 104) 105) 106) 107) 108) 109) 110) 111) 112) 99 (Int32.toNatClampNeg 0) (-1)) 99 (Int32.toNatClampNeg (0 + 1)) (-1)) 99 (Int32.toNatClampNeg ((0 + 1) + 1)) (-1)) := hZ116.u rfl
  have hI120 : FI 97 I (uI (uI (uI (zI (zI (zI (zI (zI (zI (zI (zI (zI (zI (zI (uI (uI (zI (zI (zI (zI I 98) 99) 100) 101) 97 10 (-1)) 97 11 (-1)) 102) 103) 104) 105) 106) 107) 108) 109) 110) 111) 112) 99 (Int32.toNatClampNeg 0) (-1)) 99 (Int32.toNatClampNeg (0 + 1)) (-1)) 99 (Int32.toNatClampNeg ((0 + 1) + 1)) (-1)) := hI117.w rfl
  refine cs_X12_init_97_140_112 hc (((0 + 1) + 1) + 1) _ _ _ ?_
  refine ⟨fun c => absurd c (by decide), fun _ => ?_⟩
  refine ⟨hK110.ne (show lkq ((97, 39, 112) :: ((97, 38, 111) :: ((97, 37, 110) :: ((97, 36, 109) :: ((97, 35, 108) :: ((97, 30, 107) :: ((97, 29, 106) :: ((97, 28, 105) :: ((97, 22, 104) :: ((97, 21, 103) :: ((97, 20, 102) :: ((97, 7, 101) :: ((97, 6, 100) :: ((97, 5, 99) :: ((97, 4, 98) :: ([])))))))))))))))) 97 5 = true from rfl), ?_⟩
  refine ⟨vp_of rfl (by decide) (by decide), ?_⟩
  have hB121 : BZ (uI (uI (uI (uI (zI (zI (zI (zI (zI (zI (zI (zI (zI (zI (zI (uI (uI (zI (zI (zI (zI I 98) 99) 100) 101) 97 10 (-1)) 97 11 (-1)) 102) 103) 104) 105) 106) 107) 108) 109) 110) 111) 112) 99 (Int32.toNatClampNeg 0) (-1)) 99 (Int32.toNatClampNeg (0 + 1)) (-1)) 99 (Int32.toNatClampNeg ((0 + 1) + 1)) (-1)) 99 (Int32.toNatClampNeg (((0 + 1) + 1) + 1)) (-1)) := hB118.kw rfl rfl
  have hZ122 : KI ((99, 3, -1) :: ((99, 2, -1) :: ((99, 1, -1) :: ((99, 0, -1) :: (zk_X11_init_1))))) (uI (uI (uI (uI (zI (zI (zI (zI (zI (zI (zI (zI (zI (zI (zI (uI (uI (zI (zI (zI (zI I 98) 99) 100) 101) 97 10 (-1)) 97 11 (-1)) 102) 103) 104) 105) 106) 107) 108) 109) 110) 111) 112) 99 (Int32.toNatClampNeg 0) (-1)) 99 (Int32.toNatClampNeg (0 + 1)) (-1)) 99 (Int32.toNatClampNeg ((0 + 1) + 1)) (-1)) 99 (Int32.toNatClampNeg (((0 + 1) + 1) + 1)) (-1)) := hZ119.u rfl
  have hI123 : FI 97 I (uI (uI (uI (uI (zI (zI (zI (zI (zI (zI (zI (zI (zI (zI (zI (uI (uI (zI (zI (zI (zI I 98) 99) 100) 101) 97 10 (-1)) 97 11 (-1)) 102) 103) 104) 105) 106) 107) 108) 109) 110) 111) 112) 99 (Int32.toNatClampNeg 0) (-1)) 99 (Int32.toNatClampNeg (0 + 1)) (-1)) 99 (Int32.toNatClampNeg ((0 + 1) + 1)) (-1)) 99 (Int32.toNatClampNeg (((0 + 1) + 1) + 1)) (-1)) := hI120.w rfl
  refine cs_X12_init_97_140_112 hc ((((0 + 1) + 1) + 1) + 1) _ _ _ ?_
  refine ⟨fun _ => ?_, fun c => absurd (by decide) c⟩
  refine ⟨⟨fl_of (RK.app (show RK lk_X12_init_97 (uR (zR (uR (zR (uR (zR (uR (zR (uR (zR (uR (zR (uR (zR (uR (zR (uR (zR (uR (zR (uR (zR (uR (zR (uR (zR (uR (zR (uR (zR R 98) 97 4 98) 99) 97 5 99) 100) 97 6 100) 101) 97 7 101) 102) 97 20 102) 103) 97 21 103) 104) 97 22 104) 105) 97 28 105) 106) 97 29 106) 107) 97 30 107) 108) 97 35 108) 109) 97 36 109) 110) 97 37 110) 111) 97 38 111) 112) 97 39 112) from hK110) (RK.fr hL hF111 rfl)), rfl⟩, ?_⟩
  refine kp0 rfl (kp1 rfl (kp2 rfl (kp3 rfl (kp4 rfl (kp5 rfl (ri_of (RK.app (show RK lk_X12_init_97 (uR (zR (uR (zR (uR (zR (uR (zR (uR (zR (uR (zR (uR (zR (uR (zR (uR (zR (uR (zR (uR (zR (uR (zR (uR (zR (uR (zR (uR (zR R 98) 97 4 98) 99) 97 5 99) 100) 97 6 100) 101) 97 7 101) 102) 97 20 102) 103) 97 21 103) 104) 97 22 104) 105) 97 28 105) 106) 97 29 106) 107) 97 30 107) 108) 97 35 108) 109) 97 36 109) 110) 97 37 110) 111) 97 38 111) 112) 97 39 112) from hK110) (RK.fr hL hF111 rfl))) rfl (emp_b (b := 0) hB121.1 rfl (by decide) (fun x y I2 J2 hB2 _ k9 k4 k3 k2 k1 k0 => ⟨rfl, fun z => absurd z (by decide), hQ _ _ _ hB2 hF111 hK110 ⟨?_, ?_, RT.kp (fun t ht => ?_) k4 k9⟩⟩)))))))
  · exact congrArg Int32.toInt ((k0.trans (hB121.at (by decide))).trans (k1.trans (hB121.at (by decide))).symm)
  · exact congrArg Int32.toInt ((k2.trans (hB121.at (by decide))).trans (k3.trans (hB121.at (by decide))).symm)
  · rcases (show t = 0 ∨ t = 1 ∨ t = 2 ∨ t = 3 by omega) with q | q | q | q <;> subst q
    · exact ⟨(hB121.at (o := 53) (by decide)).trans (hB121.at (o := 98) (by decide)).symm, (KI.at (o := 53) (k := 1) (v := -1) hZ122 (by decide +kernel)).trans (KI.at (o := 99) (k := 0) (v := -1) hZ122 (by decide +kernel)).symm⟩
    · exact ⟨(hB121.at (o := 55) (by decide)).trans (hB121.at (o := 98) (by decide)).symm, (KI.at (o := 55) (k := 1) (v := -1) hZ122 (by decide +kernel)).trans (KI.at (o := 99) (k := 1) (v := -1) hZ122 (by decide +kernel)).symm⟩
    · exact ⟨(hB121.at (o := 57) (by decide)).trans (hB121.at (o := 98) (by decide)).symm, (KI.at (o := 57) (k := 1) (v := -1) hZ122 (by decide +kernel)).trans (KI.at (o := 99) (k := 2) (v := -1) hZ122 (by decide +kernel)).symm⟩
    · exact ⟨(hB121.at (o := 59) (by decide)).trans (hB121.at (o := 98) (by decide)).symm, (KI.at (o := 59) (k := 1) (v := -1) hZ122 (by decide +kernel)).trans (KI.at (o := 99) (k := 3) (v := -1) hZ122 (by decide +kernel)).symm⟩
