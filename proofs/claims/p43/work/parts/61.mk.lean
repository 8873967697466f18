/-! ===== what makes objects: bounds hold, the references lie as they are to ===== -/
def okb (b : Option (Int × Int)) (v : Int) : Bool := match b with
  | none => true
  | some (lo, hi) => decide (lo ≤ v) && decide (v ≤ hi)
theorem okb_spec {b : Option (Int × Int)} {v lo hi : Int} (h : okb b v = true) (hb : b = some (lo, hi)) : lo ≤ v ∧ v ≤ hi := by
  subst hb
  unfold okb at h
  rw [Bool.and_eq_true, decide_eq_true_eq, decide_eq_true_eq] at h
  exact h
theorem Bd.kw {I : Im} (h : Bd I) {o k : Nat} {v : Int32} (hk : (okb (bnd (clsOf o) k) v.toInt && (okb (bna o) v.toInt && !(Nat.beq o 102))) = true) : Bd (uI I o k v) := by
  rw [Bool.and_eq_true, Bool.and_eq_true] at hk
  refine h.up (fun lo hi q => okb_spec hk.1 q) (fun lo hi q => okb_spec hk.2.1 q) (fun q => ?_)
  subst q; exact absurd hk.2.2 (by decide)
theorem bnd_0 {ci k : Nat} {lo hi : Int} (h : bnd ci k = some (lo, hi)) : lo ≤ 0 ∧ 0 ≤ hi := by
  unfold bnd at h
  split at h <;> first | (cases h; decide) | (cases h)
theorem bna_0 {a : Nat} {lo hi : Int} (h : bna a = some (lo, hi)) : lo ≤ 0 ∧ 0 ≤ hi := by
  unfold bna at h
  split at h <;> first | (cases h; decide) | (cases h)
theorem CK.zero : CK (fun _ => 0) := by
  have z0 : (0 : Int32).toInt = 0 := rfl
  refine ⟨fun j => ?_, fun c k hc hk => ?_, fun c s hc hd hs => absurd rfl hd⟩
  · show CB j (0 : Int32).toInt
    rw [z0]; unfold CB; omega
  · have : (k : Int) < (0 : Int32).toInt := hk
    omega
theorem Bd.z {I : Im} (h : Bd I) {a : Nat} : Bd (zI I a) := by
  have e : ∀ o, (zI I a o = fun _ => 0) ∨ zI I a o = I o := fun o => by
    by_cases q : o = a
    · exact Or.inl (if_pos q)
    · exact Or.inr (if_neg q)
  refine ⟨fun o k lo hi hb => ?_, fun o j lo hi hb => ?_, ?_⟩
  · rcases e o with q | q
    · rw [q]; exact bnd_0 hb
    · rw [q]; exact h.1 o k lo hi hb
  · rcases e o with q | q
    · rw [q]; exact bna_0 hb
    · rw [q]; exact h.2.1 o j lo hi hb
  · rcases e 102 with q | q
    · rw [q]; exact CK.zero
    · rw [q]; exact h.2.2
/-- the places that both sides have alike are 0 while the objects are made -/
def ZP : List (Nat × Nat) := [(3, 1), (1, 13), (97, 8), (97, 23), (53, 0), (55, 0), (57, 0), (59, 0), (98, 0), (98, 1), (98, 2), (98, 3)]
def BZ (I : Im) : Prop := Bd I ∧ ∀ q ∈ ZP, I q.1 q.2 = 0
theorem BZ.kw {I : Im} (h : BZ I) {o k : Nat} {v : Int32} (hk : (okb (bnd (clsOf o) k) v.toInt && (okb (bna o) v.toInt && !(Nat.beq o 102))) = true) (hz : ZP.all (fun q => !(Nat.beq q.1 o && Nat.beq q.2 k) || decide (v.toInt = 0)) = true) : BZ (uI I o k v) := by
  refine ⟨h.1.kw hk, fun q hq => ?_⟩
  have h1 := List.all_eq_true.mp hz q hq
  rw [Bool.or_eq_true, Bool.not_eq_true', decide_eq_true_eq] at h1
  by_cases ho : q.1 = o
  · by_cases hk2 : q.2 = k
    · rcases h1 with h1 | h1
      · rw [ho, hk2, nb_refl, nb_refl] at h1; exact absurd h1 (by decide)
      · rw [ho, hk2, uI_eq]
        have : upd (I o) k v k = v := by simp [upd]
        rw [this]; exact Int32.toInt_inj.mp h1
    · rw [ho, uI_eq]
      have : upd (I o) k v q.2 = I o q.2 := by simp [upd, hk2]
      rw [this, ← ho]; exact h.2 q hq
  · rw [uI_ne ho]; exact h.2 q hq
theorem BZ.z {I : Im} (h : BZ I) {a : Nat} : BZ (zI I a) := by
  refine ⟨h.1.z, fun q hq => ?_⟩
  by_cases ho : q.1 = a
  · show (if q.1 = a then (fun _ => 0) else I q.1) q.2 = 0
    rw [if_pos ho]
  · rw [zI_ne ho]; exact h.2 q hq
/-- what is known of ints -/
def KI (L : List (Nat × Nat × Int32)) (I : Im) : Prop := ∀ q ∈ L, I q.1 q.2.1 = q.2.2
def FI (n : Nat) (I I2 : Im) : Prop := ∀ o, o < n → I2 o = I o
theorem KI.nil {I : Im} : KI [] I := fun q h => by cases h
theorem KI.z {L : List (Nat × Nat × Int32)} {I : Im} (h : KI L I) {a : Nat} (ha : L.all (fun q => !(Nat.beq q.1 a)) = true) : KI L (zI I a) := fun q hq => by
  have h1 := List.all_eq_true.mp ha q hq
  have h2 : ¬ q.1 = a := fun z => by rw [z, nb_refl] at h1; cases h1
  rw [zI_ne h2]; exact h q hq
theorem KI.w {L : List (Nat × Nat × Int32)} {I : Im} (h : KI L I) {a j : Nat} {v : Int32} (ha : L.all (fun q => !(Nat.beq q.1 a && Nat.beq q.2.1 j)) = true) : KI L (uI I a j v) := fun q hq => by
  have h1 := List.all_eq_true.mp ha q hq
  by_cases z : q.1 = a
  · have h2 : ¬ q.2.1 = j := fun y => by rw [z, y, nb_refl, nb_refl] at h1; cases h1
    have h3 := h q hq
    rw [z] at h3
    rw [z, uI_eq]
    have : upd (I a) j v q.2.1 = I a q.2.1 := by simp [upd, h2]
    rw [this]; exact h3
  · rw [uI_ne z]; exact h q hq
theorem KI.u {L : List (Nat × Nat × Int32)} {I : Im} (h : KI L I) {a j : Nat} {v : Int32} (ha : L.all (fun q => !(Nat.beq q.1 a && Nat.beq q.2.1 j)) = true) : KI ((a, j, v) :: L) (uI I a j v) := fun q hq => by
  rcases List.mem_cons.mp hq with rfl | hq
  · show uI I a j v a j = v
    rw [uI_eq]; simp [upd]
  · exact h.w ha q hq
theorem KI.app {A B : List (Nat × Nat × Int32)} {I : Im} (h : KI A I) (h2 : KI B I) : KI (A ++ B) I := fun q hq => by
  rcases List.mem_append.mp hq with hq | hq
  · exact h q hq
  · exact h2 q hq
theorem KI.fr {L : List (Nat × Nat × Int32)} {I I2 : Im} (h : KI L I) {n : Nat} (hf : FI n I I2) (hL : L.all (fun q => Nat.blt q.1 n) = true) : KI L I2 := fun q hq => by
  have h1 := List.all_eq_true.mp hL q hq
  rw [hf q.1 (Nat.lt_of_lt_of_le (Nat.lt_succ_self _) (Nat.le_of_ble_eq_true h1))]; exact h q hq
theorem FI.refl (n : Nat) (I : Im) : FI n I I := fun _ _ => rfl
def FJ (n : Nat) (J J2 : Jm) : Prop := ∀ o, o < n → J2 o = J o
theorem FJ.refl (n : Nat) (J : Jm) : FJ n J J := fun _ _ => rfl
theorem FJ.z {n : Nat} {J J2 : Jm} (h : FJ n J J2) {a : Nat} (ha : Nat.ble n a = true) : FJ n J (zJ J2 a) := fun o ho => by
  have := Nat.le_of_ble_eq_true ha
  rw [zJ_ne (by omega)]; exact h o ho
theorem FJ.w {n : Nat} {J J2 : Jm} (h : FJ n J J2) {a j : Nat} {v : Int64} (ha : Nat.ble n a = true) : FJ n J (uJ J2 a j v) := fun o ho => by
  have := Nat.le_of_ble_eq_true ha
  rw [uJ_ne (by omega)]; exact h o ho
theorem JZ.z {J : Jm} {a : Nat} (h : J 47 0 = 0) (ha : Nat.beq 47 a = false) : zJ J a 47 0 = 0 := by
  have : ¬ 47 = a := fun q => by subst q; exact absurd ha (by decide)
  rw [zJ_ne this]; exact h
theorem JZ.w {J : Jm} {a j : Nat} {v : Int64} (h : J 47 0 = 0) (ha : Nat.beq 47 a = false) : uJ J a j v 47 0 = 0 := by
  have : ¬ 47 = a := fun q => by subst q; exact absurd ha (by decide)
  rw [uJ_ne this]; exact h
theorem FI.z {n : Nat} {I I2 : Im} (h : FI n I I2) {a : Nat} (ha : Nat.ble n a = true) : FI n I (zI I2 a) := fun o ho => by
  have := Nat.le_of_ble_eq_true ha
  rw [zI_ne (by omega)]; exact h o ho
theorem FI.w {n : Nat} {I I2 : Im} (h : FI n I I2) {a j : Nat} {v : Int32} (ha : Nat.ble n a = true) : FI n I (uI I2 a j v) := fun o ho => by
  have := Nat.le_of_ble_eq_true ha
  rw [uI_ne (by omega)]; exact h o ho
theorem Bd.start : Bd (fun _ _ => 0) := ⟨fun _ _ _ _ hb => bnd_0 hb, fun _ _ _ _ hb => bna_0 hb, CK.zero⟩
theorem BZ.at {I : Im} (h : BZ I) {o k : Nat} (hq : (o, k) ∈ ZP) : I o k = 0 := h.2 (o, k) hq
theorem KI.at {L : List (Nat × Nat × Int32)} {I : Im} (h : KI L I) {o k : Nat} {v : Int32} (hq : (o, k, v) ∈ L) : I o k = v := h (o, k, v) hq
theorem BZ.start : BZ (fun _ _ => 0) := ⟨Bd.start, fun _ _ => rfl⟩
/-- what is known of the references -/
def RK (L : List (Nat × Nat × Nat)) (R : Rm) : Prop := ∀ q ∈ L, R q.1 q.2.1 = q.2.2
theorem RK.nil {R : Rm} : RK [] R := fun q h => by cases h
theorem RK.z {L : List (Nat × Nat × Nat)} {R : Rm} (h : RK L R) {a : Nat} (ha : L.all (fun q => !(Nat.beq q.1 a)) = true) : RK L (zR R a) := fun q hq => by
  have h1 := List.all_eq_true.mp ha q hq
  have h2 : ¬ q.1 = a := fun z => by rw [z, Nat.beq_refl] at h1; cases h1
  show (if q.1 = a then (fun _ => 0) else R q.1) q.2.1 = q.2.2
  rw [if_neg h2]; exact h q hq
theorem RK.u {L : List (Nat × Nat × Nat)} {R : Rm} (h : RK L R) {a j v : Nat} (ha : L.all (fun q => !(Nat.beq q.1 a && Nat.beq q.2.1 j)) = true) : RK ((a, j, v) :: L) (uR R a j v) := fun q hq => by
  rcases List.mem_cons.mp hq with rfl | hq
  · show (if a = a then va_up (R a) j v else R a) j = v
    rw [if_pos rfl]; exact if_pos rfl
  · have h1 := List.all_eq_true.mp ha q hq
    show (if q.1 = a then va_up (R a) j v else R q.1) q.2.1 = q.2.2
    by_cases z : q.1 = a
    · rw [if_pos z]
      have h2 : ¬ q.2.1 = j := fun y => by rw [z, y, Nat.beq_refl, Nat.beq_refl] at h1; cases h1
      show (if q.2.1 = j then v else R a q.2.1) = q.2.2
      rw [if_neg h2, ← z]; exact h q hq
    · rw [if_neg z]; exact h q hq
theorem RK.app {A B : List (Nat × Nat × Nat)} {R : Rm} (h : RK A R) (h2 : RK B R) : RK (A ++ B) R := fun q hq => by
  rcases List.mem_append.mp hq with hq | hq
  · exact h q hq
  · exact h2 q hq
/-- the cells before one are as they were -/
def FR (n : Nat) (R R2 : Rm) : Prop := ∀ o, o < n → R2 o = R o
theorem FR.refl (n : Nat) (R : Rm) : FR n R R := fun _ _ => rfl
theorem FR.z {n : Nat} {R R2 : Rm} (h : FR n R R2) {a : Nat} (ha : Nat.ble n a = true) : FR n R (zR R2 a) := fun o ho => by
  have := Nat.le_of_ble_eq_true ha
  show (if o = a then (fun _ => 0) else R2 o) = R o
  rw [if_neg (by omega)]; exact h o ho
theorem FR.u {n : Nat} {R R2 : Rm} (h : FR n R R2) {a j v : Nat} (ha : Nat.ble n a = true) : FR n R (uR R2 a j v) := fun o ho => by
  have := Nat.le_of_ble_eq_true ha
  show (if o = a then va_up (R2 a) j v else R2 o) = R o
  rw [if_neg (by omega)]; exact h o ho
theorem RK.fr {L : List (Nat × Nat × Nat)} {R R2 : Rm} (h : RK L R) {n : Nat} (hf : FR n R R2) (hL : L.all (fun q => Nat.blt q.1 n) = true) : RK L R2 := fun q hq => by
  have h1 := List.all_eq_true.mp hL q hq
  rw [hf q.1 (Nat.lt_of_lt_of_le (Nat.lt_succ_self _) (Nat.le_of_ble_eq_true h1))]; exact h q hq
def lkq (L : List (Nat × Nat × Nat)) (o k : Nat) : Bool := L.any (fun q => Nat.beq q.1 o && (Nat.beq q.2.1 k && !(Nat.beq q.2.2 0)))
theorem RK.ne {L : List (Nat × Nat × Nat)} {R : Rm} (h : RK L R) {o k : Nat} (hq : lkq L o k = true) : ¬ R o k = 0 := by
  obtain ⟨q, h1, h2⟩ := List.any_eq_true.mp hq
  rw [Bool.and_eq_true, Bool.and_eq_true] at h2
  have e1 := Nat.eq_of_beq_eq_true h2.1
  have e2 := Nat.eq_of_beq_eq_true h2.2.1
  intro z
  have h3 := h q h1
  rw [e1, e2, z] at h3
  rw [← h3] at h2
  exact absurd h2.2.2 (by decide)
theorem RK.at {L : List (Nat × Nat × Nat)} {R : Rm} (h : RK L R) {o k v : Nat} (hq : L.contains (o, k, v) = true) : R o k = v := h (o, k, v) (List.contains_iff_mem.mp hq)
theorem amc_of {d mi rk : Nat} {n al kr : Nat} {as : List Value} {I : Im} {J : Jm} {R : Rm} {Q : Qt} {k : List En} (h1 : Nat.beq mi mReader = false) (hc : (mQ mi).1 = k) (hrk : qRk (mQ mi) = rk) (hal : qAl (mQ mi) = al) (hkr : qKr (mQ mi) = kr) (hph : Nat.beq (qPh (mQ mi)) 1 = false) (hlen : (lg_sl as).length ≤ qL (mQ mi)) (h : ∀ P : Kt, Cl (AM d) false false 0 (fun _ => 0) rk (n + al) k (fun n' x y I' J' R' => n' = n + al ∧ (kr = 1 → R' = R) ∧ Q x y I' J' R') P → P 0 n (lv_args 0 as) [] I J R) : AM (d + 1) mi n as I J R Q := by
  unfold AM
  rw [h1]
  refine ⟨hlen, ?_⟩
  rw [hc, hrk, hal, hph, hkr]
  exact h

def lk_X6_init_3 : List (Nat × Nat × Nat) := [(3, 0, 4), (3, 2, 5)]
def zk_X6_init_3 : List (Nat × Nat × Int32) := []
theorem ct_X6_init_3 {d : Nat} {Q : Qt} {I : Im} {J : Jm} {R : Rm} (hB : BZ I) (hQ : ∀ (I2 : Im) (J2 : Jm) (R2 : Rm), BZ I2 → FR 3 R R2 → RK lk_X6_init_3 R2 → FI 3 I I2 → KI zk_X6_init_3 I2 → FJ 3 J J2 → True → Q 0 0 I2 J2 R2) : AM (d + 6) 58 3 [.ref 3] I J R Q := by
  unfold AM
  show hReader 3 [.ref 3] I J R Q
  refine ⟨3, rfl, rfl, ⟨rfl, rfl, rfl, rfl, rfl⟩, ?_⟩
  intro I' J' R' hI hJ hR ⟨b0, r0, r2, i1, i3, i4, i5, i6, i7, i8, i9, j10, i11, i12, i13⟩
  refine hQ I' J' R' ⟨?_, fun q hq => ?_⟩ (fun o ho => hR o (by omega) (by omega) (by omega)) (fun q hq => ?_) (fun o ho => hI o (by omega) (by omega) (by omega)) (fun q hq => by cases hq) (fun o ho => hJ o (by omega) (by omega) (by omega)) trivial
  · refine ⟨fun o k lo hi hb => ?_, fun a j lo hi hb => ?_, ?_⟩
    · by_cases q3 : o = 3
      · subst q3
        have hb2 : bnd 6 k = some (lo, hi) := hb
        unfold bnd at hb2
        split at hb2 <;> first | (rename_i z; cases z) | skip
        all_goals first | (cases hb2; first | (rw [i1]; decide) | (rw [i3]; decide) | (rw [i4]; decide) | (rw [i5]; decide) | (rw [i6]; decide)) | (cases hb2)
      · by_cases q4 : o = 4
        · subst q4; rw [show bnd (clsOf 4) k = none from bnd_A (t := 2) rfl k] at hb; cases hb
        · by_cases q5 : o = 5
          · subst q5; rw [show bnd (clsOf 5) k = none from bnd_A (t := 1) rfl k] at hb; cases hb
          · rw [hI o q3 q4 q5]; exact hB.1.1 o k lo hi hb
    · by_cases q3 : a = 3
      · subst q3; cases hb
      · by_cases q4 : a = 4
        · subst q4; cases hb
        · by_cases q5 : a = 5
          · subst q5; cases hb
          · rw [hI a q3 q4 q5]; exact hB.1.2.1 a j lo hi hb
    · rw [hI 102 (by decide) (by decide) (by decide)]; exact hB.1.2.2
  · have hz : ∀ q ∈ ZP, ¬ q.1 = 4 ∧ ¬ q.1 = 5 ∧ (q.1 = 3 → q.2 = 1) := by decide
    obtain ⟨h4, h5, h3⟩ := hz q hq
    by_cases q3 : q.1 = 3
    · rw [q3, h3 q3]; exact i1
    · rw [hI q.1 q3 h4 h5]; exact hB.2 q hq
  · rcases List.mem_cons.mp hq with rfl | hq
    · exact r0
    · rcases List.mem_cons.mp hq with rfl | hq
      · exact r2
      · cases hq
def zk_X1_init_6 : List (Nat × Nat × Int32) := []
theorem ct_X1_init_6 {d : Nat} {Q : Qt} {I : Im} {J : Jm} {R : Rm} (hB : BZ I) (hQ : ∀ (I2 : Im) (J2 : Jm) (R2 : Rm), BZ I2 → R2 = R → True → FI 6 I I2 → KI zk_X1_init_6 I2 → FJ 6 J J2 → True → Q 0 0 I2 J2 R2) : AM (d + 1) 20 6 [.ref 6] I J R Q := by
  refine amc_of (k := kX1_init) rfl rfl rfl rfl rfl rfl (Nat.le_of_ble_eq_true rfl) (fun P hc => ?_)
  refine cs_X1_init_6_0_6 hc _ _ _ ?_
  refine ⟨Or.inl rfl, ?_⟩
  have hB1 : BZ (uI I 6 0 0) := hB.kw rfl rfl
  have hZ2 : KI ([]) (uI I 6 0 0) := (KI.nil (I := I)).w rfl
  have hI3 : FI 6 I (uI I 6 0 0) := (FI.refl 6 I).w rfl
  refine ⟨Or.inl rfl, ?_⟩
  have hB4 : BZ (uI (uI I 6 0 0) 6 1 0) := hB1.kw rfl rfl
  have hZ5 : KI ([]) (uI (uI I 6 0 0) 6 1 0) := hZ2.w rfl
  have hI6 : FI 6 I (uI (uI I 6 0 0) 6 1 0) := hI3.w rfl
  have hB7 : BZ (uI (uI (uI I 6 0 0) 6 1 0) 6 2 0) := hB4.kw rfl rfl
  have hZ8 : KI ([]) (uI (uI (uI I 6 0 0) 6 1 0) 6 2 0) := hZ5.w rfl
  have hI9 : FI 6 I (uI (uI (uI I 6 0 0) 6 1 0) 6 2 0) := hI6.w rfl
  exact ⟨rfl, fun _ => rfl, hQ _ _ _ hB7 rfl trivial hI9 hZ8 (FJ.refl 6 J) trivial⟩
def zk_X3_init_7 : List (Nat × Nat × Int32) := []
def lk_X3_init_7 : List (Nat × Nat × Nat) := (7, 0, 8) :: ([])
set_option maxHeartbeats 4000000 in
set_option maxRecDepth 100000 in
theorem ct_X3_init_7 {d : Nat} {Q : Qt} {I : Im} {J : Jm} {R : Rm} (hB : BZ I) (hQ : ∀ (I2 : Im) (J2 : Jm) (R2 : Rm), BZ I2 → FR 7 R R2 → RK lk_X3_init_7 R2 → FI 7 I I2 → KI zk_X3_init_7 I2 → FJ 7 J J2 → True → Q 0 0 I2 J2 R2) : AM (d + 1) 32 7 [.ref 7] I J R Q := by
  refine amc_of (k := kX3_init) rfl rfl rfl rfl rfl rfl (Nat.le_of_ble_eq_true rfl) (fun P hc => ?_)
  refine cs_X3_init_7_0_7 hc _ _ _ ?_
  refine ⟨rfl, ?_⟩
  have hB1 : BZ (zI I 8) := hB.z
  have hZ2 : KI ([]) (zI I 8) := (KI.nil (I := I)).z rfl
  have hI3 : FI 7 I (zI I 8) := (FI.refl 7 I).z rfl
  have hJ4 : FJ 7 J (zJ J 8) := (FJ.refl 7 J).z rfl
  have hK5 : RK ([]) (zR R 8) := (RK.nil (R := R)).z rfl
  have hF6 : FR 7 R (zR R 8) := (FR.refl 7 R).z rfl
  have hK7 : RK ((7, 0, 8) :: ([])) (uR (zR R 8) 7 0 8) := hK5.u rfl
  have hF8 : FR 7 R (uR (zR R 8) 7 0 8) := hF6.u rfl
  have hB9 : BZ (uI (zI I 8) 7 1 0) := hB1.kw rfl rfl
  have hZ10 : KI ([]) (uI (zI I 8) 7 1 0) := hZ2.w rfl
  have hI11 : FI 7 I (uI (zI I 8) 7 1 0) := hI3.w rfl
  exact ⟨rfl, fun z => absurd z (by decide), hQ _ _ _ hB9 hF8 hK7 hI11 hZ10 hJ4 trivial⟩
def zk_X0_init_9 : List (Nat × Nat × Int32) := []
def lk_X0_init_9 : List (Nat × Nat × Nat) := (9, 8, 14) :: ((9, 7, 13) :: ((9, 6, 12) :: ((9, 5, 11) :: ((9, 0, 10) :: ([])))))
set_option maxHeartbeats 4000000 in
set_option maxRecDepth 100000 in
theorem ct_X0_init_9 {d : Nat} {Q : Qt} {I : Im} {J : Jm} {R : Rm} (hB : BZ I) (hQ : ∀ (I2 : Im) (J2 : Jm) (R2 : Rm), BZ I2 → FR 9 R R2 → RK lk_X0_init_9 R2 → FI 9 I I2 → KI zk_X0_init_9 I2 → FJ 9 J J2 → True → Q 0 0 I2 J2 R2) : AM (d + 1) 0 9 [.ref 9] I J R Q := by
  refine amc_of (k := kX0_init) rfl rfl rfl rfl rfl rfl (Nat.le_of_ble_eq_true rfl) (fun P hc => ?_)
  refine cs_X0_init_9_0_9 hc _ _ _ ?_
  refine ⟨rfl, ?_⟩
  have hB1 : BZ (zI I 10) := hB.z
  have hZ2 : KI ([]) (zI I 10) := (KI.nil (I := I)).z rfl
  have hI3 : FI 9 I (zI I 10) := (FI.refl 9 I).z rfl
  have hJ4 : FJ 9 J (zJ J 10) := (FJ.refl 9 J).z rfl
  have hK5 : RK ([]) (zR R 10) := (RK.nil (R := R)).z rfl
  have hF6 : FR 9 R (zR R 10) := (FR.refl 9 R).z rfl
  have hK7 : RK ((9, 0, 10) :: ([])) (uR (zR R 10) 9 0 10) := hK5.u rfl
  have hF8 : FR 9 R (uR (zR R 10) 9 0 10) := hF6.u rfl
  have hB9 : BZ (uI (zI I 10) 9 1 4) := hB1.kw rfl rfl
  have hZ10 : KI ([]) (uI (zI I 10) 9 1 4) := hZ2.w rfl
  have hI11 : FI 9 I (uI (zI I 10) 9 1 4) := hI3.w rfl
  have hB12 : BZ (uI (uI (zI I 10) 9 1 4) 9 2 1073741823) := hB9.kw rfl rfl
  have hZ13 : KI ([]) (uI (uI (zI I 10) 9 1 4) 9 2 1073741823) := hZ10.w rfl
  have hI14 : FI 9 I (uI (uI (zI I 10) 9 1 4) 9 2 1073741823) := hI11.w rfl
  have hB15 : BZ (uI (uI (uI (zI I 10) 9 1 4) 9 2 1073741823) 9 3 0) := hB12.kw rfl rfl
  have hZ16 : KI ([]) (uI (uI (uI (zI I 10) 9 1 4) 9 2 1073741823) 9 3 0) := hZ13.w rfl
  have hI17 : FI 9 I (uI (uI (uI (zI I 10) 9 1 4) 9 2 1073741823) 9 3 0) := hI14.w rfl
  have hB18 : BZ (uI (uI (uI (uI (zI I 10) 9 1 4) 9 2 1073741823) 9 3 0) 9 4 0) := hB15.kw rfl rfl
  have hZ19 : KI ([]) (uI (uI (uI (uI (zI I 10) 9 1 4) 9 2 1073741823) 9 3 0) 9 4 0) := hZ16.w rfl
  have hI20 : FI 9 I (uI (uI (uI (uI (zI I 10) 9 1 4) 9 2 1073741823) 9 3 0) 9 4 0) := hI17.w rfl
  refine ⟨rfl, ?_⟩
  have hB21 : BZ (zI (uI (uI (uI (uI (zI I 10) 9 1 4) 9 2 1073741823) 9 3 0) 9 4 0) 11) := hB18.z
  have hZ22 : KI ([]) (zI (uI (uI (uI (uI (zI I 10) 9 1 4) 9 2 1073741823) 9 3 0) 9 4 0) 11) := hZ19.z rfl
  have hI23 : FI 9 I (zI (uI (uI (uI (uI (zI I 10) 9 1 4) 9 2 1073741823) 9 3 0) 9 4 0) 11) := hI20.z rfl
  have hJ24 : FJ 9 J (zJ (zJ J 10) 11) := hJ4.z rfl
  have hK25 : RK ((9, 0, 10) :: ([])) (zR (uR (zR R 10) 9 0 10) 11) := hK7.z rfl
  have hF26 : FR 9 R (zR (uR (zR R 10) 9 0 10) 11) := hF8.z rfl
  have hK27 : RK ((9, 5, 11) :: ((9, 0, 10) :: ([]))) (uR (zR (uR (zR R 10) 9 0 10) 11) 9 5 11) := hK25.u rfl
  have hF28 : FR 9 R (uR (zR (uR (zR R 10) 9 0 10) 11) 9 5 11) := hF26.u rfl
  refine ⟨rfl, ?_⟩
  have hB29 : BZ (zI (zI (uI (uI (uI (uI (zI I 10) 9 1 4) 9 2 1073741823) 9 3 0) 9 4 0) 11) 12) := hB21.z
  have hZ30 : KI ([]) (zI (zI (uI (uI (uI (uI (zI I 10) 9 1 4) 9 2 1073741823) 9 3 0) 9 4 0) 11) 12) := hZ22.z rfl
  have hI31 : FI 9 I (zI (zI (uI (uI (uI (uI (zI I 10) 9 1 4) 9 2 1073741823) 9 3 0) 9 4 0) 11) 12) := hI23.z rfl
  have hJ32 : FJ 9 J (zJ (zJ (zJ J 10) 11) 12) := hJ24.z rfl
  have hK33 : RK ((9, 5, 11) :: ((9, 0, 10) :: ([]))) (zR (uR (zR (uR (zR R 10) 9 0 10) 11) 9 5 11) 12) := hK27.z rfl
  have hF34 : FR 9 R (zR (uR (zR (uR (zR R 10) 9 0 10) 11) 9 5 11) 12) := hF28.z rfl
  have hK35 : RK ((9, 6, 12) :: ((9, 5, 11) :: ((9, 0, 10) :: ([])))) (uR (zR (uR (zR (uR (zR R 10) 9 0 10) 11) 9 5 11) 12) 9 6 12) := hK33.u rfl
  have hF36 : FR 9 R (uR (zR (uR (zR (uR (zR R 10) 9 0 10) 11) 9 5 11) 12) 9 6 12) := hF34.u rfl
  refine ⟨rfl, ?_⟩
  have hB37 : BZ (zI (zI (zI (uI (uI (uI (uI (zI I 10) 9 1 4) 9 2 1073741823) 9 3 0) 9 4 0) 11) 12) 13) := hB29.z
  have hZ38 : KI ([]) (zI (zI (zI (uI (uI (uI (uI (zI I 10) 9 1 4) 9 2 1073741823) 9 3 0) 9 4 0) 11) 12) 13) := hZ30.z rfl
  have hI39 : FI 9 I (zI (zI (zI (uI (uI (uI (uI (zI I 10) 9 1 4) 9 2 1073741823) 9 3 0) 9 4 0) 11) 12) 13) := hI31.z rfl
  have hJ40 : FJ 9 J (zJ (zJ (zJ (zJ J 10) 11) 12) 13) := hJ32.z rfl
  have hK41 : RK ((9, 6, 12) :: ((9, 5, 11) :: ((9, 0, 10) :: ([])))) (zR (uR (zR (uR (zR (uR (zR R 10) 9 0 10) 11) 9 5 11) 12) 9 6 12) 13) := hK35.z rfl
  have hF42 : FR 9 R (zR (uR (zR (uR (zR (uR (zR R 10) 9 0 10) 11) 9 5 11) 12) 9 6 12) 13) := hF36.z rfl
  have hK43 : RK ((9, 7, 13) :: ((9, 6, 12) :: ((9, 5, 11) :: ((9, 0, 10) :: ([]))))) (uR (zR (uR (zR (uR (zR (uR (zR R 10) 9 0 10) 11) 9 5 11) 12) 9 6 12) 13) 9 7 13) := hK41.u rfl
  have hF44 : FR 9 R (uR (zR (uR (zR (uR (zR (uR (zR R 10) 9 0 10) 11) 9 5 11) 12) 9 6 12) 13) 9 7 13) := hF42.u rfl
  refine ⟨rfl, ?_⟩
  have hB45 : BZ (zI (zI (zI (zI (uI (uI (uI (uI (zI I 10) 9 1 4) 9 2 1073741823) 9 3 0) 9 4 0) 11) 12) 13) 14) := hB37.z
  have hZ46 : KI ([]) (zI (zI (zI (zI (uI (uI (uI (uI (zI I 10) 9 1 4) 9 2 1073741823) 9 3 0) 9 4 0) 11) 12) 13) 14) := hZ38.z rfl
  have hI47 : FI 9 I (zI (zI (zI (zI (uI (uI (uI (uI (zI I 10) 9 1 4) 9 2 1073741823) 9 3 0) 9 4 0) 11) 12) 13) 14) := hI39.z rfl
  have hJ48 : FJ 9 J (zJ (zJ (zJ (zJ (zJ J 10) 11) 12) 13) 14) := hJ40.z rfl
  have hK49 : RK ((9, 7, 13) :: ((9, 6, 12) :: ((9, 5, 11) :: ((9, 0, 10) :: ([]))))) (zR (uR (zR (uR (zR (uR (zR (uR (zR R 10) 9 0 10) 11) 9 5 11) 12) 9 6 12) 13) 9 7 13) 14) := hK43.z rfl
  have hF50 : FR 9 R (zR (uR (zR (uR (zR (uR (zR (uR (zR R 10) 9 0 10) 11) 9 5 11) 12) 9 6 12) 13) 9 7 13) 14) := hF44.z rfl
  have hK51 : RK ((9, 8, 14) :: ((9, 7, 13) :: ((9, 6, 12) :: ((9, 5, 11) :: ((9, 0, 10) :: ([])))))) (uR (zR (uR (zR (uR (zR (uR (zR (uR (zR R 10) 9 0 10) 11) 9 5 11) 12) 9 6 12) 13) 9 7 13) 14) 9 8 14) := hK49.u rfl
  have hF52 : FR 9 R (uR (zR (uR (zR (uR (zR (uR (zR (uR (zR R 10) 9 0 10) 11) 9 5 11) 12) 9 6 12) 13) 9 7 13) 14) 9 8 14) := hF50.u rfl
  exact ⟨rfl, fun z => absurd z (by decide), hQ _ _ _ hB45 hF52 hK51 hI47 hZ46 hJ48 trivial⟩
def zk_X0_init_15 : List (Nat × Nat × Int32) := []
def lk_X0_init_15 : List (Nat × Nat × Nat) := (15, 8, 20) :: ((15, 7, 19) :: ((15, 6, 18) :: ((15, 5, 17) :: ((15, 0, 16) :: ([])))))
set_option maxHeartbeats 4000000 in
set_option maxRecDepth 100000 in
theorem ct_X0_init_15 {d : Nat} {Q : Qt} {I : Im} {J : Jm} {R : Rm} (hB : BZ I) (hQ : ∀ (I2 : Im) (J2 : Jm) (R2 : Rm), BZ I2 → FR 15 R R2 → RK lk_X0_init_15 R2 → FI 15 I I2 → KI zk_X0_init_15 I2 → FJ 15 J J2 → True → Q 0 0 I2 J2 R2) : AM (d + 1) 0 15 [.ref 15] I J R Q := by
  refine amc_of (k := kX0_init) rfl rfl rfl rfl rfl rfl (Nat.le_of_ble_eq_true rfl) (fun P hc => ?_)
  refine cs_X0_init_15_0_15 hc _ _ _ ?_
  refine ⟨rfl, ?_⟩
  have hB1 : BZ (zI I 16) := hB.z
  have hZ2 : KI ([]) (zI I 16) := (KI.nil (I := I)).z rfl
  have hI3 : FI 15 I (zI I 16) := (FI.refl 15 I).z rfl
  have hJ4 : FJ 15 J (zJ J 16) := (FJ.refl 15 J).z rfl
  have hK5 : RK ([]) (zR R 16) := (RK.nil (R := R)).z rfl
  have hF6 : FR 15 R (zR R 16) := (FR.refl 15 R).z rfl
  have hK7 : RK ((15, 0, 16) :: ([])) (uR (zR R 16) 15 0 16) := hK5.u rfl
  have hF8 : FR 15 R (uR (zR R 16) 15 0 16) := hF6.u rfl
  have hB9 : BZ (uI (zI I 16) 15 1 4) := hB1.kw rfl rfl
  have hZ10 : KI ([]) (uI (zI I 16) 15 1 4) := hZ2.w rfl
  have hI11 : FI 15 I (uI (zI I 16) 15 1 4) := hI3.w rfl
  have hB12 : BZ (uI (uI (zI I 16) 15 1 4) 15 2 1073741823) := hB9.kw rfl rfl
  have hZ13 : KI ([]) (uI (uI (zI I 16) 15 1 4) 15 2 1073741823) := hZ10.w rfl
  have hI14 : FI 15 I (uI (uI (zI I 16) 15 1 4) 15 2 1073741823) := hI11.w rfl
  have hB15 : BZ (uI (uI (uI (zI I 16) 15 1 4) 15 2 1073741823) 15 3 0) := hB12.kw rfl rfl
  have hZ16 : KI ([]) (uI (uI (uI (zI I 16) 15 1 4) 15 2 1073741823) 15 3 0) := hZ13.w rfl
  have hI17 : FI 15 I (uI (uI (uI (zI I 16) 15 1 4) 15 2 1073741823) 15 3 0) := hI14.w rfl
  have hB18 : BZ (uI (uI (uI (uI (zI I 16) 15 1 4) 15 2 1073741823) 15 3 0) 15 4 0) := hB15.kw rfl rfl
  have hZ19 : KI ([]) (uI (uI (uI (uI (zI I 16) 15 1 4) 15 2 1073741823) 15 3 0) 15 4 0) := hZ16.w rfl
  have hI20 : FI 15 I (uI (uI (uI (uI (zI I 16) 15 1 4) 15 2 1073741823) 15 3 0) 15 4 0) := hI17.w rfl
  refine ⟨rfl, ?_⟩
  have hB21 : BZ (zI (uI (uI (uI (uI (zI I 16) 15 1 4) 15 2 1073741823) 15 3 0) 15 4 0) 17) := hB18.z
  have hZ22 : KI ([]) (zI (uI (uI (uI (uI (zI I 16) 15 1 4) 15 2 1073741823) 15 3 0) 15 4 0) 17) := hZ19.z rfl
  have hI23 : FI 15 I (zI (uI (uI (uI (uI (zI I 16) 15 1 4) 15 2 1073741823) 15 3 0) 15 4 0) 17) := hI20.z rfl
  have hJ24 : FJ 15 J (zJ (zJ J 16) 17) := hJ4.z rfl
  have hK25 : RK ((15, 0, 16) :: ([])) (zR (uR (zR R 16) 15 0 16) 17) := hK7.z rfl
  have hF26 : FR 15 R (zR (uR (zR R 16) 15 0 16) 17) := hF8.z rfl
  have hK27 : RK ((15, 5, 17) :: ((15, 0, 16) :: ([]))) (uR (zR (uR (zR R 16) 15 0 16) 17) 15 5 17) := hK25.u rfl
  have hF28 : FR 15 R (uR (zR (uR (zR R 16) 15 0 16) 17) 15 5 17) := hF26.u rfl
  refine ⟨rfl, ?_⟩
  have hB29 : BZ (zI (zI (uI (uI (uI (uI (zI I 16) 15 1 4) 15 2 1073741823) 15 3 0) 15 4 0) 17) 18) := hB21.z
  have hZ30 : KI ([]) (zI (zI (uI (uI (uI (uI (zI I 16) 15 1 4) 15 2 1073741823) 15 3 0) 15 4 0) 17) 18) := hZ22.z rfl
  have hI31 : FI 15 I (zI (zI (uI (uI (uI (uI (zI I 16) 15 1 4) 15 2 1073741823) 15 3 0) 15 4 0) 17) 18) := hI23.z rfl
  have hJ32 : FJ 15 J (zJ (zJ (zJ J 16) 17) 18) := hJ24.z rfl
  have hK33 : RK ((15, 5, 17) :: ((15, 0, 16) :: ([]))) (zR (uR (zR (uR (zR R 16) 15 0 16) 17) 15 5 17) 18) := hK27.z rfl
  have hF34 : FR 15 R (zR (uR (zR (uR (zR R 16) 15 0 16) 17) 15 5 17) 18) := hF28.z rfl
  have hK35 : RK ((15, 6, 18) :: ((15, 5, 17) :: ((15, 0, 16) :: ([])))) (uR (zR (uR (zR (uR (zR R 16) 15 0 16) 17) 15 5 17) 18) 15 6 18) := hK33.u rfl
  have hF36 : FR 15 R (uR (zR (uR (zR (uR (zR R 16) 15 0 16) 17) 15 5 17) 18) 15 6 18) := hF34.u rfl
  refine ⟨rfl, ?_⟩
  have hB37 : BZ (zI (zI (zI (uI (uI (uI (uI (zI I 16) 15 1 4) 15 2 1073741823) 15 3 0) 15 4 0) 17) 18) 19) := hB29.z
  have hZ38 : KI ([]) (zI (zI (zI (uI (uI (uI (uI (zI I 16) 15 1 4) 15 2 1073741823) 15 3 0) 15 4 0) 17) 18) 19) := hZ30.z rfl
  have hI39 : FI 15 I (zI (zI (zI (uI (uI (uI (uI (zI I 16) 15 1 4) 15 2 1073741823) 15 3 0) 15 4 0) 17) 18) 19) := hI31.z rfl
  have hJ40 : FJ 15 J (zJ (zJ (zJ (zJ J 16) 17) 18) 19) := hJ32.z rfl
  have hK41 : RK ((15, 6, 18) :: ((15, 5, 17) :: ((15, 0, 16) :: ([])))) (zR (uR (zR (uR (zR (uR (zR R 16) 15 0 16) 17) 15 5 17) 18) 15 6 18) 19) := hK35.z rfl
  have hF42 : FR 15 R (zR (uR (zR (uR (zR (uR (zR R 16) 15 0 16) 17) 15 5 17) 18) 15 6 18) 19) := hF36.z rfl
  have hK43 : RK ((15, 7, 19) :: ((15, 6, 18) :: ((15, 5, 17) :: ((15, 0, 16) :: ([]))))) (uR (zR (uR (zR (uR (zR (uR (zR R 16) 15 0 16) 17) 15 5 17) 18) 15 6 18) 19) 15 7 19) := hK41.u rfl
  have hF44 : FR 15 R (uR (zR (uR (zR (uR (zR (uR (zR R 16) 15 0 16) 17) 15 5 17) 18) 15 6 18) 19) 15 7 19) := hF42.u rfl
  refine ⟨rfl, ?_⟩
  have hB45 : BZ (zI (zI (zI (zI (uI (uI (uI (uI (zI I 16) 15 1 4) 15 2 1073741823) 15 3 0) 15 4 0) 17) 18) 19) 20) := hB37.z
  have hZ46 : KI ([]) (zI (zI (zI (zI (uI (uI (uI (uI (zI I 16) 15 1 4) 15 2 1073741823) 15 3 0) 15 4 0) 17) 18) 19) 20) := hZ38.z rfl
  have hI47 : FI 15 I (zI (zI (zI (zI (uI (uI (uI (uI (zI I 16) 15 1 4) 15 2 1073741823) 15 3 0) 15 4 0) 17) 18) 19) 20) := hI39.z rfl
  have hJ48 : FJ 15 J (zJ (zJ (zJ (zJ (zJ J 16) 17) 18) 19) 20) := hJ40.z rfl
  have hK49 : RK ((15, 7, 19) :: ((15, 6, 18) :: ((15, 5, 17) :: ((15, 0, 16) :: ([]))))) (zR (uR (zR (uR (zR (uR (zR (uR (zR R 16) 15 0 16) 17) 15 5 17) 18) 15 6 18) 19) 15 7 19) 20) := hK43.z rfl
  have hF50 : FR 15 R (zR (uR (zR (uR (zR (uR (zR (uR (zR R 16) 15 0 16) 17) 15 5 17) 18) 15 6 18) 19) 15 7 19) 20) := hF44.z rfl
  have hK51 : RK ((15, 8, 20) :: ((15, 7, 19) :: ((15, 6, 18) :: ((15, 5, 17) :: ((15, 0, 16) :: ([])))))) (uR (zR (uR (zR (uR (zR (uR (zR (uR (zR R 16) 15 0 16) 17) 15 5 17) 18) 15 6 18) 19) 15 7 19) 20) 15 8 20) := hK49.u rfl
  have hF52 : FR 15 R (uR (zR (uR (zR (uR (zR (uR (zR (uR (zR R 16) 15 0 16) 17) 15 5 17) 18) 15 6 18) 19) 15 7 19) 20) 15 8 20) := hF50.u rfl
  exact ⟨rfl, fun z => absurd z (by decide), hQ _ _ _ hB45 hF52 hK51 hI47 hZ46 hJ48 trivial⟩
def zk_X2_init_21 : List (Nat × Nat × Int32) := []
def lk_X2_init_21 : List (Nat × Nat × Nat) := (21, 7, 26) :: ((21, 6, 25) :: ((21, 5, 24) :: ((21, 4, 23) :: ((21, 3, 22) :: ([])))))
set_option maxHeartbeats 4000000 in
set_option maxRecDepth 100000 in
theorem ct_X2_init_21 {d : Nat} {Q : Qt} {I : Im} {J : Jm} {R : Rm} (hB : BZ I) (hQ : ∀ (I2 : Im) (J2 : Jm) (R2 : Rm), BZ I2 → FR 21 R R2 → RK lk_X2_init_21 R2 → FI 21 I I2 → KI zk_X2_init_21 I2 → FJ 21 J J2 → True → Q 0 0 I2 J2 R2) : AM (d + 1) 27 21 [.ref 21] I J R Q := by
  refine amc_of (k := kX2_init) rfl rfl rfl rfl rfl rfl (Nat.le_of_ble_eq_true rfl) (fun P hc => ?_)
  refine cs_X2_init_21_0_21 hc _ _ _ ?_
  refine ⟨Or.inl rfl, ?_⟩
  have hB1 : BZ (uI I 21 0 0) := hB.kw rfl rfl
  have hZ2 : KI ([]) (uI I 21 0 0) := (KI.nil (I := I)).w rfl
  have hI3 : FI 21 I (uI I 21 0 0) := (FI.refl 21 I).w rfl
  have hB4 : BZ (uI (uI I 21 0 0) 21 1 0) := hB1.kw rfl rfl
  have hZ5 : KI ([]) (uI (uI I 21 0 0) 21 1 0) := hZ2.w rfl
  have hI6 : FI 21 I (uI (uI I 21 0 0) 21 1 0) := hI3.w rfl
  have hB7 : BZ (uI (uI (uI I 21 0 0) 21 1 0) 21 2 0) := hB4.kw rfl rfl
  have hZ8 : KI ([]) (uI (uI (uI I 21 0 0) 21 1 0) 21 2 0) := hZ5.w rfl
  have hI9 : FI 21 I (uI (uI (uI I 21 0 0) 21 1 0) 21 2 0) := hI6.w rfl
  refine ⟨rfl, ?_⟩
  have hB10 : BZ (zI (uI (uI (uI I 21 0 0) 21 1 0) 21 2 0) 22) := hB7.z
  have hZ11 : KI ([]) (zI (uI (uI (uI I 21 0 0) 21 1 0) 21 2 0) 22) := hZ8.z rfl
  have hI12 : FI 21 I (zI (uI (uI (uI I 21 0 0) 21 1 0) 21 2 0) 22) := hI9.z rfl
  have hJ13 : FJ 21 J (zJ J 22) := (FJ.refl 21 J).z rfl
  have hK14 : RK ([]) (zR R 22) := (RK.nil (R := R)).z rfl
  have hF15 : FR 21 R (zR R 22) := (FR.refl 21 R).z rfl
  have hK16 : RK ((21, 3, 22) :: ([])) (uR (zR R 22) 21 3 22) := hK14.u rfl
  have hF17 : FR 21 R (uR (zR R 22) 21 3 22) := hF15.u rfl
  refine ⟨rfl, ?_⟩
  have hB18 : BZ (zI (zI (uI (uI (uI I 21 0 0) 21 1 0) 21 2 0) 22) 23) := hB10.z
  have hZ19 : KI ([]) (zI (zI (uI (uI (uI I 21 0 0) 21 1 0) 21 2 0) 22) 23) := hZ11.z rfl
  have hI20 : FI 21 I (zI (zI (uI (uI (uI I 21 0 0) 21 1 0) 21 2 0) 22) 23) := hI12.z rfl
  have hJ21 : FJ 21 J (zJ (zJ J 22) 23) := hJ13.z rfl
  have hK22 : RK ((21, 3, 22) :: ([])) (zR (uR (zR R 22) 21 3 22) 23) := hK16.z rfl
  have hF23 : FR 21 R (zR (uR (zR R 22) 21 3 22) 23) := hF17.z rfl
  have hK24 : RK ((21, 4, 23) :: ((21, 3, 22) :: ([]))) (uR (zR (uR (zR R 22) 21 3 22) 23) 21 4 23) := hK22.u rfl
  have hF25 : FR 21 R (uR (zR (uR (zR R 22) 21 3 22) 23) 21 4 23) := hF23.u rfl
  refine ⟨rfl, ?_⟩
  have hB26 : BZ (zI (zI (zI (uI (uI (uI I 21 0 0) 21 1 0) 21 2 0) 22) 23) 24) := hB18.z
  have hZ27 : KI ([]) (zI (zI (zI (uI (uI (uI I 21 0 0) 21 1 0) 21 2 0) 22) 23) 24) := hZ19.z rfl
  have hI28 : FI 21 I (zI (zI (zI (uI (uI (uI I 21 0 0) 21 1 0) 21 2 0) 22) 23) 24) := hI20.z rfl
  have hJ29 : FJ 21 J (zJ (zJ (zJ J 22) 23) 24) := hJ21.z rfl
  have hK30 : RK ((21, 4, 23) :: ((21, 3, 22) :: ([]))) (zR (uR (zR (uR (zR R 22) 21 3 22) 23) 21 4 23) 24) := hK24.z rfl
  have hF31 : FR 21 R (zR (uR (zR (uR (zR R 22) 21 3 22) 23) 21 4 23) 24) := hF25.z rfl
  have hK32 : RK ((21, 5, 24) :: ((21, 4, 23) :: ((21, 3, 22) :: ([])))) (uR (zR (uR (zR (uR (zR R 22) 21 3 22) 23) 21 4 23) 24) 21 5 24) := hK30.u rfl
  have hF33 : FR 21 R (uR (zR (uR (zR (uR (zR R 22) 21 3 22) 23) 21 4 23) 24) 21 5 24) := hF31.u rfl
  refine ⟨rfl, ?_⟩
  have hB34 : BZ (zI (zI (zI (zI (uI (uI (uI I 21 0 0) 21 1 0) 21 2 0) 22) 23) 24) 25) := hB26.z
  have hZ35 : KI ([]) (zI (zI (zI (zI (uI (uI (uI I 21 0 0) 21 1 0) 21 2 0) 22) 23) 24) 25) := hZ27.z rfl
  have hI36 : FI 21 I (zI (zI (zI (zI (uI (uI (uI I 21 0 0) 21 1 0) 21 2 0) 22) 23) 24) 25) := hI28.z rfl
  have hJ37 : FJ 21 J (zJ (zJ (zJ (zJ J 22) 23) 24) 25) := hJ29.z rfl
  have hK38 : RK ((21, 5, 24) :: ((21, 4, 23) :: ((21, 3, 22) :: ([])))) (zR (uR (zR (uR (zR (uR (zR R 22) 21 3 22) 23) 21 4 23) 24) 21 5 24) 25) := hK32.z rfl
  have hF39 : FR 21 R (zR (uR (zR (uR (zR (uR (zR R 22) 21 3 22) 23) 21 4 23) 24) 21 5 24) 25) := hF33.z rfl
  have hK40 : RK ((21, 6, 25) :: ((21, 5, 24) :: ((21, 4, 23) :: ((21, 3, 22) :: ([]))))) (uR (zR (uR (zR (uR (zR (uR (zR R 22) 21 3 22) 23) 21 4 23) 24) 21 5 24) 25) 21 6 25) := hK38.u rfl
  have hF41 : FR 21 R (uR (zR (uR (zR (uR (zR (uR (zR R 22) 21 3 22) 23) 21 4 23) 24) 21 5 24) 25) 21 6 25) := hF39.u rfl
  refine ⟨rfl, ?_⟩
  have hB42 : BZ (zI (zI (zI (zI (zI (uI (uI (uI I 21 0 0) 21 1 0) 21 2 0) 22) 23) 24) 25) 26) := hB34.z
  have hZ43 : KI ([]) (zI (zI (zI (zI (zI (uI (uI (uI I 21 0 0) 21 1 0) 21 2 0) 22) 23) 24) 25) 26) := hZ35.z rfl
  have hI44 : FI 21 I (zI (zI (zI (zI (zI (uI (uI (uI I 21 0 0) 21 1 0) 21 2 0) 22) 23) 24) 25) 26) := hI36.z rfl
  have hJ45 : FJ 21 J (zJ (zJ (zJ (zJ (zJ J 22) 23) 24) 25) 26) := hJ37.z rfl
  have hK46 : RK ((21, 6, 25) :: ((21, 5, 24) :: ((21, 4, 23) :: ((21, 3, 22) :: ([]))))) (zR (uR (zR (uR (zR (uR (zR (uR (zR R 22) 21 3 22) 23) 21 4 23) 24) 21 5 24) 25) 21 6 25) 26) := hK40.z rfl
  have hF47 : FR 21 R (zR (uR (zR (uR (zR (uR (zR (uR (zR R 22) 21 3 22) 23) 21 4 23) 24) 21 5 24) 25) 21 6 25) 26) := hF41.z rfl
  have hK48 : RK ((21, 7, 26) :: ((21, 6, 25) :: ((21, 5, 24) :: ((21, 4, 23) :: ((21, 3, 22) :: ([])))))) (uR (zR (uR (zR (uR (zR (uR (zR (uR (zR R 22) 21 3 22) 23) 21 4 23) 24) 21 5 24) 25) 21 6 25) 26) 21 7 26) := hK46.u rfl
  have hF49 : FR 21 R (uR (zR (uR (zR (uR (zR (uR (zR (uR (zR R 22) 21 3 22) 23) 21 4 23) 24) 21 5 24) 25) 21 6 25) 26) 21 7 26) := hF47.u rfl
  exact ⟨rfl, fun z => absurd z (by decide), hQ _ _ _ hB42 hF49 hK48 hI44 hZ43 hJ45 trivial⟩
def zk_X2_init_27 : List (Nat × Nat × Int32) := []
def lk_X2_init_27 : List (Nat × Nat × Nat) := (27, 7, 32) :: ((27, 6, 31) :: ((27, 5, 30) :: ((27, 4, 29) :: ((27, 3, 28) :: ([])))))
set_option maxHeartbeats 4000000 in
set_option maxRecDepth 100000 in
theorem ct_X2_init_27 {d : Nat} {Q : Qt} {I : Im} {J : Jm} {R : Rm} (hB : BZ I) (hQ : ∀ (I2 : Im) (J2 : Jm) (R2 : Rm), BZ I2 → FR 27 R R2 → RK lk_X2_init_27 R2 → FI 27 I I2 → KI zk_X2_init_27 I2 → FJ 27 J J2 → True → Q 0 0 I2 J2 R2) : AM (d + 1) 27 27 [.ref 27] I J R Q := by
  refine amc_of (k := kX2_init) rfl rfl rfl rfl rfl rfl (Nat.le_of_ble_eq_true rfl) (fun P hc => ?_)
  refine cs_X2_init_27_0_27 hc _ _ _ ?_
  refine ⟨Or.inl rfl, ?_⟩
  have hB1 : BZ (uI I 27 0 0) := hB.kw rfl rfl
  have hZ2 : KI ([]) (uI I 27 0 0) := (KI.nil (I := I)).w rfl
  have hI3 : FI 27 I (uI I 27 0 0) := (FI.refl 27 I).w rfl
  have hB4 : BZ (uI (uI I 27 0 0) 27 1 0) := hB1.kw rfl rfl
  have hZ5 : KI ([]) (uI (uI I 27 0 0) 27 1 0) := hZ2.w rfl
  have hI6 : FI 27 I (uI (uI I 27 0 0) 27 1 0) := hI3.w rfl
  have hB7 : BZ (uI (uI (uI I 27 0 0) 27 1 0) 27 2 0) := hB4.kw rfl rfl
  have hZ8 : KI ([]) (uI (uI (uI I 27 0 0) 27 1 0) 27 2 0) := hZ5.w rfl
  have hI9 : FI 27 I (uI (uI (uI I 27 0 0) 27 1 0) 27 2 0) := hI6.w rfl
  refine ⟨rfl, ?_⟩
  have hB10 : BZ (zI (uI (uI (uI I 27 0 0) 27 1 0) 27 2 0) 28) := hB7.z
  have hZ11 : KI ([]) (zI (uI (uI (uI I 27 0 0) 27 1 0) 27 2 0) 28) := hZ8.z rfl
  have hI12 : FI 27 I (zI (uI (uI (uI I 27 0 0) 27 1 0) 27 2 0) 28) := hI9.z rfl
  have hJ13 : FJ 27 J (zJ J 28) := (FJ.refl 27 J).z rfl
  have hK14 : RK ([]) (zR R 28) := (RK.nil (R := R)).z rfl
  have hF15 : FR 27 R (zR R 28) := (FR.refl 27 R).z rfl
  have hK16 : RK ((27, 3, 28) :: ([])) (uR (zR R 28) 27 3 28) := hK14.u rfl
  have hF17 : FR 27 R (uR (zR R 28) 27 3 28) := hF15.u rfl
  refine ⟨rfl, ?_⟩
  have hB18 : BZ (zI (zI (uI (uI (uI I 27 0 0) 27 1 0) 27 2 0) 28) 29) := hB10.z
  have hZ19 : KI ([]) (zI (zI (uI (uI (uI I 27 0 0) 27 1 0) 27 2 0) 28) 29) := hZ11.z rfl
  have hI20 : FI 27 I (zI (zI (uI (uI (uI I 27 0 0) 27 1 0) 27 2 0) 28) 29) := hI12.z rfl
  have hJ21 : FJ 27 J (zJ (zJ J 28) 29) := hJ13.z rfl
  have hK22 : RK ((27, 3, 28) :: ([])) (zR (uR (zR R 28) 27 3 28) 29) := hK16.z rfl
  have hF23 : FR 27 R (zR (uR (zR R 28) 27 3 28) 29) := hF17.z rfl
  have hK24 : RK ((27, 4, 29) :: ((27, 3, 28) :: ([]))) (uR (zR (uR (zR R 28) 27 3 28) 29) 27 4 29) := hK22.u rfl
  have hF25 : FR 27 R (uR (zR (uR (zR R 28) 27 3 28) 29) 27 4 29) := hF23.u rfl
  refine ⟨rfl, ?_⟩
  have hB26 : BZ (zI (zI (zI (uI (uI (uI I 27 0 0) 27 1 0) 27 2 0) 28) 29) 30) := hB18.z
  have hZ27 : KI ([]) (zI (zI (zI (uI (uI (uI I 27 0 0) 27 1 0) 27 2 0) 28) 29) 30) := hZ19.z rfl
  have hI28 : FI 27 I (zI (zI (zI (uI (uI (uI I 27 0 0) 27 1 0) 27 2 0) 28) 29) 30) := hI20.z rfl
  have hJ29 : FJ 27 J (zJ (zJ (zJ J 28) 29) 30) := hJ21.z rfl
  have hK30 : RK ((27, 4, 29) :: ((27, 3, 28) :: ([]))) (zR (uR (zR (uR (zR R 28) 27 3 28) 29) 27 4 29) 30) := hK24.z rfl
  have hF31 : FR 27 R (zR (uR (zR (uR (zR R 28) 27 3 28) 29) 27 4 29) 30) := hF25.z rfl
  have hK32 : RK ((27, 5, 30) :: ((27, 4, 29) :: ((27, 3, 28) :: ([])))) (uR (zR (uR (zR (uR (zR R 28) 27 3 28) 29) 27 4 29) 30) 27 5 30) := hK30.u rfl
  have hF33 : FR 27 R (uR (zR (uR (zR (uR (zR R 28) 27 3 28) 29) 27 4 29) 30) 27 5 30) := hF31.u rfl
  refine ⟨rfl, ?_⟩
  have hB34 : BZ (zI (zI (zI (zI (uI (uI (uI I 27 0 0) 27 1 0) 27 2 0) 28) 29) 30) 31) := hB26.z
  have hZ35 : KI ([]) (zI (zI (zI (zI (uI (uI (uI I 27 0 0) 27 1 0) 27 2 0) 28) 29) 30) 31) := hZ27.z rfl
  have hI36 : FI 27 I (zI (zI (zI (zI (uI (uI (uI I 27 0 0) 27 1 0) 27 2 0) 28) 29) 30) 31) := hI28.z rfl
  have hJ37 : FJ 27 J (zJ (zJ (zJ (zJ J 28) 29) 30) 31) := hJ29.z rfl
  have hK38 : RK ((27, 5, 30) :: ((27, 4, 29) :: ((27, 3, 28) :: ([])))) (zR (uR (zR (uR (zR (uR (zR R 28) 27 3 28) 29) 27 4 29) 30) 27 5 30) 31) := hK32.z rfl
  have hF39 : FR 27 R (zR (uR (zR (uR (zR (uR (zR R 28) 27 3 28) 29) 27 4 29) 30) 27 5 30) 31) := hF33.z rfl
  have hK40 : RK ((27, 6, 31) :: ((27, 5, 30) :: ((27, 4, 29) :: ((27, 3, 28) :: ([]))))) (uR (zR (uR (zR (uR (zR (uR (zR R 28) 27 3 28) 29) 27 4 29) 30) 27 5 30) 31) 27 6 31) := hK38.u rfl
  have hF41 : FR 27 R (uR (zR (uR (zR (uR (zR (uR (zR R 28) 27 3 28) 29) 27 4 29) 30) 27 5 30) 31) 27 6 31) := hF39.u rfl
  refine ⟨rfl, ?_⟩
  have hB42 : BZ (zI (zI (zI (zI (zI (uI (uI (uI I 27 0 0) 27 1 0) 27 2 0) 28) 29) 30) 31) 32) := hB34.z
  have hZ43 : KI ([]) (zI (zI (zI (zI (zI (uI (uI (uI I 27 0 0) 27 1 0) 27 2 0) 28) 29) 30) 31) 32) := hZ35.z rfl
  have hI44 : FI 27 I (zI (zI (zI (zI (zI (uI (uI (uI I 27 0 0) 27 1 0) 27 2 0) 28) 29) 30) 31) 32) := hI36.z rfl
  have hJ45 : FJ 27 J (zJ (zJ (zJ (zJ (zJ J 28) 29) 30) 31) 32) := hJ37.z rfl
  have hK46 : RK ((27, 6, 31) :: ((27, 5, 30) :: ((27, 4, 29) :: ((27, 3, 28) :: ([]))))) (zR (uR (zR (uR (zR (uR (zR (uR (zR R 28) 27 3 28) 29) 27 4 29) 30) 27 5 30) 31) 27 6 31) 32) := hK40.z rfl
  have hF47 : FR 27 R (zR (uR (zR (uR (zR (uR (zR (uR (zR R 28) 27 3 28) 29) 27 4 29) 30) 27 5 30) 31) 27 6 31) 32) := hF41.z rfl
  have hK48 : RK ((27, 7, 32) :: ((27, 6, 31) :: ((27, 5, 30) :: ((27, 4, 29) :: ((27, 3, 28) :: ([])))))) (uR (zR (uR (zR (uR (zR (uR (zR (uR (zR R 28) 27 3 28) 29) 27 4 29) 30) 27 5 30) 31) 27 6 31) 32) 27 7 32) := hK46.u rfl
  have hF49 : FR 27 R (uR (zR (uR (zR (uR (zR (uR (zR (uR (zR R 28) 27 3 28) 29) 27 4 29) 30) 27 5 30) 31) 27 6 31) 32) 27 7 32) := hF47.u rfl
  exact ⟨rfl, fun z => absurd z (by decide), hQ _ _ _ hB42 hF49 hK48 hI44 hZ43 hJ45 trivial⟩
def zk_X7_init_35 : List (Nat × Nat × Int32) := []
def lk_X7_init_35 : List (Nat × Nat × Nat) := (35, 7, 38) :: ((35, 4, 37) :: ((35, 3, 36) :: ([])))
set_option maxHeartbeats 4000000 in
set_option maxRecDepth 100000 in
theorem ct_X7_init_35 {d : Nat} {Q : Qt} {I : Im} {J : Jm} {R : Rm} (hB : BZ I) (hQ : ∀ (I2 : Im) (J2 : Jm) (R2 : Rm), BZ I2 → FR 35 R R2 → RK lk_X7_init_35 R2 → FI 35 I I2 → KI zk_X7_init_35 I2 → FJ 35 J J2 → True → Q 0 0 I2 J2 R2) : AM (d + 1) 74 35 [.ref 35] I J R Q := by
  refine amc_of (k := kX7_init) rfl rfl rfl rfl rfl rfl (Nat.le_of_ble_eq_true rfl) (fun P hc => ?_)
  refine cs_X7_init_35_0_35 hc _ _ _ ?_
  have hB1 : BZ (uI I 35 0 0) := hB.kw rfl rfl
  have hZ2 : KI ([]) (uI I 35 0 0) := (KI.nil (I := I)).w rfl
  have hI3 : FI 35 I (uI I 35 0 0) := (FI.refl 35 I).w rfl
  have hB4 : BZ (uI (uI I 35 0 0) 35 1 0) := hB1.kw rfl rfl
  have hZ5 : KI ([]) (uI (uI I 35 0 0) 35 1 0) := hZ2.w rfl
  have hI6 : FI 35 I (uI (uI I 35 0 0) 35 1 0) := hI3.w rfl
  have hB7 : BZ (uI (uI (uI I 35 0 0) 35 1 0) 35 2 0) := hB4.kw rfl rfl
  have hZ8 : KI ([]) (uI (uI (uI I 35 0 0) 35 1 0) 35 2 0) := hZ5.w rfl
  have hI9 : FI 35 I (uI (uI (uI I 35 0 0) 35 1 0) 35 2 0) := hI6.w rfl
  refine ⟨rfl, ?_⟩
  have hB10 : BZ (zI (uI (uI (uI I 35 0 0) 35 1 0) 35 2 0) 36) := hB7.z
  have hZ11 : KI ([]) (zI (uI (uI (uI I 35 0 0) 35 1 0) 35 2 0) 36) := hZ8.z rfl
  have hI12 : FI 35 I (zI (uI (uI (uI I 35 0 0) 35 1 0) 35 2 0) 36) := hI9.z rfl
  have hJ13 : FJ 35 J (zJ J 36) := (FJ.refl 35 J).z rfl
  have hK14 : RK ([]) (zR R 36) := (RK.nil (R := R)).z rfl
  have hF15 : FR 35 R (zR R 36) := (FR.refl 35 R).z rfl
  have hK16 : RK ((35, 3, 36) :: ([])) (uR (zR R 36) 35 3 36) := hK14.u rfl
  have hF17 : FR 35 R (uR (zR R 36) 35 3 36) := hF15.u rfl
  refine ⟨rfl, ?_⟩
  have hB18 : BZ (zI (zI (uI (uI (uI I 35 0 0) 35 1 0) 35 2 0) 36) 37) := hB10.z
  have hZ19 : KI ([]) (zI (zI (uI (uI (uI I 35 0 0) 35 1 0) 35 2 0) 36) 37) := hZ11.z rfl
  have hI20 : FI 35 I (zI (zI (uI (uI (uI I 35 0 0) 35 1 0) 35 2 0) 36) 37) := hI12.z rfl
  have hJ21 : FJ 35 J (zJ (zJ J 36) 37) := hJ13.z rfl
  have hK22 : RK ((35, 3, 36) :: ([])) (zR (uR (zR R 36) 35 3 36) 37) := hK16.z rfl
  have hF23 : FR 35 R (zR (uR (zR R 36) 35 3 36) 37) := hF17.z rfl
  have hK24 : RK ((35, 4, 37) :: ((35, 3, 36) :: ([]))) (uR (zR (uR (zR R 36) 35 3 36) 37) 35 4 37) := hK22.u rfl
  have hF25 : FR 35 R (uR (zR (uR (zR R 36) 35 3 36) 37) 35 4 37) := hF23.u rfl
  have hB26 : BZ (uI (zI (zI (uI (uI (uI I 35 0 0) 35 1 0) 35 2 0) 36) 37) 35 5 0) := hB18.kw rfl rfl
  have hZ27 : KI ([]) (uI (zI (zI (uI (uI (uI I 35 0 0) 35 1 0) 35 2 0) 36) 37) 35 5 0) := hZ19.w rfl
  have hI28 : FI 35 I (uI (zI (zI (uI (uI (uI I 35 0 0) 35 1 0) 35 2 0) 36) 37) 35 5 0) := hI20.w rfl
  have hB29 : BZ (uI (uI (zI (zI (uI (uI (uI I 35 0 0) 35 1 0) 35 2 0) 36) 37) 35 5 0) 35 6 0) := hB26.kw rfl rfl
  have hZ30 : KI ([]) (uI (uI (zI (zI (uI (uI (uI I 35 0 0) 35 1 0) 35 2 0) 36) 37) 35 5 0) 35 6 0) := hZ27.w rfl
  have hI31 : FI 35 I (uI (uI (zI (zI (uI (uI (uI I 35 0 0) 35 1 0) 35 2 0) 36) 37) 35 5 0) 35 6 0) := hI28.w rfl
  refine ⟨rfl, ?_⟩
  have hB32 : BZ (zI (uI (uI (zI (zI (uI (uI (uI I 35 0 0) 35 1 0) 35 2 0) 36) 37) 35 5 0) 35 6 0) 38) := hB29.z
  have hZ33 : KI ([]) (zI (uI (uI (zI (zI (uI (uI (uI I 35 0 0) 35 1 0) 35 2 0) 36) 37) 35 5 0) 35 6 0) 38) := hZ30.z rfl
  have hI34 : FI 35 I (zI (uI (uI (zI (zI (uI (uI (uI I 35 0 0) 35 1 0) 35 2 0) 36) 37) 35 5 0) 35 6 0) 38) := hI31.z rfl
  have hJ35 : FJ 35 J (zJ (zJ (zJ J 36) 37) 38) := hJ21.z rfl
  have hK36 : RK ((35, 4, 37) :: ((35, 3, 36) :: ([]))) (zR (uR (zR (uR (zR R 36) 35 3 36) 37) 35 4 37) 38) := hK24.z rfl
  have hF37 : FR 35 R (zR (uR (zR (uR (zR R 36) 35 3 36) 37) 35 4 37) 38) := hF25.z rfl
  have hK38 : RK ((35, 7, 38) :: ((35, 4, 37) :: ((35, 3, 36) :: ([])))) (uR (zR (uR (zR (uR (zR R 36) 35 3 36) 37) 35 4 37) 38) 35 7 38) := hK36.u rfl
  have hF39 : FR 35 R (uR (zR (uR (zR (uR (zR R 36) 35 3 36) 37) 35 4 37) 38) 35 7 38) := hF37.u rfl
  exact ⟨rfl, fun z => absurd z (by decide), hQ _ _ _ hB32 hF39 hK38 hI34 hZ33 hJ35 trivial⟩
def zk_X8_init_39 : List (Nat × Nat × Int32) := []
def lk_X8_init_39 : List (Nat × Nat × Nat) := (39, 1, 41) :: ((39, 0, 40) :: ([]))
set_option maxHeartbeats 4000000 in
set_option maxRecDepth 100000 in
theorem ct_X8_init_39 {d : Nat} {Q : Qt} {I : Im} {J : Jm} {R : Rm} (hB : BZ I) (hQ : ∀ (I2 : Im) (J2 : Jm) (R2 : Rm), BZ I2 → FR 39 R R2 → RK lk_X8_init_39 R2 → FI 39 I I2 → KI zk_X8_init_39 I2 → FJ 39 J J2 → True → Q 0 0 I2 J2 R2) : AM (d + 1) 85 39 [.ref 39] I J R Q := by
  refine amc_of (k := kX8_init) rfl rfl rfl rfl rfl rfl (Nat.le_of_ble_eq_true rfl) (fun P hc => ?_)
  refine cs_X8_init_39_0_39 hc _ _ _ ?_
  refine ⟨rfl, ?_⟩
  have hB1 : BZ (zI I 40) := hB.z
  have hZ2 : KI ([]) (zI I 40) := (KI.nil (I := I)).z rfl
  have hI3 : FI 39 I (zI I 40) := (FI.refl 39 I).z rfl
  have hJ4 : FJ 39 J (zJ J 40) := (FJ.refl 39 J).z rfl
  have hK5 : RK ([]) (zR R 40) := (RK.nil (R := R)).z rfl
  have hF6 : FR 39 R (zR R 40) := (FR.refl 39 R).z rfl
  have hK7 : RK ((39, 0, 40) :: ([])) (uR (zR R 40) 39 0 40) := hK5.u rfl
  have hF8 : FR 39 R (uR (zR R 40) 39 0 40) := hF6.u rfl
  refine ⟨rfl, ?_⟩
  have hB9 : BZ (zI (zI I 40) 41) := hB1.z
  have hZ10 : KI ([]) (zI (zI I 40) 41) := hZ2.z rfl
  have hI11 : FI 39 I (zI (zI I 40) 41) := hI3.z rfl
  have hJ12 : FJ 39 J (zJ (zJ J 40) 41) := hJ4.z rfl
  have hK13 : RK ((39, 0, 40) :: ([])) (zR (uR (zR R 40) 39 0 40) 41) := hK7.z rfl
  have hF14 : FR 39 R (zR (uR (zR R 40) 39 0 40) 41) := hF8.z rfl
  have hK15 : RK ((39, 1, 41) :: ((39, 0, 40) :: ([]))) (uR (zR (uR (zR R 40) 39 0 40) 41) 39 1 41) := hK13.u rfl
  have hF16 : FR 39 R (uR (zR (uR (zR R 40) 39 0 40) 41) 39 1 41) := hF14.u rfl
  have hB17 : BZ (uI (zI (zI I 40) 41) 39 2 0) := hB9.kw rfl rfl
  have hZ18 : KI ([]) (uI (zI (zI I 40) 41) 39 2 0) := hZ10.w rfl
  have hI19 : FI 39 I (uI (zI (zI I 40) 41) 39 2 0) := hI11.w rfl
  exact ⟨rfl, fun z => absurd z (by decide), hQ _ _ _ hB17 hF16 hK15 hI19 hZ18 hJ12 trivial⟩
def zk_X5_init_42 : List (Nat × Nat × Int32) := []
def lk_X5_init_42 : List (Nat × Nat × Nat) := (42, 1, 44) :: ((42, 0, 43) :: ([]))
set_option maxHeartbeats 4000000 in
set_option maxRecDepth 100000 in
theorem ct_X5_init_42 {d : Nat} {Q : Qt} {I : Im} {J : Jm} {R : Rm} (hB : BZ I) (hQ : ∀ (I2 : Im) (J2 : Jm) (R2 : Rm), BZ I2 → FR 42 R R2 → RK lk_X5_init_42 R2 → FI 42 I I2 → KI zk_X5_init_42 I2 → FJ 42 J J2 → True → Q 0 0 I2 J2 R2) : AM (d + 1) 53 42 [.ref 42] I J R Q := by
  refine amc_of (k := kX5_init) rfl rfl rfl rfl rfl rfl (Nat.le_of_ble_eq_true rfl) (fun P hc => ?_)
  refine cs_X5_init_42_0_42 hc _ _ _ ?_
  refine ⟨rfl, ?_⟩
  have hB1 : BZ (zI I 43) := hB.z
  have hZ2 : KI ([]) (zI I 43) := (KI.nil (I := I)).z rfl
  have hI3 : FI 42 I (zI I 43) := (FI.refl 42 I).z rfl
  have hJ4 : FJ 42 J (zJ J 43) := (FJ.refl 42 J).z rfl
  have hK5 : RK ([]) (zR R 43) := (RK.nil (R := R)).z rfl
  have hF6 : FR 42 R (zR R 43) := (FR.refl 42 R).z rfl
  have hK7 : RK ((42, 0, 43) :: ([])) (uR (zR R 43) 42 0 43) := hK5.u rfl
  have hF8 : FR 42 R (uR (zR R 43) 42 0 43) := hF6.u rfl
  refine ⟨rfl, ?_⟩
  have hB9 : BZ (zI (zI I 43) 44) := hB1.z
  have hZ10 : KI ([]) (zI (zI I 43) 44) := hZ2.z rfl
  have hI11 : FI 42 I (zI (zI I 43) 44) := hI3.z rfl
  have hJ12 : FJ 42 J (zJ (zJ J 43) 44) := hJ4.z rfl
  have hK13 : RK ((42, 0, 43) :: ([])) (zR (uR (zR R 43) 42 0 43) 44) := hK7.z rfl
  have hF14 : FR 42 R (zR (uR (zR R 43) 42 0 43) 44) := hF8.z rfl
  have hK15 : RK ((42, 1, 44) :: ((42, 0, 43) :: ([]))) (uR (zR (uR (zR R 43) 42 0 43) 44) 42 1 44) := hK13.u rfl
  have hF16 : FR 42 R (uR (zR (uR (zR R 43) 42 0 43) 44) 42 1 44) := hF14.u rfl
  have hB17 : BZ (uI (zI (zI I 43) 44) 42 2 0) := hB9.kw rfl rfl
  have hZ18 : KI ([]) (uI (zI (zI I 43) 44) 42 2 0) := hZ10.w rfl
  have hI19 : FI 42 I (uI (zI (zI I 43) 44) 42 2 0) := hI11.w rfl
  exact ⟨rfl, fun z => absurd z (by decide), hQ _ _ _ hB17 hF16 hK15 hI19 hZ18 hJ12 trivial⟩
def zk_X9_init_45 : List (Nat × Nat × Int32) := []
def lk_X9_init_45 : List (Nat × Nat × Nat) := (45, 3, 48) :: ((45, 2, 47) :: ((45, 0, 46) :: ([])))
set_option maxHeartbeats 4000000 in
set_option maxRecDepth 100000 in
theorem ct_X9_init_45 {d : Nat} {Q : Qt} {I : Im} {J : Jm} {R : Rm} (hB : BZ I) (hQ : ∀ (I2 : Im) (J2 : Jm) (R2 : Rm), BZ I2 → FR 45 R R2 → RK lk_X9_init_45 R2 → FI 45 I I2 → KI zk_X9_init_45 I2 → FJ 45 J J2 → J2 47 0 = 0 → Q 0 0 I2 J2 R2) : AM (d + 1) 88 45 [.ref 45] I J R Q := by
  refine amc_of (k := kX9_init) rfl rfl rfl rfl rfl rfl (Nat.le_of_ble_eq_true rfl) (fun P hc => ?_)
  refine cs_X9_init_45_0_45 hc _ _ _ ?_
  refine ⟨rfl, ?_⟩
  have hB1 : BZ (zI I 46) := hB.z
  have hZ2 : KI ([]) (zI I 46) := (KI.nil (I := I)).z rfl
  have hI3 : FI 45 I (zI I 46) := (FI.refl 45 I).z rfl
  have hJ4 : FJ 45 J (zJ J 46) := (FJ.refl 45 J).z rfl
  have hK5 : RK ([]) (zR R 46) := (RK.nil (R := R)).z rfl
  have hF6 : FR 45 R (zR R 46) := (FR.refl 45 R).z rfl
  have hK7 : RK ((45, 0, 46) :: ([])) (uR (zR R 46) 45 0 46) := hK5.u rfl
  have hF8 : FR 45 R (uR (zR R 46) 45 0 46) := hF6.u rfl
  have hB9 : BZ (uI (zI I 46) 45 1 0) := hB1.kw rfl rfl
  have hZ10 : KI ([]) (uI (zI I 46) 45 1 0) := hZ2.w rfl
  have hI11 : FI 45 I (uI (zI I 46) 45 1 0) := hI3.w rfl
  refine ⟨rfl, ?_⟩
  have hB12 : BZ (zI (uI (zI I 46) 45 1 0) 47) := hB9.z
  have hZ13 : KI ([]) (zI (uI (zI I 46) 45 1 0) 47) := hZ10.z rfl
  have hI14 : FI 45 I (zI (uI (zI I 46) 45 1 0) 47) := hI11.z rfl
  have hJ15 : FJ 45 J (zJ (zJ J 46) 47) := hJ4.z rfl
  have jz16 : (zJ (zJ J 46) 47) 47 0 = 0 := rfl
  have hK17 : RK ((45, 0, 46) :: ([])) (zR (uR (zR R 46) 45 0 46) 47) := hK7.z rfl
  have hF18 : FR 45 R (zR (uR (zR R 46) 45 0 46) 47) := hF8.z rfl
  have hK19 : RK ((45, 2, 47) :: ((45, 0, 46) :: ([]))) (uR (zR (uR (zR R 46) 45 0 46) 47) 45 2 47) := hK17.u rfl
  have hF20 : FR 45 R (uR (zR (uR (zR R 46) 45 0 46) 47) 45 2 47) := hF18.u rfl
  refine ⟨rfl, ?_⟩
  have hB21 : BZ (zI (zI (uI (zI I 46) 45 1 0) 47) 48) := hB12.z
  have hZ22 : KI ([]) (zI (zI (uI (zI I 46) 45 1 0) 47) 48) := hZ13.z rfl
  have hI23 : FI 45 I (zI (zI (uI (zI I 46) 45 1 0) 47) 48) := hI14.z rfl
  have hJ24 : FJ 45 J (zJ (zJ (zJ J 46) 47) 48) := hJ15.z rfl
  have jz25 : (zJ (zJ (zJ J 46) 47) 48) 47 0 = 0 := JZ.z jz16 rfl
  have hK26 : RK ((45, 2, 47) :: ((45, 0, 46) :: ([]))) (zR (uR (zR (uR (zR R 46) 45 0 46) 47) 45 2 47) 48) := hK19.z rfl
  have hF27 : FR 45 R (zR (uR (zR (uR (zR R 46) 45 0 46) 47) 45 2 47) 48) := hF20.z rfl
  have hK28 : RK ((45, 3, 48) :: ((45, 2, 47) :: ((45, 0, 46) :: ([])))) (uR (zR (uR (zR (uR (zR R 46) 45 0 46) 47) 45 2 47) 48) 45 3 48) := hK26.u rfl
  have hF29 : FR 45 R (uR (zR (uR (zR (uR (zR R 46) 45 0 46) 47) 45 2 47) 48) 45 3 48) := hF27.u rfl
  exact ⟨rfl, fun z => absurd z (by decide), hQ _ _ _ hB21 hF29 hK28 hI23 hZ22 hJ24 jz25⟩
def zk_X4_init_49 : List (Nat × Nat × Int32) := []
def lk_X4_init_49 : List (Nat × Nat × Nat) := (49, 8, 50) :: ([])
set_option maxHeartbeats 4000000 in
set_option maxRecDepth 100000 in
theorem ct_X4_init_49 {d : Nat} {Q : Qt} {I : Im} {J : Jm} {R : Rm} (hB : BZ I) (hQ : ∀ (I2 : Im) (J2 : Jm) (R2 : Rm), BZ I2 → FR 49 R R2 → RK lk_X4_init_49 R2 → FI 49 I I2 → KI zk_X4_init_49 I2 → FJ 49 J J2 → True → Q 0 0 I2 J2 R2) : AM (d + 1) 40 49 [.ref 49] I J R Q := by
  refine amc_of (k := kX4_init) rfl rfl rfl rfl rfl rfl (Nat.le_of_ble_eq_true rfl) (fun P hc => ?_)
  refine cs_X4_init_49_0_49 hc _ _ _ ?_
  refine ⟨Or.inl rfl, ?_⟩
  have hB1 : BZ (uI I 49 0 0) := hB.kw rfl rfl
  have hZ2 : KI ([]) (uI I 49 0 0) := (KI.nil (I := I)).w rfl
  have hI3 : FI 49 I (uI I 49 0 0) := (FI.refl 49 I).w rfl
  have hB4 : BZ (uI (uI I 49 0 0) 49 1 0) := hB1.kw rfl rfl
  have hZ5 : KI ([]) (uI (uI I 49 0 0) 49 1 0) := hZ2.w rfl
  have hI6 : FI 49 I (uI (uI I 49 0 0) 49 1 0) := hI3.w rfl
  have hB7 : BZ (uI (uI (uI I 49 0 0) 49 1 0) 49 2 0) := hB4.kw rfl rfl
  have hZ8 : KI ([]) (uI (uI (uI I 49 0 0) 49 1 0) 49 2 0) := hZ5.w rfl
  have hI9 : FI 49 I (uI (uI (uI I 49 0 0) 49 1 0) 49 2 0) := hI6.w rfl
  have hB10 : BZ (uI (uI (uI (uI I 49 0 0) 49 1 0) 49 2 0) 49 3 0) := hB7.kw rfl rfl
  have hZ11 : KI ([]) (uI (uI (uI (uI I 49 0 0) 49 1 0) 49 2 0) 49 3 0) := hZ8.w rfl
  have hI12 : FI 49 I (uI (uI (uI (uI I 49 0 0) 49 1 0) 49 2 0) 49 3 0) := hI9.w rfl
  have hB13 : BZ (uI (uI (uI (uI (uI I 49 0 0) 49 1 0) 49 2 0) 49 3 0) 49 4 0) := hB10.kw rfl rfl
  have hZ14 : KI ([]) (uI (uI (uI (uI (uI I 49 0 0) 49 1 0) 49 2 0) 49 3 0) 49 4 0) := hZ11.w rfl
  have hI15 : FI 49 I (uI (uI (uI (uI (uI I 49 0 0) 49 1 0) 49 2 0) 49 3 0) 49 4 0) := hI12.w rfl
  have hB16 : BZ (uI (uI (uI (uI (uI (uI I 49 0 0) 49 1 0) 49 2 0) 49 3 0) 49 4 0) 49 5 0) := hB13.kw rfl rfl
  have hZ17 : KI ([]) (uI (uI (uI (uI (uI (uI I 49 0 0) 49 1 0) 49 2 0) 49 3 0) 49 4 0) 49 5 0) := hZ14.w rfl
  have hI18 : FI 49 I (uI (uI (uI (uI (uI (uI I 49 0 0) 49 1 0) 49 2 0) 49 3 0) 49 4 0) 49 5 0) := hI15.w rfl
  have hB19 : BZ (uI (uI (uI (uI (uI (uI (uI I 49 0 0) 49 1 0) 49 2 0) 49 3 0) 49 4 0) 49 5 0) 49 6 0) := hB16.kw rfl rfl
  have hZ20 : KI ([]) (uI (uI (uI (uI (uI (uI (uI I 49 0 0) 49 1 0) 49 2 0) 49 3 0) 49 4 0) 49 5 0) 49 6 0) := hZ17.w rfl
  have hI21 : FI 49 I (uI (uI (uI (uI (uI (uI (uI I 49 0 0) 49 1 0) 49 2 0) 49 3 0) 49 4 0) 49 5 0) 49 6 0) := hI18.w rfl
  have hB22 : BZ (uI (uI (uI (uI (uI (uI (uI (uI I 49 0 0) 49 1 0) 49 2 0) 49 3 0) 49 4 0) 49 5 0) 49 6 0) 49 7 0) := hB19.kw rfl rfl
  have hZ23 : KI ([]) (uI (uI (uI (uI (uI (uI (uI (uI I 49 0 0) 49 1 0) 49 2 0) 49 3 0) 49 4 0) 49 5 0) 49 6 0) 49 7 0) := hZ20.w rfl
  have hI24 : FI 49 I (uI (uI (uI (uI (uI (uI (uI (uI I 49 0 0) 49 1 0) 49 2 0) 49 3 0) 49 4 0) 49 5 0) 49 6 0) 49 7 0) := hI21.w rfl
  refine ⟨rfl, ?_⟩
  have hB25 : BZ (zI (uI (uI (uI (uI (uI (uI (uI (uI I 49 0 0) 49 1 0) 49 2 0) 49 3 0) 49 4 0) 49 5 0) 49 6 0) 49 7 0) 50) := hB22.z
  have hZ26 : KI ([]) (zI (uI (uI (uI (uI (uI (uI (uI (uI I 49 0 0) 49 1 0) 49 2 0) 49 3 0) 49 4 0) 49 5 0) 49 6 0) 49 7 0) 50) := hZ23.z rfl
  have hI27 : FI 49 I (zI (uI (uI (uI (uI (uI (uI (uI (uI I 49 0 0) 49 1 0) 49 2 0) 49 3 0) 49 4 0) 49 5 0) 49 6 0) 49 7 0) 50) := hI24.z rfl
  have hJ28 : FJ 49 J (zJ J 50) := (FJ.refl 49 J).z rfl
  have hK29 : RK ([]) (zR R 50) := (RK.nil (R := R)).z rfl
  have hF30 : FR 49 R (zR R 50) := (FR.refl 49 R).z rfl
  have hK31 : RK ((49, 8, 50) :: ([])) (uR (zR R 50) 49 8 50) := hK29.u rfl
  have hF32 : FR 49 R (uR (zR R 50) 49 8 50) := hF30.u rfl
  exact ⟨rfl, fun z => absurd z (by decide), hQ _ _ _ hB25 hF32 hK31 hI27 hZ26 hJ28 trivial⟩
def zk_X4_init_51 : List (Nat × Nat × Int32) := []
def lk_X4_init_51 : List (Nat × Nat × Nat) := (51, 8, 52) :: ([])
set_option maxHeartbeats 4000000 in
set_option maxRecDepth 100000 in
theorem ct_X4_init_51 {d : Nat} {Q : Qt} {I : Im} {J : Jm} {R : Rm} (hB : BZ I) (hQ : ∀ (I2 : Im) (J2 : Jm) (R2 : Rm), BZ I2 → FR 51 R R2 → RK lk_X4_init_51 R2 → FI 51 I I2 → KI zk_X4_init_51 I2 → FJ 51 J J2 → True → Q 0 0 I2 J2 R2) : AM (d + 1) 40 51 [.ref 51] I J R Q := by
  refine amc_of (k := kX4_init) rfl rfl rfl rfl rfl rfl (Nat.le_of_ble_eq_true rfl) (fun P hc => ?_)
  refine cs_X4_init_51_0_51 hc _ _ _ ?_
  refine ⟨Or.inl rfl, ?_⟩
  have hB1 : BZ (uI I 51 0 0) := hB.kw rfl rfl
  have hZ2 : KI ([]) (uI I 51 0 0) := (KI.nil (I := I)).w rfl
  have hI3 : FI 51 I (uI I 51 0 0) := (FI.refl 51 I).w rfl
  have hB4 : BZ (uI (uI I 51 0 0) 51 1 0) := hB1.kw rfl rfl
  have hZ5 : KI ([]) (uI (uI I 51 0 0) 51 1 0) := hZ2.w rfl
  have hI6 : FI 51 I (uI (uI I 51 0 0) 51 1 0) := hI3.w rfl
  have hB7 : BZ (uI (uI (uI I 51 0 0) 51 1 0) 51 2 0) := hB4.kw rfl rfl
  have hZ8 : KI ([]) (uI (uI (uI I 51 0 0) 51 1 0) 51 2 0) := hZ5.w rfl
  have hI9 : FI 51 I (uI (uI (uI I 51 0 0) 51 1 0) 51 2 0) := hI6.w rfl
  have hB10 : BZ (uI (uI (uI (uI I 51 0 0) 51 1 0) 51 2 0) 51 3 0) := hB7.kw rfl rfl
  have hZ11 : KI ([]) (uI (uI (uI (uI I 51 0 0) 51 1 0) 51 2 0) 51 3 0) := hZ8.w rfl
  have hI12 : FI 51 I (uI (uI (uI (uI I 51 0 0) 51 1 0) 51 2 0) 51 3 0) := hI9.w rfl
  have hB13 : BZ (uI (uI (uI (uI (uI I 51 0 0) 51 1 0) 51 2 0) 51 3 0) 51 4 0) := hB10.kw rfl rfl
  have hZ14 : KI ([]) (uI (uI (uI (uI (uI I 51 0 0) 51 1 0) 51 2 0) 51 3 0) 51 4 0) := hZ11.w rfl
  have hI15 : FI 51 I (uI (uI (uI (uI (uI I 51 0 0) 51 1 0) 51 2 0) 51 3 0) 51 4 0) := hI12.w rfl
  have hB16 : BZ (uI (uI (uI (uI (uI (uI I 51 0 0) 51 1 0) 51 2 0) 51 3 0) 51 4 0) 51 5 0) := hB13.kw rfl rfl
  have hZ17 : KI ([]) (uI (uI (uI (uI (uI (uI I 51 0 0) 51 1 0) 51 2 0) 51 3 0) 51 4 0) 51 5 0) := hZ14.w rfl
  have hI18 : FI 51 I (uI (uI (uI (uI (uI (uI I 51 0 0) 51 1 0) 51 2 0) 51 3 0) 51 4 0) 51 5 0) := hI15.w rfl
  have hB19 : BZ (uI (uI (uI (uI (uI (uI (uI I 51 0 0) 51 1 0) 51 2 0) 51 3 0) 51 4 0) 51 5 0) 51 6 0) := hB16.kw rfl rfl
  have hZ20 : KI ([]) (uI (uI (uI (uI (uI (uI (uI I 51 0 0) 51 1 0) 51 2 0) 51 3 0) 51 4 0) 51 5 0) 51 6 0) := hZ17.w rfl
  have hI21 : FI 51 I (uI (uI (uI (uI (uI (uI (uI I 51 0 0) 51 1 0) 51 2 0) 51 3 0) 51 4 0) 51 5 0) 51 6 0) := hI18.w rfl
  have hB22 : BZ (uI (uI (uI (uI (uI (uI (uI (uI I 51 0 0) 51 1 0) 51 2 0) 51 3 0) 51 4 0) 51 5 0) 51 6 0) 51 7 0) := hB19.kw rfl rfl
  have hZ23 : KI ([]) (uI (uI (uI (uI (uI (uI (uI (uI I 51 0 0) 51 1 0) 51 2 0) 51 3 0) 51 4 0) 51 5 0) 51 6 0) 51 7 0) := hZ20.w rfl
  have hI24 : FI 51 I (uI (uI (uI (uI (uI (uI (uI (uI I 51 0 0) 51 1 0) 51 2 0) 51 3 0) 51 4 0) 51 5 0) 51 6 0) 51 7 0) := hI21.w rfl
  refine ⟨rfl, ?_⟩
  have hB25 : BZ (zI (uI (uI (uI (uI (uI (uI (uI (uI I 51 0 0) 51 1 0) 51 2 0) 51 3 0) 51 4 0) 51 5 0) 51 6 0) 51 7 0) 52) := hB22.z
  have hZ26 : KI ([]) (zI (uI (uI (uI (uI (uI (uI (uI (uI I 51 0 0) 51 1 0) 51 2 0) 51 3 0) 51 4 0) 51 5 0) 51 6 0) 51 7 0) 52) := hZ23.z rfl
  have hI27 : FI 51 I (zI (uI (uI (uI (uI (uI (uI (uI (uI I 51 0 0) 51 1 0) 51 2 0) 51 3 0) 51 4 0) 51 5 0) 51 6 0) 51 7 0) 52) := hI24.z rfl
  have hJ28 : FJ 51 J (zJ J 52) := (FJ.refl 51 J).z rfl
  have hK29 : RK ([]) (zR R 52) := (RK.nil (R := R)).z rfl
  have hF30 : FR 51 R (zR R 52) := (FR.refl 51 R).z rfl
  have hK31 : RK ((51, 8, 52) :: ([])) (uR (zR R 52) 51 8 52) := hK29.u rfl
  have hF32 : FR 51 R (uR (zR R 52) 51 8 52) := hF30.u rfl
  exact ⟨rfl, fun z => absurd z (by decide), hQ _ _ _ hB25 hF32 hK31 hI27 hZ26 hJ28 trivial⟩
def zk_X10_init_53 : List (Nat × Nat × Int32) := (53, 1, -1) :: ([])
def lk_X10_init_53 : List (Nat × Nat × Nat) := (53, 2, 54) :: ([])
set_option maxHeartbeats 4000000 in
set_option maxRecDepth 100000 in
theorem ct_X10_init_53 {d : Nat} {Q : Qt} {I : Im} {J : Jm} {R : Rm} (hB : BZ I) (hQ : ∀ (I2 : Im) (J2 : Jm) (R2 : Rm), BZ I2 → FR 53 R R2 → RK lk_X10_init_53 R2 → FI 53 I I2 → KI zk_X10_init_53 I2 → FJ 53 J J2 → True → Q 0 0 I2 J2 R2) : AM (d + 1) 94 53 [.ref 53] I J R Q := by
  refine amc_of (k := kX10_init) rfl rfl rfl rfl rfl rfl (Nat.le_of_ble_eq_true rfl) (fun P hc => ?_)
  refine cs_X10_init_53_0_53 hc _ _ _ ?_
  have hB1 : BZ (uI I 53 0 0) := hB.kw rfl rfl
  have hZ2 : KI ([]) (uI I 53 0 0) := (KI.nil (I := I)).w rfl
  have hI3 : FI 53 I (uI I 53 0 0) := (FI.refl 53 I).w rfl
  have hB4 : BZ (uI (uI I 53 0 0) 53 1 (-1)) := hB1.kw rfl rfl
  have hZ5 : KI ((53, 1, -1) :: ([])) (uI (uI I 53 0 0) 53 1 (-1)) := hZ2.u rfl
  have hI6 : FI 53 I (uI (uI I 53 0 0) 53 1 (-1)) := hI3.w rfl
  refine ⟨rfl, ?_⟩
  have hB7 : BZ (zI (uI (uI I 53 0 0) 53 1 (-1)) 54) := hB4.z
  have hZ8 : KI ((53, 1, -1) :: ([])) (zI (uI (uI I 53 0 0) 53 1 (-1)) 54) := hZ5.z rfl
  have hI9 : FI 53 I (zI (uI (uI I 53 0 0) 53 1 (-1)) 54) := hI6.z rfl
  have hJ10 : FJ 53 J (zJ J 54) := (FJ.refl 53 J).z rfl
  have hK11 : RK ([]) (zR R 54) := (RK.nil (R := R)).z rfl
  have hF12 : FR 53 R (zR R 54) := (FR.refl 53 R).z rfl
  have hK13 : RK ((53, 2, 54) :: ([])) (uR (zR R 54) 53 2 54) := hK11.u rfl
  have hF14 : FR 53 R (uR (zR R 54) 53 2 54) := hF12.u rfl
  exact ⟨rfl, fun z => absurd z (by decide), hQ _ _ _ hB7 hF14 hK13 hI9 hZ8 hJ10 trivial⟩
def zk_X10_init_55 : List (Nat × Nat × Int32) := (55, 1, -1) :: ([])
def lk_X10_init_55 : List (Nat × Nat × Nat) := (55, 2, 56) :: ([])
set_option maxHeartbeats 4000000 in
set_option maxRecDepth 100000 in
theorem ct_X10_init_55 {d : Nat} {Q : Qt} {I : Im} {J : Jm} {R : Rm} (hB : BZ I) (hQ : ∀ (I2 : Im) (J2 : Jm) (R2 : Rm), BZ I2 → FR 55 R R2 → RK lk_X10_init_55 R2 → FI 55 I I2 → KI zk_X10_init_55 I2 → FJ 55 J J2 → True → Q 0 0 I2 J2 R2) : AM (d + 1) 94 55 [.ref 55] I J R Q := by
  refine amc_of (k := kX10_init) rfl rfl rfl rfl rfl rfl (Nat.le_of_ble_eq_true rfl) (fun P hc => ?_)
  refine cs_X10_init_55_0_55 hc _ _ _ ?_
  have hB1 : BZ (uI I 55 0 0) := hB.kw rfl rfl
  have hZ2 : KI ([]) (uI I 55 0 0) := (KI.nil (I := I)).w rfl
  have hI3 : FI 55 I (uI I 55 0 0) := (FI.refl 55 I).w rfl
  have hB4 : BZ (uI (uI I 55 0 0) 55 1 (-1)) := hB1.kw rfl rfl
  have hZ5 : KI ((55, 1, -1) :: ([])) (uI (uI I 55 0 0) 55 1 (-1)) := hZ2.u rfl
  have hI6 : FI 55 I (uI (uI I 55 0 0) 55 1 (-1)) := hI3.w rfl
  refine ⟨rfl, ?_⟩
  have hB7 : BZ (zI (uI (uI I 55 0 0) 55 1 (-1)) 56) := hB4.z
  have hZ8 : KI ((55, 1, -1) :: ([])) (zI (uI (uI I 55 0 0) 55 1 (-1)) 56) := hZ5.z rfl
  have hI9 : FI 55 I (zI (uI (uI I 55 0 0) 55 1 (-1)) 56) := hI6.z rfl
  have hJ10 : FJ 55 J (zJ J 56) := (FJ.refl 55 J).z rfl
  have hK11 : RK ([]) (zR R 56) := (RK.nil (R := R)).z rfl
  have hF12 : FR 55 R (zR R 56) := (FR.refl 55 R).z rfl
  have hK13 : RK ((55, 2, 56) :: ([])) (uR (zR R 56) 55 2 56) := hK11.u rfl
  have hF14 : FR 55 R (uR (zR R 56) 55 2 56) := hF12.u rfl
  exact ⟨rfl, fun z => absurd z (by decide), hQ _ _ _ hB7 hF14 hK13 hI9 hZ8 hJ10 trivial⟩
def zk_X10_init_57 : List (Nat × Nat × Int32) := (57, 1, -1) :: ([])
def lk_X10_init_57 : List (Nat × Nat × Nat) := (57, 2, 58) :: ([])
set_option maxHeartbeats 4000000 in
set_option maxRecDepth 100000 in
theorem ct_X10_init_57 {d : Nat} {Q : Qt} {I : Im} {J : Jm} {R : Rm} (hB : BZ I) (hQ : ∀ (I2 : Im) (J2 : Jm) (R2 : Rm), BZ I2 → FR 57 R R2 → RK lk_X10_init_57 R2 → FI 57 I I2 → KI zk_X10_init_57 I2 → FJ 57 J J2 → True → Q 0 0 I2 J2 R2) : AM (d + 1) 94 57 [.ref 57] I J R Q := by
  refine amc_of (k := kX10_init) rfl rfl rfl rfl rfl rfl (Nat.le_of_ble_eq_true rfl) (fun P hc => ?_)
  refine cs_X10_init_57_0_57 hc _ _ _ ?_
  have hB1 : BZ (uI I 57 0 0) := hB.kw rfl rfl
  have hZ2 : KI ([]) (uI I 57 0 0) := (KI.nil (I := I)).w rfl
  have hI3 : FI 57 I (uI I 57 0 0) := (FI.refl 57 I).w rfl
  have hB4 : BZ (uI (uI I 57 0 0) 57 1 (-1)) := hB1.kw rfl rfl
  have hZ5 : KI ((57, 1, -1) :: ([])) (uI (uI I 57 0 0) 57 1 (-1)) := hZ2.u rfl
  have hI6 : FI 57 I (uI (uI I 57 0 0) 57 1 (-1)) := hI3.w rfl
  refine ⟨rfl, ?_⟩
  have hB7 : BZ (zI (uI (uI I 57 0 0) 57 1 (-1)) 58) := hB4.z
  have hZ8 : KI ((57, 1, -1) :: ([])) (zI (uI (uI I 57 0 0) 57 1 (-1)) 58) := hZ5.z rfl
  have hI9 : FI 57 I (zI (uI (uI I 57 0 0) 57 1 (-1)) 58) := hI6.z rfl
  have hJ10 : FJ 57 J (zJ J 58) := (FJ.refl 57 J).z rfl
  have hK11 : RK ([]) (zR R 58) := (RK.nil (R := R)).z rfl
  have hF12 : FR 57 R (zR R 58) := (FR.refl 57 R).z rfl
  have hK13 : RK ((57, 2, 58) :: ([])) (uR (zR R 58) 57 2 58) := hK11.u rfl
  have hF14 : FR 57 R (uR (zR R 58) 57 2 58) := hF12.u rfl
  exact ⟨rfl, fun z => absurd z (by decide), hQ _ _ _ hB7 hF14 hK13 hI9 hZ8 hJ10 trivial⟩
def zk_X10_init_59 : List (Nat × Nat × Int32) := (59, 1, -1) :: ([])
def lk_X10_init_59 : List (Nat × Nat × Nat) := (59, 2, 60) :: ([])
set_option maxHeartbeats 4000000 in
set_option maxRecDepth 100000 in
theorem ct_X10_init_59 {d : Nat} {Q : Qt} {I : Im} {J : Jm} {R : Rm} (hB : BZ I) (hQ : ∀ (I2 : Im) (J2 : Jm) (R2 : Rm), BZ I2 → FR 59 R R2 → RK lk_X10_init_59 R2 → FI 59 I I2 → KI zk_X10_init_59 I2 → FJ 59 J J2 → True → Q 0 0 I2 J2 R2) : AM (d + 1) 94 59 [.ref 59] I J R Q := by
  refine amc_of (k := kX10_init) rfl rfl rfl rfl rfl rfl (Nat.le_of_ble_eq_true rfl) (fun P hc => ?_)
  refine cs_X10_init_59_0_59 hc _ _ _ ?_
  have hB1 : BZ (uI I 59 0 0) := hB.kw rfl rfl
  have hZ2 : KI ([]) (uI I 59 0 0) := (KI.nil (I := I)).w rfl
  have hI3 : FI 59 I (uI I 59 0 0) := (FI.refl 59 I).w rfl
  have hB4 : BZ (uI (uI I 59 0 0) 59 1 (-1)) := hB1.kw rfl rfl
  have hZ5 : KI ((59, 1, -1) :: ([])) (uI (uI I 59 0 0) 59 1 (-1)) := hZ2.u rfl
  have hI6 : FI 59 I (uI (uI I 59 0 0) 59 1 (-1)) := hI3.w rfl
  refine ⟨rfl, ?_⟩
  have hB7 : BZ (zI (uI (uI I 59 0 0) 59 1 (-1)) 60) := hB4.z
  have hZ8 : KI ((59, 1, -1) :: ([])) (zI (uI (uI I 59 0 0) 59 1 (-1)) 60) := hZ5.z rfl
  have hI9 : FI 59 I (zI (uI (uI I 59 0 0) 59 1 (-1)) 60) := hI6.z rfl
  have hJ10 : FJ 59 J (zJ J 60) := (FJ.refl 59 J).z rfl
  have hK11 : RK ([]) (zR R 60) := (RK.nil (R := R)).z rfl
  have hF12 : FR 59 R (zR R 60) := (FR.refl 59 R).z rfl
  have hK13 : RK ((59, 2, 60) :: ([])) (uR (zR R 60) 59 2 60) := hK11.u rfl
  have hF14 : FR 59 R (uR (zR R 60) 59 2 60) := hF12.u rfl
  exact ⟨rfl, fun z => absurd z (by decide), hQ _ _ _ hB7 hF14 hK13 hI9 hZ8 hJ10 trivial⟩
def zk_X0_init_61 : List (Nat × Nat × Int32) := []
def lk_X0_init_61 : List (Nat × Nat × Nat) := (61, 8, 66) :: ((61, 7, 65) :: ((61, 6, 64) :: ((61, 5, 63) :: ((61, 0, 62) :: ([])))))
set_option maxHeartbeats 4000000 in
set_option maxRecDepth 100000 in
theorem ct_X0_init_61 {d : Nat} {Q : Qt} {I : Im} {J : Jm} {R : Rm} (hB : BZ I) (hQ : ∀ (I2 : Im) (J2 : Jm) (R2 : Rm), BZ I2 → FR 61 R R2 → RK lk_X0_init_61 R2 → FI 61 I I2 → KI zk_X0_init_61 I2 → FJ 61 J J2 → True → Q 0 0 I2 J2 R2) : AM (d + 1) 0 61 [.ref 61] I J R Q := by
  refine amc_of (k := kX0_init) rfl rfl rfl rfl rfl rfl (Nat.le_of_ble_eq_true rfl) (fun P hc => ?_)
  refine cs_X0_init_61_0_61 hc _ _ _ ?_
  refine ⟨rfl, ?_⟩
  have hB1 : BZ (zI I 62) := hB.z
  have hZ2 : KI ([]) (zI I 62) := (KI.nil (I := I)).z rfl
  have hI3 : FI 61 I (zI I 62) := (FI.refl 61 I).z rfl
  have hJ4 : FJ 61 J (zJ J 62) := (FJ.refl 61 J).z rfl
  have hK5 : RK ([]) (zR R 62) := (RK.nil (R := R)).z rfl
  have hF6 : FR 61 R (zR R 62) := (FR.refl 61 R).z rfl
  have hK7 : RK ((61, 0, 62) :: ([])) (uR (zR R 62) 61 0 62) := hK5.u rfl
  have hF8 : FR 61 R (uR (zR R 62) 61 0 62) := hF6.u rfl
  have hB9 : BZ (uI (zI I 62) 61 1 4) := hB1.kw rfl rfl
  have hZ10 : KI ([]) (uI (zI I 62) 61 1 4) := hZ2.w rfl
  have hI11 : FI 61 I (uI (zI I 62) 61 1 4) := hI3.w rfl
  have hB12 : BZ (uI (uI (zI I 62) 61 1 4) 61 2 1073741823) := hB9.kw rfl rfl
  have hZ13 : KI ([]) (uI (uI (zI I 62) 61 1 4) 61 2 1073741823) := hZ10.w rfl
  have hI14 : FI 61 I (uI (uI (zI I 62) 61 1 4) 61 2 1073741823) := hI11.w rfl
  have hB15 : BZ (uI (uI (uI (zI I 62) 61 1 4) 61 2 1073741823) 61 3 0) := hB12.kw rfl rfl
  have hZ16 : KI ([]) (uI (uI (uI (zI I 62) 61 1 4) 61 2 1073741823) 61 3 0) := hZ13.w rfl
  have hI17 : FI 61 I (uI (uI (uI (zI I 62) 61 1 4) 61 2 1073741823) 61 3 0) := hI14.w rfl
  have hB18 : BZ (uI (uI (uI (uI (zI I 62) 61 1 4) 61 2 1073741823) 61 3 0) 61 4 0) := hB15.kw rfl rfl
  have hZ19 : KI ([]) (uI (uI (uI (uI (zI I 62) 61 1 4) 61 2 1073741823) 61 3 0) 61 4 0) := hZ16.w rfl
  have hI20 : FI 61 I (uI (uI (uI (uI (zI I 62) 61 1 4) 61 2 1073741823) 61 3 0) 61 4 0) := hI17.w rfl
  refine ⟨rfl, ?_⟩
  have hB21 : BZ (zI (uI (uI (uI (uI (zI I 62) 61 1 4) 61 2 1073741823) 61 3 0) 61 4 0) 63) := hB18.z
  have hZ22 : KI ([]) (zI (uI (uI (uI (uI (zI I 62) 61 1 4) 61 2 1073741823) 61 3 0) 61 4 0) 63) := hZ19.z rfl
  have hI23 : FI 61 I (zI (uI (uI (uI (uI (zI I 62) 61 1 4) 61 2 1073741823) 61 3 0) 61 4 0) 63) := hI20.z rfl
  have hJ24 : FJ 61 J (zJ (zJ J 62) 63) := hJ4.z rfl
  have hK25 : RK ((61, 0, 62) :: ([])) (zR (uR (zR R 62) 61 0 62) 63) := hK7.z rfl
  have hF26 : FR 61 R (zR (uR (zR R 62) 61 0 62) 63) := hF8.z rfl
  have hK27 : RK ((61, 5, 63) :: ((61, 0, 62) :: ([]))) (uR (zR (uR (zR R 62) 61 0 62) 63) 61 5 63) := hK25.u rfl
  have hF28 : FR 61 R (uR (zR (uR (zR R 62) 61 0 62) 63) 61 5 63) := hF26.u rfl
  refine ⟨rfl, ?_⟩
  have hB29 : BZ (zI (zI (uI (uI (uI (uI (zI I 62) 61 1 4) 61 2 1073741823) 61 3 0) 61 4 0) 63) 64) := hB21.z
  have hZ30 : KI ([]) (zI (zI (uI (uI (uI (uI (zI I 62) 61 1 4) 61 2 1073741823) 61 3 0) 61 4 0) 63) 64) := hZ22.z rfl
  have hI31 : FI 61 I (zI (zI (uI (uI (uI (uI (zI I 62) 61 1 4) 61 2 1073741823) 61 3 0) 61 4 0) 63) 64) := hI23.z rfl
  have hJ32 : FJ 61 J (zJ (zJ (zJ J 62) 63) 64) := hJ24.z rfl
  have hK33 : RK ((61, 5, 63) :: ((61, 0, 62) :: ([]))) (zR (uR (zR (uR (zR R 62) 61 0 62) 63) 61 5 63) 64) := hK27.z rfl
  have hF34 : FR 61 R (zR (uR (zR (uR (zR R 62) 61 0 62) 63) 61 5 63) 64) := hF28.z rfl
  have hK35 : RK ((61, 6, 64) :: ((61, 5, 63) :: ((61, 0, 62) :: ([])))) (uR (zR (uR (zR (uR (zR R 62) 61 0 62) 63) 61 5 63) 64) 61 6 64) := hK33.u rfl
  have hF36 : FR 61 R (uR (zR (uR (zR (uR (zR R 62) 61 0 62) 63) 61 5 63) 64) 61 6 64) := hF34.u rfl
  refine ⟨rfl, ?_⟩
  have hB37 : BZ (zI (zI (zI (uI (uI (uI (uI (zI I 62) 61 1 4) 61 2 1073741823) 61 3 0) 61 4 0) 63) 64) 65) := hB29.z
  have hZ38 : KI ([]) (zI (zI (zI (uI (uI (uI (uI (zI I 62) 61 1 4) 61 2 1073741823) 61 3 0) 61 4 0) 63) 64) 65) := hZ30.z rfl
  have hI39 : FI 61 I (zI (zI (zI (uI (uI (uI (uI (zI I 62) 61 1 4) 61 2 1073741823) 61 3 0) 61 4 0) 63) 64) 65) := hI31.z rfl
  have hJ40 : FJ 61 J (zJ (zJ (zJ (zJ J 62) 63) 64) 65) := hJ32.z rfl
  have hK41 : RK ((61, 6, 64) :: ((61, 5, 63) :: ((61, 0, 62) :: ([])))) (zR (uR (zR (uR (zR (uR (zR R 62) 61 0 62) 63) 61 5 63) 64) 61 6 64) 65) := hK35.z rfl
  have hF42 : FR 61 R (zR (uR (zR (uR (zR (uR (zR R 62) 61 0 62) 63) 61 5 63) 64) 61 6 64) 65) := hF36.z rfl
  have hK43 : RK ((61, 7, 65) :: ((61, 6, 64) :: ((61, 5, 63) :: ((61, 0, 62) :: ([]))))) (uR (zR (uR (zR (uR (zR (uR (zR R 62) 61 0 62) 63) 61 5 63) 64) 61 6 64) 65) 61 7 65) := hK41.u rfl
  have hF44 : FR 61 R (uR (zR (uR (zR (uR (zR (uR (zR R 62) 61 0 62) 63) 61 5 63) 64) 61 6 64) 65) 61 7 65) := hF42.u rfl
  refine ⟨rfl, ?_⟩
  have hB45 : BZ (zI (zI (zI (zI (uI (uI (uI (uI (zI I 62) 61 1 4) 61 2 1073741823) 61 3 0) 61 4 0) 63) 64) 65) 66) := hB37.z
  have hZ46 : KI ([]) (zI (zI (zI (zI (uI (uI (uI (uI (zI I 62) 61 1 4) 61 2 1073741823) 61 3 0) 61 4 0) 63) 64) 65) 66) := hZ38.z rfl
  have hI47 : FI 61 I (zI (zI (zI (zI (uI (uI (uI (uI (zI I 62) 61 1 4) 61 2 1073741823) 61 3 0) 61 4 0) 63) 64) 65) 66) := hI39.z rfl
  have hJ48 : FJ 61 J (zJ (zJ (zJ (zJ (zJ J 62) 63) 64) 65) 66) := hJ40.z rfl
  have hK49 : RK ((61, 7, 65) :: ((61, 6, 64) :: ((61, 5, 63) :: ((61, 0, 62) :: ([]))))) (zR (uR (zR (uR (zR (uR (zR (uR (zR R 62) 61 0 62) 63) 61 5 63) 64) 61 6 64) 65) 61 7 65) 66) := hK43.z rfl
  have hF50 : FR 61 R (zR (uR (zR (uR (zR (uR (zR (uR (zR R 62) 61 0 62) 63) 61 5 63) 64) 61 6 64) 65) 61 7 65) 66) := hF44.z rfl
  have hK51 : RK ((61, 8, 66) :: ((61, 7, 65) :: ((61, 6, 64) :: ((61, 5, 63) :: ((61, 0, 62) :: ([])))))) (uR (zR (uR (zR (uR (zR (uR (zR (uR (zR R 62) 61 0 62) 63) 61 5 63) 64) 61 6 64) 65) 61 7 65) 66) 61 8 66) := hK49.u rfl
  have hF52 : FR 61 R (uR (zR (uR (zR (uR (zR (uR (zR (uR (zR R 62) 61 0 62) 63) 61 5 63) 64) 61 6 64) 65) 61 7 65) 66) 61 8 66) := hF50.u rfl
  exact ⟨rfl, fun z => absurd z (by decide), hQ _ _ _ hB45 hF52 hK51 hI47 hZ46 hJ48 trivial⟩
def zk_X2_init_67 : List (Nat × Nat × Int32) := []
def lk_X2_init_67 : List (Nat × Nat × Nat) := (67, 7, 72) :: ((67, 6, 71) :: ((67, 5, 70) :: ((67, 4, 69) :: ((67, 3, 68) :: ([])))))
set_option maxHeartbeats 4000000 in
set_option maxRecDepth 100000 in
theorem ct_X2_init_67 {d : Nat} {Q : Qt} {I : Im} {J : Jm} {R : Rm} (hB : BZ I) (hQ : ∀ (I2 : Im) (J2 : Jm) (R2 : Rm), BZ I2 → FR 67 R R2 → RK lk_X2_init_67 R2 → FI 67 I I2 → KI zk_X2_init_67 I2 → FJ 67 J J2 → True → Q 0 0 I2 J2 R2) : AM (d + 1) 27 67 [.ref 67] I J R Q := by
  refine amc_of (k := kX2_init) rfl rfl rfl rfl rfl rfl (Nat.le_of_ble_eq_true rfl) (fun P hc => ?_)
  refine cs_X2_init_67_0_67 hc _ _ _ ?_
  refine ⟨Or.inl rfl, ?_⟩
  have hB1 : BZ (uI I 67 0 0) := hB.kw rfl rfl
  have hZ2 : KI ([]) (uI I 67 0 0) := (KI.nil (I := I)).w rfl
  have hI3 : FI 67 I (uI I 67 0 0) := (FI.refl 67 I).w rfl
  have hB4 : BZ (uI (uI I 67 0 0) 67 1 0) := hB1.kw rfl rfl
  have hZ5 : KI ([]) (uI (uI I 67 0 0) 67 1 0) := hZ2.w rfl
  have hI6 : FI 67 I (uI (uI I 67 0 0) 67 1 0) := hI3.w rfl
  have hB7 : BZ (uI (uI (uI I 67 0 0) 67 1 0) 67 2 0) := hB4.kw rfl rfl
  have hZ8 : KI ([]) (uI (uI (uI I 67 0 0) 67 1 0) 67 2 0) := hZ5.w rfl
  have hI9 : FI 67 I (uI (uI (uI I 67 0 0) 67 1 0) 67 2 0) := hI6.w rfl
  refine ⟨rfl, ?_⟩
  have hB10 : BZ (zI (uI (uI (uI I 67 0 0) 67 1 0) 67 2 0) 68) := hB7.z
  have hZ11 : KI ([]) (zI (uI (uI (uI I 67 0 0) 67 1 0) 67 2 0) 68) := hZ8.z rfl
  have hI12 : FI 67 I (zI (uI (uI (uI I 67 0 0) 67 1 0) 67 2 0) 68) := hI9.z rfl
  have hJ13 : FJ 67 J (zJ J 68) := (FJ.refl 67 J).z rfl
  have hK14 : RK ([]) (zR R 68) := (RK.nil (R := R)).z rfl
  have hF15 : FR 67 R (zR R 68) := (FR.refl 67 R).z rfl
  have hK16 : RK ((67, 3, 68) :: ([])) (uR (zR R 68) 67 3 68) := hK14.u rfl
  have hF17 : FR 67 R (uR (zR R 68) 67 3 68) := hF15.u rfl
  refine ⟨rfl, ?_⟩
  have hB18 : BZ (zI (zI (uI (uI (uI I 67 0 0) 67 1 0) 67 2 0) 68) 69) := hB10.z
  have hZ19 : KI ([]) (zI (zI (uI (uI (uI I 67 0 0) 67 1 0) 67 2 0) 68) 69) := hZ11.z rfl
  have hI20 : FI 67 I (zI (zI (uI (uI (uI I 67 0 0) 67 1 0) 67 2 0) 68) 69) := hI12.z rfl
  have hJ21 : FJ 67 J (zJ (zJ J 68) 69) := hJ13.z rfl
  have hK22 : RK ((67, 3, 68) :: ([])) (zR (uR (zR R 68) 67 3 68) 69) := hK16.z rfl
  have hF23 : FR 67 R (zR (uR (zR R 68) 67 3 68) 69) := hF17.z rfl
  have hK24 : RK ((67, 4, 69) :: ((67, 3, 68) :: ([]))) (uR (zR (uR (zR R 68) 67 3 68) 69) 67 4 69) := hK22.u rfl
  have hF25 : FR 67 R (uR (zR (uR (zR R 68) 67 3 68) 69) 67 4 69) := hF23.u rfl
  refine ⟨rfl, ?_⟩
  have hB26 : BZ (zI (zI (zI (uI (uI (uI I 67 0 0) 67 1 0) 67 2 0) 68) 69) 70) := hB18.z
  have hZ27 : KI ([]) (zI (zI (zI (uI (uI (uI I 67 0 0) 67 1 0) 67 2 0) 68) 69) 70) := hZ19.z rfl
  have hI28 : FI 67 I (zI (zI (zI (uI (uI (uI I 67 0 0) 67 1 0) 67 2 0) 68) 69) 70) := hI20.z rfl
  have hJ29 : FJ 67 J (zJ (zJ (zJ J 68) 69) 70) := hJ21.z rfl
  have hK30 : RK ((67, 4, 69) :: ((67, 3, 68) :: ([]))) (zR (uR (zR (uR (zR R 68) 67 3 68) 69) 67 4 69) 70) := hK24.z rfl
  have hF31 : FR 67 R (zR (uR (zR (uR (zR R 68) 67 3 68) 69) 67 4 69) 70) := hF25.z rfl
  have hK32 : RK ((67, 5, 70) :: ((67, 4, 69) :: ((67, 3, 68) :: ([])))) (uR (zR (uR (zR (uR (zR R 68) 67 3 68) 69) 67 4 69) 70) 67 5 70) := hK30.u rfl
  have hF33 : FR 67 R (uR (zR (uR (zR (uR (zR R 68) 67 3 68) 69) 67 4 69) 70) 67 5 70) := hF31.u rfl
  refine ⟨rfl, ?_⟩
  have hB34 : BZ (zI (zI (zI (zI (uI (uI (uI I 67 0 0) 67 1 0) 67 2 0) 68) 69) 70) 71) := hB26.z
  have hZ35 : KI ([]) (zI (zI (zI (zI (uI (uI (uI I 67 0 0) 67 1 0) 67 2 0) 68) 69) 70) 71) := hZ27.z rfl
  have hI36 : FI 67 I (zI (zI (zI (zI (uI (uI (uI I 67 0 0) 67 1 0) 67 2 0) 68) 69) 70) 71) := hI28.z rfl
  have hJ37 : FJ 67 J (zJ (zJ (zJ (zJ J 68) 69) 70) 71) := hJ29.z rfl
  have hK38 : RK ((67, 5, 70) :: ((67, 4, 69) :: ((67, 3, 68) :: ([])))) (zR (uR (zR (uR (zR (uR (zR R 68) 67 3 68) 69) 67 4 69) 70) 67 5 70) 71) := hK32.z rfl
  have hF39 : FR 67 R (zR (uR (zR (uR (zR (uR (zR R 68) 67 3 68) 69) 67 4 69) 70) 67 5 70) 71) := hF33.z rfl
  have hK40 : RK ((67, 6, 71) :: ((67, 5, 70) :: ((67, 4, 69) :: ((67, 3, 68) :: ([]))))) (uR (zR (uR (zR (uR (zR (uR (zR R 68) 67 3 68) 69) 67 4 69) 70) 67 5 70) 71) 67 6 71) := hK38.u rfl
  have hF41 : FR 67 R (uR (zR (uR (zR (uR (zR (uR (zR R 68) 67 3 68) 69) 67 4 69) 70) 67 5 70) 71) 67 6 71) := hF39.u rfl
  refine ⟨rfl, ?_⟩
  have hB42 : BZ (zI (zI (zI (zI (zI (uI (uI (uI I 67 0 0) 67 1 0) 67 2 0) 68) 69) 70) 71) 72) := hB34.z
  have hZ43 : KI ([]) (zI (zI (zI (zI (zI (uI (uI (uI I 67 0 0) 67 1 0) 67 2 0) 68) 69) 70) 71) 72) := hZ35.z rfl
  have hI44 : FI 67 I (zI (zI (zI (zI (zI (uI (uI (uI I 67 0 0) 67 1 0) 67 2 0) 68) 69) 70) 71) 72) := hI36.z rfl
  have hJ45 : FJ 67 J (zJ (zJ (zJ (zJ (zJ J 68) 69) 70) 71) 72) := hJ37.z rfl
  have hK46 : RK ((67, 6, 71) :: ((67, 5, 70) :: ((67, 4, 69) :: ((67, 3, 68) :: ([]))))) (zR (uR (zR (uR (zR (uR (zR (uR (zR R 68) 67 3 68) 69) 67 4 69) 70) 67 5 70) 71) 67 6 71) 72) := hK40.z rfl
  have hF47 : FR 67 R (zR (uR (zR (uR (zR (uR (zR (uR (zR R 68) 67 3 68) 69) 67 4 69) 70) 67 5 70) 71) 67 6 71) 72) := hF41.z rfl
  have hK48 : RK ((67, 7, 72) :: ((67, 6, 71) :: ((67, 5, 70) :: ((67, 4, 69) :: ((67, 3, 68) :: ([])))))) (uR (zR (uR (zR (uR (zR (uR (zR (uR (zR R 68) 67 3 68) 69) 67 4 69) 70) 67 5 70) 71) 67 6 71) 72) 67 7 72) := hK46.u rfl
  have hF49 : FR 67 R (uR (zR (uR (zR (uR (zR (uR (zR (uR (zR R 68) 67 3 68) 69) 67 4 69) 70) 67 5 70) 71) 67 6 71) 72) 67 7 72) := hF47.u rfl
  exact ⟨rfl, fun z => absurd z (by decide), hQ _ _ _ hB42 hF49 hK48 hI44 hZ43 hJ45 trivial⟩
def zk_X0_init_73 : List (Nat × Nat × Int32) := []
def lk_X0_init_73 : List (Nat × Nat × Nat) := (73, 8, 78) :: ((73, 7, 77) :: ((73, 6, 76) :: ((73, 5, 75) :: ((73, 0, 74) :: ([])))))
set_option maxHeartbeats 4000000 in
set_option maxRecDepth 100000 in
theorem ct_X0_init_73 {d : Nat} {Q : Qt} {I : Im} {J : Jm} {R : Rm} (hB : BZ I) (hQ : ∀ (I2 : Im) (J2 : Jm) (R2 : Rm), BZ I2 → FR 73 R R2 → RK lk_X0_init_73 R2 → FI 73 I I2 → KI zk_X0_init_73 I2 → FJ 73 J J2 → True → Q 0 0 I2 J2 R2) : AM (d + 1) 0 73 [.ref 73] I J R Q := by
  refine amc_of (k := kX0_init) rfl rfl rfl rfl rfl rfl (Nat.le_of_ble_eq_true rfl) (fun P hc => ?_)
  refine cs_X0_init_73_0_73 hc _ _ _ ?_
  refine ⟨rfl, ?_⟩
  have hB1 : BZ (zI I 74) := hB.z
  have hZ2 : KI ([]) (zI I 74) := (KI.nil (I := I)).z rfl
  have hI3 : FI 73 I (zI I 74) := (FI.refl 73 I).z rfl
  have hJ4 : FJ 73 J (zJ J 74) := (FJ.refl 73 J).z rfl
  have hK5 : RK ([]) (zR R 74) := (RK.nil (R := R)).z rfl
  have hF6 : FR 73 R (zR R 74) := (FR.refl 73 R).z rfl
  have hK7 : RK ((73, 0, 74) :: ([])) (uR (zR R 74) 73 0 74) := hK5.u rfl
  have hF8 : FR 73 R (uR (zR R 74) 73 0 74) := hF6.u rfl
  have hB9 : BZ (uI (zI I 74) 73 1 4) := hB1.kw rfl rfl
  have hZ10 : KI ([]) (uI (zI I 74) 73 1 4) := hZ2.w rfl
  have hI11 : FI 73 I (uI (zI I 74) 73 1 4) := hI3.w rfl
  have hB12 : BZ (uI (uI (zI I 74) 73 1 4) 73 2 1073741823) := hB9.kw rfl rfl
  have hZ13 : KI ([]) (uI (uI (zI I 74) 73 1 4) 73 2 1073741823) := hZ10.w rfl
  have hI14 : FI 73 I (uI (uI (zI I 74) 73 1 4) 73 2 1073741823) := hI11.w rfl
  have hB15 : BZ (uI (uI (uI (zI I 74) 73 1 4) 73 2 1073741823) 73 3 0) := hB12.kw rfl rfl
  have hZ16 : KI ([]) (uI (uI (uI (zI I 74) 73 1 4) 73 2 1073741823) 73 3 0) := hZ13.w rfl
  have hI17 : FI 73 I (uI (uI (uI (zI I 74) 73 1 4) 73 2 1073741823) 73 3 0) := hI14.w rfl
  have hB18 : BZ (uI (uI (uI (uI (zI I 74) 73 1 4) 73 2 1073741823) 73 3 0) 73 4 0) := hB15.kw rfl rfl
  have hZ19 : KI ([]) (uI (uI (uI (uI (zI I 74) 73 1 4) 73 2 1073741823) 73 3 0) 73 4 0) := hZ16.w rfl
  have hI20 : FI 73 I (uI (uI (uI (uI (zI I 74) 73 1 4) 73 2 1073741823) 73 3 0) 73 4 0) := hI17.w rfl
  refine ⟨rfl, ?_⟩
  have hB21 : BZ (zI (uI (uI (uI (uI (zI I 74) 73 1 4) 73 2 1073741823) 73 3 0) 73 4 0) 75) := hB18.z
  have hZ22 : KI ([]) (zI (uI (uI (uI (uI (zI I 74) 73 1 4) 73 2 1073741823) 73 3 0) 73 4 0) 75) := hZ19.z rfl
  have hI23 : FI 73 I (zI (uI (uI (uI (uI (zI I 74) 73 1 4) 73 2 1073741823) 73 3 0) 73 4 0) 75) := hI20.z rfl
  have hJ24 : FJ 73 J (zJ (zJ J 74) 75) := hJ4.z rfl
  have hK25 : RK ((73, 0, 74) :: ([])) (zR (uR (zR R 74) 73 0 74) 75) := hK7.z rfl
  have hF26 : FR 73 R (zR (uR (zR R 74) 73 0 74) 75) := hF8.z rfl
  have hK27 : RK ((73, 5, 75) :: ((73, 0, 74) :: ([]))) (uR (zR (uR (zR R 74) 73 0 74) 75) 73 5 75) := hK25.u rfl
  have hF28 : FR 73 R (uR (zR (uR (zR R 74) 73 0 74) 75) 73 5 75) := hF26.u rfl
  refine ⟨rfl, ?_⟩
  have hB29 : BZ (zI (zI (uI (uI (uI (uI (zI I 74) 73 1 4) 73 2 1073741823) 73 3 0) 73 4 0) 75) 76) := hB21.z
  have hZ30 : KI ([]) (zI (zI (uI (uI (uI (uI (zI I 74) 73 1 4) 73 2 1073741823) 73 3 0) 73 4 0) 75) 76) := hZ22.z rfl
  have hI31 : FI 73 I (zI (zI (uI (uI (uI (uI (zI I 74) 73 1 4) 73 2 1073741823) 73 3 0) 73 4 0) 75) 76) := hI23.z rfl
  have hJ32 : FJ 73 J (zJ (zJ (zJ J 74) 75) 76) := hJ24.z rfl
  have hK33 : RK ((73, 5, 75) :: ((73, 0, 74) :: ([]))) (zR (uR (zR (uR (zR R 74) 73 0 74) 75) 73 5 75) 76) := hK27.z rfl
  have hF34 : FR 73 R (zR (uR (zR (uR (zR R 74) 73 0 74) 75) 73 5 75) 76) := hF28.z rfl
  have hK35 : RK ((73, 6, 76) :: ((73, 5, 75) :: ((73, 0, 74) :: ([])))) (uR (zR (uR (zR (uR (zR R 74) 73 0 74) 75) 73 5 75) 76) 73 6 76) := hK33.u rfl
  have hF36 : FR 73 R (uR (zR (uR (zR (uR (zR R 74) 73 0 74) 75) 73 5 75) 76) 73 6 76) := hF34.u rfl
  refine ⟨rfl, ?_⟩
  have hB37 : BZ (zI (zI (zI (uI (uI (uI (uI (zI I 74) 73 1 4) 73 2 1073741823) 73 3 0) 73 4 0) 75) 76) 77) := hB29.z
  have hZ38 : KI ([]) (zI (zI (zI (uI (uI (uI (uI (zI I 74) 73 1 4) 73 2 1073741823) 73 3 0) 73 4 0) 75) 76) 77) := hZ30.z rfl
  have hI39 : FI 73 I (zI (zI (zI (uI (uI (uI (uI (zI I 74) 73 1 4) 73 2 1073741823) 73 3 0) 73 4 0) 75) 76) 77) := hI31.z rfl
  have hJ40 : FJ 73 J (zJ (zJ (zJ (zJ J 74) 75) 76) 77) := hJ32.z rfl
  have hK41 : RK ((73, 6, 76) :: ((73, 5, 75) :: ((73, 0, 74) :: ([])))) (zR (uR (zR (uR (zR (uR (zR R 74) 73 0 74) 75) 73 5 75) 76) 73 6 76) 77) := hK35.z rfl
  have hF42 : FR 73 R (zR (uR (zR (uR (zR (uR (zR R 74) 73 0 74) 75) 73 5 75) 76) 73 6 76) 77) := hF36.z rfl
  have hK43 : RK ((73, 7, 77) :: ((73, 6, 76) :: ((73, 5, 75) :: ((73, 0, 74) :: ([]))))) (uR (zR (uR (zR (uR (zR (uR (zR R 74) 73 0 74) 75) 73 5 75) 76) 73 6 76) 77) 73 7 77) := hK41.u rfl
  have hF44 : FR 73 R (uR (zR (uR (zR (uR (zR (uR (zR R 74) 73 0 74) 75) 73 5 75) 76) 73 6 76) 77) 73 7 77) := hF42.u rfl
  refine ⟨rfl, ?_⟩
  have hB45 : BZ (zI (zI (zI (zI (uI (uI (uI (uI (zI I 74) 73 1 4) 73 2 1073741823) 73 3 0) 73 4 0) 75) 76) 77) 78) := hB37.z
  have hZ46 : KI ([]) (zI (zI (zI (zI (uI (uI (uI (uI (zI I 74) 73 1 4) 73 2 1073741823) 73 3 0) 73 4 0) 75) 76) 77) 78) := hZ38.z rfl
  have hI47 : FI 73 I (zI (zI (zI (zI (uI (uI (uI (uI (zI I 74) 73 1 4) 73 2 1073741823) 73 3 0) 73 4 0) 75) 76) 77) 78) := hI39.z rfl
  have hJ48 : FJ 73 J (zJ (zJ (zJ (zJ (zJ J 74) 75) 76) 77) 78) := hJ40.z rfl
  have hK49 : RK ((73, 7, 77) :: ((73, 6, 76) :: ((73, 5, 75) :: ((73, 0, 74) :: ([]))))) (zR (uR (zR (uR (zR (uR (zR (uR (zR R 74) 73 0 74) 75) 73 5 75) 76) 73 6 76) 77) 73 7 77) 78) := hK43.z rfl
  have hF50 : FR 73 R (zR (uR (zR (uR (zR (uR (zR (uR (zR R 74) 73 0 74) 75) 73 5 75) 76) 73 6 76) 77) 73 7 77) 78) := hF44.z rfl
  have hK51 : RK ((73, 8, 78) :: ((73, 7, 77) :: ((73, 6, 76) :: ((73, 5, 75) :: ((73, 0, 74) :: ([])))))) (uR (zR (uR (zR (uR (zR (uR (zR (uR (zR R 74) 73 0 74) 75) 73 5 75) 76) 73 6 76) 77) 73 7 77) 78) 73 8 78) := hK49.u rfl
  have hF52 : FR 73 R (uR (zR (uR (zR (uR (zR (uR (zR (uR (zR R 74) 73 0 74) 75) 73 5 75) 76) 73 6 76) 77) 73 7 77) 78) 73 8 78) := hF50.u rfl
  exact ⟨rfl, fun z => absurd z (by decide), hQ _ _ _ hB45 hF52 hK51 hI47 hZ46 hJ48 trivial⟩
def zk_X2_init_79 : List (Nat × Nat × Int32) := []
def lk_X2_init_79 : List (Nat × Nat × Nat) := (79, 7, 84) :: ((79, 6, 83) :: ((79, 5, 82) :: ((79, 4, 81) :: ((79, 3, 80) :: ([])))))
set_option maxHeartbeats 4000000 in
set_option maxRecDepth 100000 in
theorem ct_X2_init_79 {d : Nat} {Q : Qt} {I : Im} {J : Jm} {R : Rm} (hB : BZ I) (hQ : ∀ (I2 : Im) (J2 : Jm) (R2 : Rm), BZ I2 → FR 79 R R2 → RK lk_X2_init_79 R2 → FI 79 I I2 → KI zk_X2_init_79 I2 → FJ 79 J J2 → True → Q 0 0 I2 J2 R2) : AM (d + 1) 27 79 [.ref 79] I J R Q := by
  refine amc_of (k := kX2_init) rfl rfl rfl rfl rfl rfl (Nat.le_of_ble_eq_true rfl) (fun P hc => ?_)
  refine cs_X2_init_79_0_79 hc _ _ _ ?_
  refine ⟨Or.inl rfl, ?_⟩
  have hB1 : BZ (uI I 79 0 0) := hB.kw rfl rfl
  have hZ2 : KI ([]) (uI I 79 0 0) := (KI.nil (I := I)).w rfl
  have hI3 : FI 79 I (uI I 79 0 0) := (FI.refl 79 I).w rfl
  have hB4 : BZ (uI (uI I 79 0 0) 79 1 0) := hB1.kw rfl rfl
  have hZ5 : KI ([]) (uI (uI I 79 0 0) 79 1 0) := hZ2.w rfl
  have hI6 : FI 79 I (uI (uI I 79 0 0) 79 1 0) := hI3.w rfl
  have hB7 : BZ (uI (uI (uI I 79 0 0) 79 1 0) 79 2 0) := hB4.kw rfl rfl
  have hZ8 : KI ([]) (uI (uI (uI I 79 0 0) 79 1 0) 79 2 0) := hZ5.w rfl
  have hI9 : FI 79 I (uI (uI (uI I 79 0 0) 79 1 0) 79 2 0) := hI6.w rfl
  refine ⟨rfl, ?_⟩
  have hB10 : BZ (zI (uI (uI (uI I 79 0 0) 79 1 0) 79 2 0) 80) := hB7.z
  have hZ11 : KI ([]) (zI (uI (uI (uI I 79 0 0) 79 1 0) 79 2 0) 80) := hZ8.z rfl
  have hI12 : FI 79 I (zI (uI (uI (uI I 79 0 0) 79 1 0) 79 2 0) 80) := hI9.z rfl
  have hJ13 : FJ 79 J (zJ J 80) := (FJ.refl 79 J).z rfl
  have hK14 : RK ([]) (zR R 80) := (RK.nil (R := R)).z rfl
  have hF15 : FR 79 R (zR R 80) := (FR.refl 79 R).z rfl
  have hK16 : RK ((79, 3, 80) :: ([])) (uR (zR R 80) 79 3 80) := hK14.u rfl
  have hF17 : FR 79 R (uR (zR R 80) 79 3 80) := hF15.u rfl
  refine ⟨rfl, ?_⟩
  have hB18 : BZ (zI (zI (uI (uI (uI I 79 0 0) 79 1 0) 79 2 0) 80) 81) := hB10.z
  have hZ19 : KI ([]) (zI (zI (uI (uI (uI I 79 0 0) 79 1 0) 79 2 0) 80) 81) := hZ11.z rfl
  have hI20 : FI 79 I (zI (zI (uI (uI (uI I 79 0 0) 79 1 0) 79 2 0) 80) 81) := hI12.z rfl
  have hJ21 : FJ 79 J (zJ (zJ J 80) 81) := hJ13.z rfl
  have hK22 : RK ((79, 3, 80) :: ([])) (zR (uR (zR R 80) 79 3 80) 81) := hK16.z rfl
  have hF23 : FR 79 R (zR (uR (zR R 80) 79 3 80) 81) := hF17.z rfl
  have hK24 : RK ((79, 4, 81) :: ((79, 3, 80) :: ([]))) (uR (zR (uR (zR R 80) 79 3 80) 81) 79 4 81) := hK22.u rfl
  have hF25 : FR 79 R (uR (zR (uR (zR R 80) 79 3 80) 81) 79 4 81) := hF23.u rfl
  refine ⟨rfl, ?_⟩
  have hB26 : BZ (zI (zI (zI (uI (uI (uI I 79 0 0) 79 1 0) 79 2 0) 80) 81) 82) := hB18.z
  have hZ27 : KI ([]) (zI (zI (zI (uI (uI (uI I 79 0 0) 79 1 0) 79 2 0) 80) 81) 82) := hZ19.z rfl
  have hI28 : FI 79 I (zI (zI (zI (uI (uI (uI I 79 0 0) 79 1 0) 79 2 0) 80) 81) 82) := hI20.z rfl
  have hJ29 : FJ 79 J (zJ (zJ (zJ J 80) 81) 82) := hJ21.z rfl
  have hK30 : RK ((79, 4, 81) :: ((79, 3, 80) :: ([]))) (zR (uR (zR (uR (zR R 80) 79 3 80) 81) 79 4 81) 82) := hK24.z rfl
  have hF31 : FR 79 R (zR (uR (zR (uR (zR R 80) 79 3 80) 81) 79 4 81) 82) := hF25.z rfl
  have hK32 : RK ((79, 5, 82) :: ((79, 4, 81) :: ((79, 3, 80) :: ([])))) (uR (zR (uR (zR (uR (zR R 80) 79 3 80) 81) 79 4 81) 82) 79 5 82) := hK30.u rfl
  have hF33 : FR 79 R (uR (zR (uR (zR (uR (zR R 80) 79 3 80) 81) 79 4 81) 82) 79 5 82) := hF31.u rfl
  refine ⟨rfl, ?_⟩
  have hB34 : BZ (zI (zI (zI (zI (uI (uI (uI I 79 0 0) 79 1 0) 79 2 0) 80) 81) 82) 83) := hB26.z
  have hZ35 : KI ([]) (zI (zI (zI (zI (uI (uI (uI I 79 0 0) 79 1 0) 79 2 0) 80) 81) 82) 83) := hZ27.z rfl
  have hI36 : FI 79 I (zI (zI (zI (zI (uI (uI (uI I 79 0 0) 79 1 0) 79 2 0) 80) 81) 82) 83) := hI28.z rfl
  have hJ37 : FJ 79 J (zJ (zJ (zJ (zJ J 80) 81) 82) 83) := hJ29.z rfl
  have hK38 : RK ((79, 5, 82) :: ((79, 4, 81) :: ((79, 3, 80) :: ([])))) (zR (uR (zR (uR (zR (uR (zR R 80) 79 3 80) 81) 79 4 81) 82) 79 5 82) 83) := hK32.z rfl
  have hF39 : FR 79 R (zR (uR (zR (uR (zR (uR (zR R 80) 79 3 80) 81) 79 4 81) 82) 79 5 82) 83) := hF33.z rfl
  have hK40 : RK ((79, 6, 83) :: ((79, 5, 82) :: ((79, 4, 81) :: ((79, 3, 80) :: ([]))))) (uR (zR (uR (zR (uR (zR (uR (zR R 80) 79 3 80) 81) 79 4 81) 82) 79 5 82) 83) 79 6 83) := hK38.u rfl
  have hF41 : FR 79 R (uR (zR (uR (zR (uR (zR (uR (zR R 80) 79 3 80) 81) 79 4 81) 82) 79 5 82) 83) 79 6 83) := hF39.u rfl
  refine ⟨rfl, ?_⟩
  have hB42 : BZ (zI (zI (zI (zI (zI (uI (uI (uI I 79 0 0) 79 1 0) 79 2 0) 80) 81) 82) 83) 84) := hB34.z
  have hZ43 : KI ([]) (zI (zI (zI (zI (zI (uI (uI (uI I 79 0 0) 79 1 0) 79 2 0) 80) 81) 82) 83) 84) := hZ35.z rfl
  have hI44 : FI 79 I (zI (zI (zI (zI (zI (uI (uI (uI I 79 0 0) 79 1 0) 79 2 0) 80) 81) 82) 83) 84) := hI36.z rfl
  have hJ45 : FJ 79 J (zJ (zJ (zJ (zJ (zJ J 80) 81) 82) 83) 84) := hJ37.z rfl
  have hK46 : RK ((79, 6, 83) :: ((79, 5, 82) :: ((79, 4, 81) :: ((79, 3, 80) :: ([]))))) (zR (uR (zR (uR (zR (uR (zR (uR (zR R 80) 79 3 80) 81) 79 4 81) 82) 79 5 82) 83) 79 6 83) 84) := hK40.z rfl
  have hF47 : FR 79 R (zR (uR (zR (uR (zR (uR (zR (uR (zR R 80) 79 3 80) 81) 79 4 81) 82) 79 5 82) 83) 79 6 83) 84) := hF41.z rfl
  have hK48 : RK ((79, 7, 84) :: ((79, 6, 83) :: ((79, 5, 82) :: ((79, 4, 81) :: ((79, 3, 80) :: ([])))))) (uR (zR (uR (zR (uR (zR (uR (zR (uR (zR R 80) 79 3 80) 81) 79 4 81) 82) 79 5 82) 83) 79 6 83) 84) 79 7 84) := hK46.u rfl
  have hF49 : FR 79 R (uR (zR (uR (zR (uR (zR (uR (zR (uR (zR R 80) 79 3 80) 81) 79 4 81) 82) 79 5 82) 83) 79 6 83) 84) 79 7 84) := hF47.u rfl
  exact ⟨rfl, fun z => absurd z (by decide), hQ _ _ _ hB42 hF49 hK48 hI44 hZ43 hJ45 trivial⟩
def zk_X0_init_85 : List (Nat × Nat × Int32) := []
def lk_X0_init_85 : List (Nat × Nat × Nat) := (85, 8, 90) :: ((85, 7, 89) :: ((85, 6, 88) :: ((85, 5, 87) :: ((85, 0, 86) :: ([])))))
set_option maxHeartbeats 4000000 in
set_option maxRecDepth 100000 in
theorem ct_X0_init_85 {d : Nat} {Q : Qt} {I : Im} {J : Jm} {R : Rm} (hB : BZ I) (hQ : ∀ (I2 : Im) (J2 : Jm) (R2 : Rm), BZ I2 → FR 85 R R2 → RK lk_X0_init_85 R2 → FI 85 I I2 → KI zk_X0_init_85 I2 → FJ 85 J J2 → True → Q 0 0 I2 J2 R2) : AM (d + 1) 0 85 [.ref 85] I J R Q := by
  refine amc_of (k := kX0_init) rfl rfl rfl rfl rfl rfl (Nat.le_of_ble_eq_true rfl) (fun P hc => ?_)
  refine cs_X0_init_85_0_85 hc _ _ _ ?_
  refine ⟨rfl, ?_⟩
  have hB1 : BZ (zI I 86) := hB.z
  have hZ2 : KI ([]) (zI I 86) := (KI.nil (I := I)).z rfl
  have hI3 : FI 85 I (zI I 86) := (FI.refl 85 I).z rfl
  have hJ4 : FJ 85 J (zJ J 86) := (FJ.refl 85 J).z rfl
  have hK5 : RK ([]) (zR R 86) := (RK.nil (R := R)).z rfl
  have hF6 : FR 85 R (zR R 86) := (FR.refl 85 R).z rfl
  have hK7 : RK ((85, 0, 86) :: ([])) (uR (zR R 86) 85 0 86) := hK5.u rfl
  have hF8 : FR 85 R (uR (zR R 86) 85 0 86) := hF6.u rfl
  have hB9 : BZ (uI (zI I 86) 85 1 4) := hB1.kw rfl rfl
  have hZ10 : KI ([]) (uI (zI I 86) 85 1 4) := hZ2.w rfl
  have hI11 : FI 85 I (uI (zI I 86) 85 1 4) := hI3.w rfl
  have hB12 : BZ (uI (uI (zI I 86) 85 1 4) 85 2 1073741823) := hB9.kw rfl rfl
  have hZ13 : KI ([]) (uI (uI (zI I 86) 85 1 4) 85 2 1073741823) := hZ10.w rfl
  have hI14 : FI 85 I (uI (uI (zI I 86) 85 1 4) 85 2 1073741823) := hI11.w rfl
  have hB15 : BZ (uI (uI (uI (zI I 86) 85 1 4) 85 2 1073741823) 85 3 0) := hB12.kw rfl rfl
  have hZ16 : KI ([]) (uI (uI (uI (zI I 86) 85 1 4) 85 2 1073741823) 85 3 0) := hZ13.w rfl
  have hI17 : FI 85 I (uI (uI (uI (zI I 86) 85 1 4) 85 2 1073741823) 85 3 0) := hI14.w rfl
  have hB18 : BZ (uI (uI (uI (uI (zI I 86) 85 1 4) 85 2 1073741823) 85 3 0) 85 4 0) := hB15.kw rfl rfl
  have hZ19 : KI ([]) (uI (uI (uI (uI (zI I 86) 85 1 4) 85 2 1073741823) 85 3 0) 85 4 0) := hZ16.w rfl
  have hI20 : FI 85 I (uI (uI (uI (uI (zI I 86) 85 1 4) 85 2 1073741823) 85 3 0) 85 4 0) := hI17.w rfl
  refine ⟨rfl, ?_⟩
  have hB21 : BZ (zI (uI (uI (uI (uI (zI I 86) 85 1 4) 85 2 1073741823) 85 3 0) 85 4 0) 87) := hB18.z
  have hZ22 : KI ([]) (zI (uI (uI (uI (uI (zI I 86) 85 1 4) 85 2 1073741823) 85 3 0) 85 4 0) 87) := hZ19.z rfl
  have hI23 : FI 85 I (zI (uI (uI (uI (uI (zI I 86) 85 1 4) 85 2 1073741823) 85 3 0) 85 4 0) 87) := hI20.z rfl
  have hJ24 : FJ 85 J (zJ (zJ J 86) 87) := hJ4.z rfl
  have hK25 : RK ((85, 0, 86) :: ([])) (zR (uR (zR R 86) 85 0 86) 87) := hK7.z rfl
  have hF26 : FR 85 R (zR (uR (zR R 86) 85 0 86) 87) := hF8.z rfl
  have hK27 : RK ((85, 5, 87) :: ((85, 0, 86) :: ([]))) (uR (zR (uR (zR R 86) 85 0 86) 87) 85 5 87) := hK25.u rfl
  have hF28 : FR 85 R (uR (zR (uR (zR R 86) 85 0 86) 87) 85 5 87) := hF26.u rfl
  refine ⟨rfl, ?_⟩
  have hB29 : BZ (zI (zI (uI (uI (uI (uI (zI I 86) 85 1 4) 85 2 1073741823) 85 3 0) 85 4 0) 87) 88) := hB21.z
  have hZ30 : KI ([]) (zI (zI (uI (uI (uI (uI (zI I 86) 85 1 4) 85 2 1073741823) 85 3 0) 85 4 0) 87) 88) := hZ22.z rfl
  have hI31 : FI 85 I (zI (zI (uI (uI (uI (uI (zI I 86) 85 1 4) 85 2 1073741823) 85 3 0) 85 4 0) 87) 88) := hI23.z rfl
  have hJ32 : FJ 85 J (zJ (zJ (zJ J 86) 87) 88) := hJ24.z rfl
  have hK33 : RK ((85, 5, 87) :: ((85, 0, 86) :: ([]))) (zR (uR (zR (uR (zR R 86) 85 0 86) 87) 85 5 87) 88) := hK27.z rfl
  have hF34 : FR 85 R (zR (uR (zR (uR (zR R 86) 85 0 86) 87) 85 5 87) 88) := hF28.z rfl
  have hK35 : RK ((85, 6, 88) :: ((85, 5, 87) :: ((85, 0, 86) :: ([])))) (uR (zR (uR (zR (uR (zR R 86) 85 0 86) 87) 85 5 87) 88) 85 6 88) := hK33.u rfl
  have hF36 : FR 85 R (uR (zR (uR (zR (uR (zR R 86) 85 0 86) 87) 85 5 87) 88) 85 6 88) := hF34.u rfl
  refine ⟨rfl, ?_⟩
  have hB37 : BZ (zI (zI (zI (uI (uI (uI (uI (zI I 86) 85 1 4) 85 2 1073741823) 85 3 0) 85 4 0) 87) 88) 89) := hB29.z
  have hZ38 : KI ([]) (zI (zI (zI (uI (uI (uI (uI (zI I 86) 85 1 4) 85 2 1073741823) 85 3 0) 85 4 0) 87) 88) 89) := hZ30.z rfl
  have hI39 : FI 85 I (zI (zI (zI (uI (uI (uI (uI (zI I 86) 85 1 4) 85 2 1073741823) 85 3 0) 85 4 0) 87) 88) 89) := hI31.z rfl
  have hJ40 : FJ 85 J (zJ (zJ (zJ (zJ J 86) 87) 88) 89) := hJ32.z rfl
  have hK41 : RK ((85, 6, 88) :: ((85, 5, 87) :: ((85, 0, 86) :: ([])))) (zR (uR (zR (uR (zR (uR (zR R 86) 85 0 86) 87) 85 5 87) 88) 85 6 88) 89) := hK35.z rfl
  have hF42 : FR 85 R (zR (uR (zR (uR (zR (uR (zR R 86) 85 0 86) 87) 85 5 87) 88) 85 6 88) 89) := hF36.z rfl
  have hK43 : RK ((85, 7, 89) :: ((85, 6, 88) :: ((85, 5, 87) :: ((85, 0, 86) :: ([]))))) (uR (zR (uR (zR (uR (zR (uR (zR R 86) 85 0 86) 87) 85 5 87) 88) 85 6 88) 89) 85 7 89) := hK41.u rfl
  have hF44 : FR 85 R (uR (zR (uR (zR (uR (zR (uR (zR R 86) 85 0 86) 87) 85 5 87) 88) 85 6 88) 89) 85 7 89) := hF42.u rfl
  refine ⟨rfl, ?_⟩
  have hB45 : BZ (zI (zI (zI (zI (uI (uI (uI (uI (zI I 86) 85 1 4) 85 2 1073741823) 85 3 0) 85 4 0) 87) 88) 89) 90) := hB37.z
  have hZ46 : KI ([]) (zI (zI (zI (zI (uI (uI (uI (uI (zI I 86) 85 1 4) 85 2 1073741823) 85 3 0) 85 4 0) 87) 88) 89) 90) := hZ38.z rfl
  have hI47 : FI 85 I (zI (zI (zI (zI (uI (uI (uI (uI (zI I 86) 85 1 4) 85 2 1073741823) 85 3 0) 85 4 0) 87) 88) 89) 90) := hI39.z rfl
  have hJ48 : FJ 85 J (zJ (zJ (zJ (zJ (zJ J 86) 87) 88) 89) 90) := hJ40.z rfl
  have hK49 : RK ((85, 7, 89) :: ((85, 6, 88) :: ((85, 5, 87) :: ((85, 0, 86) :: ([]))))) (zR (uR (zR (uR (zR (uR (zR (uR (zR R 86) 85 0 86) 87) 85 5 87) 88) 85 6 88) 89) 85 7 89) 90) := hK43.z rfl
  have hF50 : FR 85 R (zR (uR (zR (uR (zR (uR (zR (uR (zR R 86) 85 0 86) 87) 85 5 87) 88) 85 6 88) 89) 85 7 89) 90) := hF44.z rfl
  have hK51 : RK ((85, 8, 90) :: ((85, 7, 89) :: ((85, 6, 88) :: ((85, 5, 87) :: ((85, 0, 86) :: ([])))))) (uR (zR (uR (zR (uR (zR (uR (zR (uR (zR R 86) 85 0 86) 87) 85 5 87) 88) 85 6 88) 89) 85 7 89) 90) 85 8 90) := hK49.u rfl
  have hF52 : FR 85 R (uR (zR (uR (zR (uR (zR (uR (zR (uR (zR R 86) 85 0 86) 87) 85 5 87) 88) 85 6 88) 89) 85 7 89) 90) 85 8 90) := hF50.u rfl
  exact ⟨rfl, fun z => absurd z (by decide), hQ _ _ _ hB45 hF52 hK51 hI47 hZ46 hJ48 trivial⟩
def zk_X2_init_91 : List (Nat × Nat × Int32) := []
def lk_X2_init_91 : List (Nat × Nat × Nat) := (91, 7, 96) :: ((91, 6, 95) :: ((91, 5, 94) :: ((91, 4, 93) :: ((91, 3, 92) :: ([])))))
set_option maxHeartbeats 4000000 in
set_option maxRecDepth 100000 in
theorem ct_X2_init_91 {d : Nat} {Q : Qt} {I : Im} {J : Jm} {R : Rm} (hB : BZ I) (hQ : ∀ (I2 : Im) (J2 : Jm) (R2 : Rm), BZ I2 → FR 91 R R2 → RK lk_X2_init_91 R2 → FI 91 I I2 → KI zk_X2_init_91 I2 → FJ 91 J J2 → True → Q 0 0 I2 J2 R2) : AM (d + 1) 27 91 [.ref 91] I J R Q := by
  refine amc_of (k := kX2_init) rfl rfl rfl rfl rfl rfl (Nat.le_of_ble_eq_true rfl) (fun P hc => ?_)
  refine cs_X2_init_91_0_91 hc _ _ _ ?_
  refine ⟨Or.inl rfl, ?_⟩
  have hB1 : BZ (uI I 91 0 0) := hB.kw rfl rfl
  have hZ2 : KI ([]) (uI I 91 0 0) := (KI.nil (I := I)).w rfl
  have hI3 : FI 91 I (uI I 91 0 0) := (FI.refl 91 I).w rfl
  have hB4 : BZ (uI (uI I 91 0 0) 91 1 0) := hB1.kw rfl rfl
  have hZ5 : KI ([]) (uI (uI I 91 0 0) 91 1 0) := hZ2.w rfl
  have hI6 : FI 91 I (uI (uI I 91 0 0) 91 1 0) := hI3.w rfl
  have hB7 : BZ (uI (uI (uI I 91 0 0) 91 1 0) 91 2 0) := hB4.kw rfl rfl
  have hZ8 : KI ([]) (uI (uI (uI I 91 0 0) 91 1 0) 91 2 0) := hZ5.w rfl
  have hI9 : FI 91 I (uI (uI (uI I 91 0 0) 91 1 0) 91 2 0) := hI6.w rfl
  refine ⟨rfl, ?_⟩
  have hB10 : BZ (zI (uI (uI (uI I 91 0 0) 91 1 0) 91 2 0) 92) := hB7.z
  have hZ11 : KI ([]) (zI (uI (uI (uI I 91 0 0) 91 1 0) 91 2 0) 92) := hZ8.z rfl
  have hI12 : FI 91 I (zI (uI (uI (uI I 91 0 0) 91 1 0) 91 2 0) 92) := hI9.z rfl
  have hJ13 : FJ 91 J (zJ J 92) := (FJ.refl 91 J).z rfl
  have hK14 : RK ([]) (zR R 92) := (RK.nil (R := R)).z rfl
  have hF15 : FR 91 R (zR R 92) := (FR.refl 91 R).z rfl
  have hK16 : RK ((91, 3, 92) :: ([])) (uR (zR R 92) 91 3 92) := hK14.u rfl
  have hF17 : FR 91 R (uR (zR R 92) 91 3 92) := hF15.u rfl
  refine ⟨rfl, ?_⟩
  have hB18 : BZ (zI (zI (uI (uI (uI I 91 0 0) 91 1 0) 91 2 0) 92) 93) := hB10.z
  have hZ19 : KI ([]) (zI (zI (uI (uI (uI I 91 0 0) 91 1 0) 91 2 0) 92) 93) := hZ11.z rfl
  have hI20 : FI 91 I (zI (zI (uI (uI (uI I 91 0 0) 91 1 0) 91 2 0) 92) 93) := hI12.z rfl
  have hJ21 : FJ 91 J (zJ (zJ J 92) 93) := hJ13.z rfl
  have hK22 : RK ((91, 3, 92) :: ([])) (zR (uR (zR R 92) 91 3 92) 93) := hK16.z rfl
  have hF23 : FR 91 R (zR (uR (zR R 92) 91 3 92) 93) := hF17.z rfl
  have hK24 : RK ((91, 4, 93) :: ((91, 3, 92) :: ([]))) (uR (zR (uR (zR R 92) 91 3 92) 93) 91 4 93) := hK22.u rfl
  have hF25 : FR 91 R (uR (zR (uR (zR R 92) 91 3 92) 93) 91 4 93) := hF23.u rfl
  refine ⟨rfl, ?_⟩
  have hB26 : BZ (zI (zI (zI (uI (uI (uI I 91 0 0) 91 1 0) 91 2 0) 92) 93) 94) := hB18.z
  have hZ27 : KI ([]) (zI (zI (zI (uI (uI (uI I 91 0 0) 91 1 0) 91 2 0) 92) 93) 94) := hZ19.z rfl
  have hI28 : FI 91 I (zI (zI (zI (uI (uI (uI I 91 0 0) 91 1 0) 91 2 0) 92) 93) 94) := hI20.z rfl
  have hJ29 : FJ 91 J (zJ (zJ (zJ J 92) 93) 94) := hJ21.z rfl
  have hK30 : RK ((91, 4, 93) :: ((91, 3, 92) :: ([]))) (zR (uR (zR (uR (zR R 92) 91 3 92) 93) 91 4 93) 94) := hK24.z rfl
  have hF31 : FR 91 R (zR (uR (zR (uR (zR R 92) 91 3 92) 93) 91 4 93) 94) := hF25.z rfl
  have hK32 : RK ((91, 5, 94) :: ((91, 4, 93) :: ((91, 3, 92) :: ([])))) (uR (zR (uR (zR (uR (zR R 92) 91 3 92) 93) 91 4 93) 94) 91 5 94) := hK30.u rfl
  have hF33 : FR 91 R (uR (zR (uR (zR (uR (zR R 92) 91 3 92) 93) 91 4 93) 94) 91 5 94) := hF31.u rfl
  refine ⟨rfl, ?_⟩
  have hB34 : BZ (zI (zI (zI (zI (uI (uI (uI I 91 0 0) 91 1 0) 91 2 0) 92) 93) 94) 95) := hB26.z
  have hZ35 : KI ([]) (zI (zI (zI (zI (uI (uI (uI I 91 0 0) 91 1 0) 91 2 0) 92) 93) 94) 95) := hZ27.z rfl
  have hI36 : FI 91 I (zI (zI (zI (zI (uI (uI (uI I 91 0 0) 91 1 0) 91 2 0) 92) 93) 94) 95) := hI28.z rfl
  have hJ37 : FJ 91 J (zJ (zJ (zJ (zJ J 92) 93) 94) 95) := hJ29.z rfl
  have hK38 : RK ((91, 5, 94) :: ((91, 4, 93) :: ((91, 3, 92) :: ([])))) (zR (uR (zR (uR (zR (uR (zR R 92) 91 3 92) 93) 91 4 93) 94) 91 5 94) 95) := hK32.z rfl
  have hF39 : FR 91 R (zR (uR (zR (uR (zR (uR (zR R 92) 91 3 92) 93) 91 4 93) 94) 91 5 94) 95) := hF33.z rfl
  have hK40 : RK ((91, 6, 95) :: ((91, 5, 94) :: ((91, 4, 93) :: ((91, 3, 92) :: ([]))))) (uR (zR (uR (zR (uR (zR (uR (zR R 92) 91 3 92) 93) 91 4 93) 94) 91 5 94) 95) 91 6 95) := hK38.u rfl
  have hF41 : FR 91 R (uR (zR (uR (zR (uR (zR (uR (zR R 92) 91 3 92) 93) 91 4 93) 94) 91 5 94) 95) 91 6 95) := hF39.u rfl
  refine ⟨rfl, ?_⟩
  have hB42 : BZ (zI (zI (zI (zI (zI (uI (uI (uI I 91 0 0) 91 1 0) 91 2 0) 92) 93) 94) 95) 96) := hB34.z
  have hZ43 : KI ([]) (zI (zI (zI (zI (zI (uI (uI (uI I 91 0 0) 91 1 0) 91 2 0) 92) 93) 94) 95) 96) := hZ35.z rfl
  have hI44 : FI 91 I (zI (zI (zI (zI (zI (uI (uI (uI I 91 0 0) 91 1 0) 91 2 0) 92) 93) 94) 95) 96) := hI36.z rfl
  have hJ45 : FJ 91 J (zJ (zJ (zJ (zJ (zJ J 92) 93) 94) 95) 96) := hJ37.z rfl
  have hK46 : RK ((91, 6, 95) :: ((91, 5, 94) :: ((91, 4, 93) :: ((91, 3, 92) :: ([]))))) (zR (uR (zR (uR (zR (uR (zR (uR (zR R 92) 91 3 92) 93) 91 4 93) 94) 91 5 94) 95) 91 6 95) 96) := hK40.z rfl
  have hF47 : FR 91 R (zR (uR (zR (uR (zR (uR (zR (uR (zR R 92) 91 3 92) 93) 91 4 93) 94) 91 5 94) 95) 91 6 95) 96) := hF41.z rfl
  have hK48 : RK ((91, 7, 96) :: ((91, 6, 95) :: ((91, 5, 94) :: ((91, 4, 93) :: ((91, 3, 92) :: ([])))))) (uR (zR (uR (zR (uR (zR (uR (zR (uR (zR R 92) 91 3 92) 93) 91 4 93) 94) 91 5 94) 95) 91 6 95) 96) 91 7 96) := hK46.u rfl
  have hF49 : FR 91 R (uR (zR (uR (zR (uR (zR (uR (zR (uR (zR R 92) 91 3 92) 93) 91 4 93) 94) 91 5 94) 95) 91 6 95) 96) 91 7 96) := hF47.u rfl
  exact ⟨rfl, fun z => absurd z (by decide), hQ _ _ _ hB42 hF49 hK48 hI44 hZ43 hJ45 trivial⟩
def zk_X11_init_1 : List (Nat × Nat × Int32) := zk_X2_init_91 ++ (zk_X0_init_85 ++ (zk_X2_init_79 ++ (zk_X0_init_73 ++ (zk_X2_init_67 ++ (zk_X0_init_61 ++ (zk_X10_init_59 ++ (zk_X10_init_57 ++ (zk_X10_init_55 ++ (zk_X10_init_53 ++ (zk_X4_init_51 ++ (zk_X4_init_49 ++ (zk_X9_init_45 ++ (zk_X5_init_42 ++ (zk_X8_init_39 ++ (zk_X7_init_35 ++ (zk_X2_init_27 ++ (zk_X2_init_21 ++ (zk_X0_init_15 ++ (zk_X0_init_9 ++ (zk_X3_init_7 ++ (zk_X1_init_6 ++ (zk_X6_init_3 ++ ([])))))))))))))))))))))))
def lk_X11_init_1 : List (Nat × Nat × Nat) := (34, 2, 91) :: (lk_X2_init_91 ++ ((33, 2, 85) :: (lk_X0_init_85 ++ ((34, 1, 79) :: (lk_X2_init_79 ++ ((33, 1, 73) :: (lk_X0_init_73 ++ ((34, 0, 67) :: (lk_X2_init_67 ++ ((33, 0, 61) :: (lk_X0_init_61 ++ ((2, 3, 59) :: (lk_X10_init_59 ++ ((2, 2, 57) :: (lk_X10_init_57 ++ ((2, 1, 55) :: (lk_X10_init_55 ++ ((2, 0, 53) :: (lk_X10_init_53 ++ ((1, 19, 51) :: (lk_X4_init_51 ++ ((1, 18, 49) :: (lk_X4_init_49 ++ ((1, 17, 45) :: (lk_X9_init_45 ++ ((1, 16, 42) :: (lk_X5_init_42 ++ ((1, 15, 39) :: (lk_X8_init_39 ++ ((1, 14, 35) :: (lk_X7_init_35 ++ ((1, 12, 34) :: ((1, 11, 33) :: ((1, 10, 27) :: (lk_X2_init_27 ++ ((1, 9, 21) :: (lk_X2_init_21 ++ ((1, 8, 15) :: (lk_X0_init_15 ++ ((1, 7, 9) :: (lk_X0_init_9 ++ ((1, 6, 7) :: (lk_X3_init_7 ++ ((1, 5, 6) :: ((1, 4, 3) :: (lk_X6_init_3 ++ ((1, 3, 2) :: ([]))))))))))))))))))))))))))))))))))))))))))))))))
set_option maxHeartbeats 4000000 in
set_option maxRecDepth 100000 in
theorem ct_X11_init_1 {d : Nat} {Q : Qt} {I : Im} {J : Jm} {R : Rm} (hB : BZ I) (hQ : ∀ (I2 : Im) (J2 : Jm) (R2 : Rm), BZ I2 → FR 1 R R2 → RK lk_X11_init_1 R2 → FI 1 I I2 → KI zk_X11_init_1 I2 → FJ 1 J J2 → J2 47 0 = 0 → Q 0 0 I2 J2 R2) : AM (d + 7) 99 1 [.ref 1] I J R Q := by
  refine amc_of (k := kX11_init) rfl rfl rfl rfl rfl rfl (Nat.le_of_ble_eq_true rfl) (fun P hc => ?_)
  refine cs_X11_init_1_0_1 hc _ _ _ ?_
  have hB1 : BZ (uI I 1 0 0) := hB.kw rfl rfl
  have hZ2 : KI ([]) (uI I 1 0 0) := (KI.nil (I := I)).w rfl
  have hI3 : FI 1 I (uI I 1 0 0) := (FI.refl 1 I).w rfl
  have hJ4 : FJ 1 J (uJ J 1 1 0) := (FJ.refl 1 J).w rfl
  have hJ5 : FJ 1 J (uJ (uJ J 1 1 0) 1 2 1) := hJ4.w rfl
  refine ⟨rfl, ?_⟩
  have hB6 : BZ (zI (uI I 1 0 0) 2) := hB1.z
  have hZ7 : KI ([]) (zI (uI I 1 0 0) 2) := hZ2.z rfl
  have hI8 : FI 1 I (zI (uI I 1 0 0) 2) := hI3.z rfl
  have hJ9 : FJ 1 J (zJ (uJ (uJ J 1 1 0) 1 2 1) 2) := hJ5.z rfl
  have hK10 : RK ([]) (zR R 2) := (RK.nil (R := R)).z rfl
  have hF11 : FR 1 R (zR R 2) := (FR.refl 1 R).z rfl
  have hK12 : RK ((1, 3, 2) :: ([])) (uR (zR R 2) 1 3 2) := hK10.u rfl
  have hF13 : FR 1 R (uR (zR R 2) 1 3 2) := hF11.u rfl
  have hB14 : BZ (zI (zI (uI I 1 0 0) 2) 3) := hB6.z
  have hZ15 : KI ([]) (zI (zI (uI I 1 0 0) 2) 3) := hZ7.z rfl
  have hI16 : FI 1 I (zI (zI (uI I 1 0 0) 2) 3) := hI8.z rfl
  have hJ17 : FJ 1 J (zJ (zJ (uJ (uJ J 1 1 0) 1 2 1) 2) 3) := hJ9.z rfl
  have hK18 : RK ((1, 3, 2) :: ([])) (zR (uR (zR R 2) 1 3 2) 3) := hK12.z rfl
  have hF19 : FR 1 R (zR (uR (zR R 2) 1 3 2) 3) := hF13.z rfl
  refine ct_X6_init_3 hB14 (fun I20 J21 R22 hB23 hF24 hK25 hI26 hZ27 hJ28 jz29 => ?_)
  have hZ30 : KI (zk_X6_init_3 ++ ([])) I20 := hZ27.app (hZ15.fr hI26 rfl)
  have hI31 : FI 1 I I20 := fun o ho => (hI26 o (by omega)).trans (hI16 o ho)
  have hJ32 : FJ 1 J J21 := fun o ho => (hJ28 o (by omega)).trans (hJ17 o ho)
  have hK33 : RK (lk_X6_init_3 ++ ((1, 3, 2) :: ([]))) R22 := hK25.app (hK18.fr hF24 rfl)
  have hF34 : FR 1 R R22 := fun o ho => (hF24 o (by omega)).trans (hF19 o ho)
  have hK35 : RK ((1, 4, 3) :: (lk_X6_init_3 ++ ((1, 3, 2) :: ([])))) (uR R22 1 4 3) := hK33.u rfl
  have hF36 : FR 1 R (uR R22 1 4 3) := hF34.u rfl
  have hB37 : BZ (zI I20 6) := hB23.z
  have hZ38 : KI (zk_X6_init_3 ++ ([])) (zI I20 6) := hZ30.z rfl
  have hI39 : FI 1 I (zI I20 6) := hI31.z rfl
  have hJ40 : FJ 1 J (zJ J21 6) := hJ32.z rfl
  have hK41 : RK ((1, 4, 3) :: (lk_X6_init_3 ++ ((1, 3, 2) :: ([])))) (zR (uR R22 1 4 3) 6) := hK35.z rfl
  have hF42 : FR 1 R (zR (uR R22 1 4 3) 6) := hF36.z rfl
  refine ct_X1_init_6 hB37 (fun I43 J44 R45 hB46 hF47 hK48 hI49 hZ50 hJ51 jz52 => ?_)
  have hZ53 : KI (zk_X1_init_6 ++ (zk_X6_init_3 ++ ([]))) I43 := hZ50.app (hZ38.fr hI49 rfl)
  have hI54 : FI 1 I I43 := fun o ho => (hI49 o (by omega)).trans (hI39 o ho)
  have hJ55 : FJ 1 J J44 := fun o ho => (hJ51 o (by omega)).trans (hJ40 o ho)
  subst hF47
  have hK56 : RK ((1, 5, 6) :: ((1, 4, 3) :: (lk_X6_init_3 ++ ((1, 3, 2) :: ([]))))) (uR (zR (uR R22 1 4 3) 6) 1 5 6) := hK41.u rfl
  have hF57 : FR 1 R (uR (zR (uR R22 1 4 3) 6) 1 5 6) := hF42.u rfl
  have hB58 : BZ (zI I43 7) := hB46.z
  have hZ59 : KI (zk_X1_init_6 ++ (zk_X6_init_3 ++ ([]))) (zI I43 7) := hZ53.z rfl
  have hI60 : FI 1 I (zI I43 7) := hI54.z rfl
  have hJ61 : FJ 1 J (zJ J44 7) := hJ55.z rfl
  have hK62 : RK ((1, 5, 6) :: ((1, 4, 3) :: (lk_X6_init_3 ++ ((1, 3, 2) :: ([]))))) (zR (uR (zR (uR R22 1 4 3) 6) 1 5 6) 7) := hK56.z rfl
  have hF63 : FR 1 R (zR (uR (zR (uR R22 1 4 3) 6) 1 5 6) 7) := hF57.z rfl
  refine ct_X3_init_7 hB58 (fun I64 J65 R66 hB67 hF68 hK69 hI70 hZ71 hJ72 jz73 => ?_)
  have hZ74 : KI (zk_X3_init_7 ++ (zk_X1_init_6 ++ (zk_X6_init_3 ++ ([])))) I64 := hZ71.app (hZ59.fr hI70 rfl)
  have hI75 : FI 1 I I64 := fun o ho => (hI70 o (by omega)).trans (hI60 o ho)
  have hJ76 : FJ 1 J J65 := fun o ho => (hJ72 o (by omega)).trans (hJ61 o ho)
  have hK77 : RK (lk_X3_init_7 ++ ((1, 5, 6) :: ((1, 4, 3) :: (lk_X6_init_3 ++ ((1, 3, 2) :: ([])))))) R66 := hK69.app (hK62.fr hF68 rfl)
  have hF78 : FR 1 R R66 := fun o ho => (hF68 o (by omega)).trans (hF63 o ho)
  have hK79 : RK ((1, 6, 7) :: (lk_X3_init_7 ++ ((1, 5, 6) :: ((1, 4, 3) :: (lk_X6_init_3 ++ ((1, 3, 2) :: ([]))))))) (uR R66 1 6 7) := hK77.u rfl
  have hF80 : FR 1 R (uR R66 1 6 7) := hF78.u rfl
  have hB81 : BZ (zI I64 9) := hB67.z
  have hZ82 : KI (zk_X3_init_7 ++ (zk_X1_init_6 ++ (zk_X6_init_3 ++ ([])))) (zI I64 9) := hZ74.z rfl
  have hI83 : FI 1 I (zI I64 9) := hI75.z rfl
  have hJ84 : FJ 1 J (zJ J65 9) := hJ76.z rfl
  have hK85 : RK ((1, 6, 7) :: (lk_X3_init_7 ++ ((1, 5, 6) :: ((1, 4, 3) :: (lk_X6_init_3 ++ ((1, 3, 2) :: ([]))))))) (zR (uR R66 1 6 7) 9) := hK79.z rfl
  have hF86 : FR 1 R (zR (uR R66 1 6 7) 9) := hF80.z rfl
  refine ct_X0_init_9 hB81 (fun I87 J88 R89 hB90 hF91 hK92 hI93 hZ94 hJ95 jz96 => ?_)
  have hZ97 : KI (zk_X0_init_9 ++ (zk_X3_init_7 ++ (zk_X1_init_6 ++ (zk_X6_init_3 ++ ([]))))) I87 := hZ94.app (hZ82.fr hI93 rfl)
  have hI98 : FI 1 I I87 := fun o ho => (hI93 o (by omega)).trans (hI83 o ho)
  have hJ99 : FJ 1 J J88 := fun o ho => (hJ95 o (by omega)).trans (hJ84 o ho)
  have hK100 : RK (lk_X0_init_9 ++ ((1, 6, 7) :: (lk_X3_init_7 ++ ((1, 5, 6) :: ((1, 4, 3) :: (lk_X6_init_3 ++ ((1, 3, 2) :: ([])))))))) R89 := hK92.app (hK85.fr hF91 rfl)
  have hF101 : FR 1 R R89 := fun o ho => (hF91 o (by omega)).trans (hF86 o ho)
  refine ⟨by decide, ?_⟩
  have hK102 : RK ((1, 7, 9) :: (lk_X0_init_9 ++ ((1, 6, 7) :: (lk_X3_init_7 ++ ((1, 5, 6) :: ((1, 4, 3) :: (lk_X6_init_3 ++ ((1, 3, 2) :: ([]))))))))) (uR R89 1 7 9) := hK100.u rfl
  have hF103 : FR 1 R (uR R89 1 7 9) := hF101.u rfl
  have hB104 : BZ (zI I87 15) := hB90.z
  have hZ105 : KI (zk_X0_init_9 ++ (zk_X3_init_7 ++ (zk_X1_init_6 ++ (zk_X6_init_3 ++ ([]))))) (zI I87 15) := hZ97.z rfl
  have hI106 : FI 1 I (zI I87 15) := hI98.z rfl
  have hJ107 : FJ 1 J (zJ J88 15) := hJ99.z rfl
  have hK108 : RK ((1, 7, 9) :: (lk_X0_init_9 ++ ((1, 6, 7) :: (lk_X3_init_7 ++ ((1, 5, 6) :: ((1, 4, 3) :: (lk_X6_init_3 ++ ((1, 3, 2) :: ([]))))))))) (zR (uR R89 1 7 9) 15) := hK102.z rfl
  have hF109 : FR 1 R (zR (uR R89 1 7 9) 15) := hF103.z rfl
  refine ct_X0_init_15 hB104 (fun I110 J111 R112 hB113 hF114 hK115 hI116 hZ117 hJ118 jz119 => ?_)
  have hZ120 : KI (zk_X0_init_15 ++ (zk_X0_init_9 ++ (zk_X3_init_7 ++ (zk_X1_init_6 ++ (zk_X6_init_3 ++ ([])))))) I110 := hZ117.app (hZ105.fr hI116 rfl)
  have hI121 : FI 1 I I110 := fun o ho => (hI116 o (by omega)).trans (hI106 o ho)
  have hJ122 : FJ 1 J J111 := fun o ho => (hJ118 o (by omega)).trans (hJ107 o ho)
  have hK123 : RK (lk_X0_init_15 ++ ((1, 7, 9) :: (lk_X0_init_9 ++ ((1, 6, 7) :: (lk_X3_init_7 ++ ((1, 5, 6) :: ((1, 4, 3) :: (lk_X6_init_3 ++ ((1, 3, 2) :: ([])))))))))) R112 := hK115.app (hK108.fr hF114 rfl)
  have hF124 : FR 1 R R112 := fun o ho => (hF114 o (by omega)).trans (hF109 o ho)
  refine ⟨by decide, ?_⟩
  have hK125 : RK ((1, 8, 15) :: (lk_X0_init_15 ++ ((1, 7, 9) :: (lk_X0_init_9 ++ ((1, 6, 7) :: (lk_X3_init_7 ++ ((1, 5, 6) :: ((1, 4, 3) :: (lk_X6_init_3 ++ ((1, 3, 2) :: ([]))))))))))) (uR R112 1 8 15) := hK123.u rfl
  have hF126 : FR 1 R (uR R112 1 8 15) := hF124.u rfl
  have hB127 : BZ (zI I110 21) := hB113.z
  have hZ128 : KI (zk_X0_init_15 ++ (zk_X0_init_9 ++ (zk_X3_init_7 ++ (zk_X1_init_6 ++ (zk_X6_init_3 ++ ([])))))) (zI I110 21) := hZ120.z rfl
  have hI129 : FI 1 I (zI I110 21) := hI121.z rfl
  have hJ130 : FJ 1 J (zJ J111 21) := hJ122.z rfl
  have hK131 : RK ((1, 8, 15) :: (lk_X0_init_15 ++ ((1, 7, 9) :: (lk_X0_init_9 ++ ((1, 6, 7) :: (lk_X3_init_7 ++ ((1, 5, 6) :: ((1, 4, 3) :: (lk_X6_init_3 ++ ((1, 3, 2) :: ([]))))))))))) (zR (uR R112 1 8 15) 21) := hK125.z rfl
  have hF132 : FR 1 R (zR (uR R112 1 8 15) 21) := hF126.z rfl
  refine ct_X2_init_21 hB127 (fun I133 J134 R135 hB136 hF137 hK138 hI139 hZ140 hJ141 jz142 => ?_)
  have hZ143 : KI (zk_X2_init_21 ++ (zk_X0_init_15 ++ (zk_X0_init_9 ++ (zk_X3_init_7 ++ (zk_X1_init_6 ++ (zk_X6_init_3 ++ ([]))))))) I133 := hZ140.app (hZ128.fr hI139 rfl)
  have hI144 : FI 1 I I133 := fun o ho => (hI139 o (by omega)).trans (hI129 o ho)
  have hJ145 : FJ 1 J J134 := fun o ho => (hJ141 o (by omega)).trans (hJ130 o ho)
  have hK146 : RK (lk_X2_init_21 ++ ((1, 8, 15) :: (lk_X0_init_15 ++ ((1, 7, 9) :: (lk_X0_init_9 ++ ((1, 6, 7) :: (lk_X3_init_7 ++ ((1, 5, 6) :: ((1, 4, 3) :: (lk_X6_init_3 ++ ((1, 3, 2) :: ([])))))))))))) R135 := hK138.app (hK131.fr hF137 rfl)
  have hF147 : FR 1 R R135 := fun o ho => (hF137 o (by omega)).trans (hF132 o ho)
  refine ⟨by decide, ?_⟩
  have hK148 : RK ((1, 9, 21) :: (lk_X2_init_21 ++ ((1, 8, 15) :: (lk_X0_init_15 ++ ((1, 7, 9) :: (lk_X0_init_9 ++ ((1, 6, 7) :: (lk_X3_init_7 ++ ((1, 5, 6) :: ((1, 4, 3) :: (lk_X6_init_3 ++ ((1, 3, 2) :: ([]))))))))))))) (uR R135 1 9 21) := hK146.u rfl
  have hF149 : FR 1 R (uR R135 1 9 21) := hF147.u rfl
  have hB150 : BZ (zI I133 27) := hB136.z
  have hZ151 : KI (zk_X2_init_21 ++ (zk_X0_init_15 ++ (zk_X0_init_9 ++ (zk_X3_init_7 ++ (zk_X1_init_6 ++ (zk_X6_init_3 ++ ([]))))))) (zI I133 27) := hZ143.z rfl
  have hI152 : FI 1 I (zI I133 27) := hI144.z rfl
  have hJ153 : FJ 1 J (zJ J134 27) := hJ145.z rfl
  have hK154 : RK ((1, 9, 21) :: (lk_X2_init_21 ++ ((1, 8, 15) :: (lk_X0_init_15 ++ ((1, 7, 9) :: (lk_X0_init_9 ++ ((1, 6, 7) :: (lk_X3_init_7 ++ ((1, 5, 6) :: ((1, 4, 3) :: (lk_X6_init_3 ++ ((1, 3, 2) :: ([]))))))))))))) (zR (uR R135 1 9 21) 27) := hK148.z rfl
  have hF155 : FR 1 R (zR (uR R135 1 9 21) 27) := hF149.z rfl
  refine ct_X2_init_27 hB150 (fun I156 J157 R158 hB159 hF160 hK161 hI162 hZ163 hJ164 jz165 => ?_)
  have hZ166 : KI (zk_X2_init_27 ++ (zk_X2_init_21 ++ (zk_X0_init_15 ++ (zk_X0_init_9 ++ (zk_X3_init_7 ++ (zk_X1_init_6 ++ (zk_X6_init_3 ++ ([])))))))) I156 := hZ163.app (hZ151.fr hI162 rfl)
  have hI167 : FI 1 I I156 := fun o ho => (hI162 o (by omega)).trans (hI152 o ho)
  have hJ168 : FJ 1 J J157 := fun o ho => (hJ164 o (by omega)).trans (hJ153 o ho)
  have hK169 : RK (lk_X2_init_27 ++ ((1, 9, 21) :: (lk_X2_init_21 ++ ((1, 8, 15) :: (lk_X0_init_15 ++ ((1, 7, 9) :: (lk_X0_init_9 ++ ((1, 6, 7) :: (lk_X3_init_7 ++ ((1, 5, 6) :: ((1, 4, 3) :: (lk_X6_init_3 ++ ((1, 3, 2) :: ([])))))))))))))) R158 := hK161.app (hK154.fr hF160 rfl)
  have hF170 : FR 1 R R158 := fun o ho => (hF160 o (by omega)).trans (hF155 o ho)
  refine ⟨by decide, ?_⟩
  have hK171 : RK ((1, 10, 27) :: (lk_X2_init_27 ++ ((1, 9, 21) :: (lk_X2_init_21 ++ ((1, 8, 15) :: (lk_X0_init_15 ++ ((1, 7, 9) :: (lk_X0_init_9 ++ ((1, 6, 7) :: (lk_X3_init_7 ++ ((1, 5, 6) :: ((1, 4, 3) :: (lk_X6_init_3 ++ ((1, 3, 2) :: ([]))))))))))))))) (uR R158 1 10 27) := hK169.u rfl
  have hF172 : FR 1 R (uR R158 1 10 27) := hF170.u rfl
  refine ⟨rfl, ?_⟩
  have hB173 : BZ (zI I156 33) := hB159.z
  have hZ174 : KI (zk_X2_init_27 ++ (zk_X2_init_21 ++ (zk_X0_init_15 ++ (zk_X0_init_9 ++ (zk_X3_init_7 ++ (zk_X1_init_6 ++ (zk_X6_init_3 ++ ([])))))))) (zI I156 33) := hZ166.z rfl
  have hI175 : FI 1 I (zI I156 33) := hI167.z rfl
  have hJ176 : FJ 1 J (zJ J157 33) := hJ168.z rfl
  have hK177 : RK ((1, 10, 27) :: (lk_X2_init_27 ++ ((1, 9, 21) :: (lk_X2_init_21 ++ ((1, 8, 15) :: (lk_X0_init_15 ++ ((1, 7, 9) :: (lk_X0_init_9 ++ ((1, 6, 7) :: (lk_X3_init_7 ++ ((1, 5, 6) :: ((1, 4, 3) :: (lk_X6_init_3 ++ ((1, 3, 2) :: ([]))))))))))))))) (zR (uR R158 1 10 27) 33) := hK171.z rfl
  have hF178 : FR 1 R (zR (uR R158 1 10 27) 33) := hF172.z rfl
  have hK179 : RK ((1, 11, 33) :: ((1, 10, 27) :: (lk_X2_init_27 ++ ((1, 9, 21) :: (lk_X2_init_21 ++ ((1, 8, 15) :: (lk_X0_init_15 ++ ((1, 7, 9) :: (lk_X0_init_9 ++ ((1, 6, 7) :: (lk_X3_init_7 ++ ((1, 5, 6) :: ((1, 4, 3) :: (lk_X6_init_3 ++ ((1, 3, 2) :: ([])))))))))))))))) (uR (zR (uR R158 1 10 27) 33) 1 11 33) := hK177.u rfl
  have hF180 : FR 1 R (uR (zR (uR R158 1 10 27) 33) 1 11 33) := hF178.u rfl
  refine ⟨rfl, ?_⟩
  have hB181 : BZ (zI (zI I156 33) 34) := hB173.z
  have hZ182 : KI (zk_X2_init_27 ++ (zk_X2_init_21 ++ (zk_X0_init_15 ++ (zk_X0_init_9 ++ (zk_X3_init_7 ++ (zk_X1_init_6 ++ (zk_X6_init_3 ++ ([])))))))) (zI (zI I156 33) 34) := hZ174.z rfl
  have hI183 : FI 1 I (zI (zI I156 33) 34) := hI175.z rfl
  have hJ184 : FJ 1 J (zJ (zJ J157 33) 34) := hJ176.z rfl
  have hK185 : RK ((1, 11, 33) :: ((1, 10, 27) :: (lk_X2_init_27 ++ ((1, 9, 21) :: (lk_X2_init_21 ++ ((1, 8, 15) :: (lk_X0_init_15 ++ ((1, 7, 9) :: (lk_X0_init_9 ++ ((1, 6, 7) :: (lk_X3_init_7 ++ ((1, 5, 6) :: ((1, 4, 3) :: (lk_X6_init_3 ++ ((1, 3, 2) :: ([])))))))))))))))) (zR (uR (zR (uR R158 1 10 27) 33) 1 11 33) 34) := hK179.z rfl
  have hF186 : FR 1 R (zR (uR (zR (uR R158 1 10 27) 33) 1 11 33) 34) := hF180.z rfl
  have hK187 : RK ((1, 12, 34) :: ((1, 11, 33) :: ((1, 10, 27) :: (lk_X2_init_27 ++ ((1, 9, 21) :: (lk_X2_init_21 ++ ((1, 8, 15) :: (lk_X0_init_15 ++ ((1, 7, 9) :: (lk_X0_init_9 ++ ((1, 6, 7) :: (lk_X3_init_7 ++ ((1, 5, 6) :: ((1, 4, 3) :: (lk_X6_init_3 ++ ((1, 3, 2) :: ([]))))))))))))))))) (uR (zR (uR (zR (uR R158 1 10 27) 33) 1 11 33) 34) 1 12 34) := hK185.u rfl
  have hF188 : FR 1 R (uR (zR (uR (zR (uR R158 1 10 27) 33) 1 11 33) 34) 1 12 34) := hF186.u rfl
  have hB189 : BZ (uI (zI (zI I156 33) 34) 1 13 0) := hB181.kw rfl rfl
  have hZ190 : KI (zk_X2_init_27 ++ (zk_X2_init_21 ++ (zk_X0_init_15 ++ (zk_X0_init_9 ++ (zk_X3_init_7 ++ (zk_X1_init_6 ++ (zk_X6_init_3 ++ ([])))))))) (uI (zI (zI I156 33) 34) 1 13 0) := hZ182.w rfl
  have hI191 : FI 1 I (uI (zI (zI I156 33) 34) 1 13 0) := hI183.w rfl
  have hB192 : BZ (zI (uI (zI (zI I156 33) 34) 1 13 0) 35) := hB189.z
  have hZ193 : KI (zk_X2_init_27 ++ (zk_X2_init_21 ++ (zk_X0_init_15 ++ (zk_X0_init_9 ++ (zk_X3_init_7 ++ (zk_X1_init_6 ++ (zk_X6_init_3 ++ ([])))))))) (zI (uI (zI (zI I156 33) 34) 1 13 0) 35) := hZ190.z rfl
  have hI194 : FI 1 I (zI (uI (zI (zI I156 33) 34) 1 13 0) 35) := hI191.z rfl
  have hJ195 : FJ 1 J (zJ (zJ (zJ J157 33) 34) 35) := hJ184.z rfl
  have hK196 : RK ((1, 12, 34) :: ((1, 11, 33) :: ((1, 10, 27) :: (lk_X2_init_27 ++ ((1, 9, 21) :: (lk_X2_init_21 ++ ((1, 8, 15) :: (lk_X0_init_15 ++ ((1, 7, 9) :: (lk_X0_init_9 ++ ((1, 6, 7) :: (lk_X3_init_7 ++ ((1, 5, 6) :: ((1, 4, 3) :: (lk_X6_init_3 ++ ((1, 3, 2) :: ([]))))))))))))))))) (zR (uR (zR (uR (zR (uR R158 1 10 27) 33) 1 11 33) 34) 1 12 34) 35) := hK187.z rfl
  have hF197 : FR 1 R (zR (uR (zR (uR (zR (uR R158 1 10 27) 33) 1 11 33) 34) 1 12 34) 35) := hF188.z rfl
  refine ct_X7_init_35 hB192 (fun I198 J199 R200 hB201 hF202 hK203 hI204 hZ205 hJ206 jz207 => ?_)
  have hZ208 : KI (zk_X7_init_35 ++ (zk_X2_init_27 ++ (zk_X2_init_21 ++ (zk_X0_init_15 ++ (zk_X0_init_9 ++ (zk_X3_init_7 ++ (zk_X1_init_6 ++ (zk_X6_init_3 ++ ([]))))))))) I198 := hZ205.app (hZ193.fr hI204 rfl)
  have hI209 : FI 1 I I198 := fun o ho => (hI204 o (by omega)).trans (hI194 o ho)
  have hJ210 : FJ 1 J J199 := fun o ho => (hJ206 o (by omega)).trans (hJ195 o ho)
  have hK211 : RK (lk_X7_init_35 ++ ((1, 12, 34) :: ((1, 11, 33) :: ((1, 10, 27) :: (lk_X2_init_27 ++ ((1, 9, 21) :: (lk_X2_init_21 ++ ((1, 8, 15) :: (lk_X0_init_15 ++ ((1, 7, 9) :: (lk_X0_init_9 ++ ((1, 6, 7) :: (lk_X3_init_7 ++ ((1, 5, 6) :: ((1, 4, 3) :: (lk_X6_init_3 ++ ((1, 3, 2) :: ([])))))))))))))))))) R200 := hK203.app (hK196.fr hF202 rfl)
  have hF212 : FR 1 R R200 := fun o ho => (hF202 o (by omega)).trans (hF197 o ho)
  have hK213 : RK ((1, 14, 35) :: (lk_X7_init_35 ++ ((1, 12, 34) :: ((1, 11, 33) :: ((1, 10, 27) :: (lk_X2_init_27 ++ ((1, 9, 21) :: (lk_X2_init_21 ++ ((1, 8, 15) :: (lk_X0_init_15 ++ ((1, 7, 9) :: (lk_X0_init_9 ++ ((1, 6, 7) :: (lk_X3_init_7 ++ ((1, 5, 6) :: ((1, 4, 3) :: (lk_X6_init_3 ++ ((1, 3, 2) :: ([]))))))))))))))))))) (uR R200 1 14 35) := hK211.u rfl
  have hF214 : FR 1 R (uR R200 1 14 35) := hF212.u rfl
  have hB215 : BZ (zI I198 39) := hB201.z
  have hZ216 : KI (zk_X7_init_35 ++ (zk_X2_init_27 ++ (zk_X2_init_21 ++ (zk_X0_init_15 ++ (zk_X0_init_9 ++ (zk_X3_init_7 ++ (zk_X1_init_6 ++ (zk_X6_init_3 ++ ([]))))))))) (zI I198 39) := hZ208.z rfl
  have hI217 : FI 1 I (zI I198 39) := hI209.z rfl
  have hJ218 : FJ 1 J (zJ J199 39) := hJ210.z rfl
  have hK219 : RK ((1, 14, 35) :: (lk_X7_init_35 ++ ((1, 12, 34) :: ((1, 11, 33) :: ((1, 10, 27) :: (lk_X2_init_27 ++ ((1, 9, 21) :: (lk_X2_init_21 ++ ((1, 8, 15) :: (lk_X0_init_15 ++ ((1, 7, 9) :: (lk_X0_init_9 ++ ((1, 6, 7) :: (lk_X3_init_7 ++ ((1, 5, 6) :: ((1, 4, 3) :: (lk_X6_init_3 ++ ((1, 3, 2) :: ([]))))))))))))))))))) (zR (uR R200 1 14 35) 39) := hK213.z rfl
  have hF220 : FR 1 R (zR (uR R200 1 14 35) 39) := hF214.z rfl
  refine ct_X8_init_39 hB215 (fun I221 J222 R223 hB224 hF225 hK226 hI227 hZ228 hJ229 jz230 => ?_)
  have hZ231 : KI (zk_X8_init_39 ++ (zk_X7_init_35 ++ (zk_X2_init_27 ++ (zk_X2_init_21 ++ (zk_X0_init_15 ++ (zk_X0_init_9 ++ (zk_X3_init_7 ++ (zk_X1_init_6 ++ (zk_X6_init_3 ++ ([])))))))))) I221 := hZ228.app (hZ216.fr hI227 rfl)
  have hI232 : FI 1 I I221 := fun o ho => (hI227 o (by omega)).trans (hI217 o ho)
  have hJ233 : FJ 1 J J222 := fun o ho => (hJ229 o (by omega)).trans (hJ218 o ho)
  have hK234 : RK (lk_X8_init_39 ++ ((1, 14, 35) :: (lk_X7_init_35 ++ ((1, 12, 34) :: ((1, 11, 33) :: ((1, 10, 27) :: (lk_X2_init_27 ++ ((1, 9, 21) :: (lk_X2_init_21 ++ ((1, 8, 15) :: (lk_X0_init_15 ++ ((1, 7, 9) :: (lk_X0_init_9 ++ ((1, 6, 7) :: (lk_X3_init_7 ++ ((1, 5, 6) :: ((1, 4, 3) :: (lk_X6_init_3 ++ ((1, 3, 2) :: ([])))))))))))))))))))) R223 := hK226.app (hK219.fr hF225 rfl)
  have hF235 : FR 1 R R223 := fun o ho => (hF225 o (by omega)).trans (hF220 o ho)
  have hK236 : RK ((1, 15, 39) :: (lk_X8_init_39 ++ ((1, 14, 35) :: (lk_X7_init_35 ++ ((1, 12, 34) :: ((1, 11, 33) :: ((1, 10, 27) :: (lk_X2_init_27 ++ ((1, 9, 21) :: (lk_X2_init_21 ++ ((1, 8, 15) :: (lk_X0_init_15 ++ ((1, 7, 9) :: (lk_X0_init_9 ++ ((1, 6, 7) :: (lk_X3_init_7 ++ ((1, 5, 6) :: ((1, 4, 3) :: (lk_X6_init_3 ++ ((1, 3, 2) :: ([]))))))))))))))))))))) (uR R223 1 15 39) := hK234.u rfl
  have hF237 : FR 1 R (uR R223 1 15 39) := hF235.u rfl
  have hB238 : BZ (zI I221 42) := hB224.z
  have hZ239 : KI (zk_X8_init_39 ++ (zk_X7_init_35 ++ (zk_X2_init_27 ++ (zk_X2_init_21 ++ (zk_X0_init_15 ++ (zk_X0_init_9 ++ (zk_X3_init_7 ++ (zk_X1_init_6 ++ (zk_X6_init_3 ++ ([])))))))))) (zI I221 42) := hZ231.z rfl
  have hI240 : FI 1 I (zI I221 42) := hI232.z rfl
  have hJ241 : FJ 1 J (zJ J222 42) := hJ233.z rfl
  have hK242 : RK ((1, 15, 39) :: (lk_X8_init_39 ++ ((1, 14, 35) :: (lk_X7_init_35 ++ ((1, 12, 34) :: ((1, 11, 33) :: ((1, 10, 27) :: (lk_X2_init_27 ++ ((1, 9, 21) :: (lk_X2_init_21 ++ ((1, 8, 15) :: (lk_X0_init_15 ++ ((1, 7, 9) :: (lk_X0_init_9 ++ ((1, 6, 7) :: (lk_X3_init_7 ++ ((1, 5, 6) :: ((1, 4, 3) :: (lk_X6_init_3 ++ ((1, 3, 2) :: ([]))))))))))))))))))))) (zR (uR R223 1 15 39) 42) := hK236.z rfl
  have hF243 : FR 1 R (zR (uR R223 1 15 39) 42) := hF237.z rfl
  refine ct_X5_init_42 hB238 (fun I244 J245 R246 hB247 hF248 hK249 hI250 hZ251 hJ252 jz253 => ?_)
  have hZ254 : KI (zk_X5_init_42 ++ (zk_X8_init_39 ++ (zk_X7_init_35 ++ (zk_X2_init_27 ++ (zk_X2_init_21 ++ (zk_X0_init_15 ++ (zk_X0_init_9 ++ (zk_X3_init_7 ++ (zk_X1_init_6 ++ (zk_X6_init_3 ++ ([]))))))))))) I244 := hZ251.app (hZ239.fr hI250 rfl)
  have hI255 : FI 1 I I244 := fun o ho => (hI250 o (by omega)).trans (hI240 o ho)
  have hJ256 : FJ 1 J J245 := fun o ho => (hJ252 o (by omega)).trans (hJ241 o ho)
  have hK257 : RK (lk_X5_init_42 ++ ((1, 15, 39) :: (lk_X8_init_39 ++ ((1, 14, 35) :: (lk_X7_init_35 ++ ((1, 12, 34) :: ((1, 11, 33) :: ((1, 10, 27) :: (lk_X2_init_27 ++ ((1, 9, 21) :: (lk_X2_init_21 ++ ((1, 8, 15) :: (lk_X0_init_15 ++ ((1, 7, 9) :: (lk_X0_init_9 ++ ((1, 6, 7) :: (lk_X3_init_7 ++ ((1, 5, 6) :: ((1, 4, 3) :: (lk_X6_init_3 ++ ((1, 3, 2) :: ([])))))))))))))))))))))) R246 := hK249.app (hK242.fr hF248 rfl)
  have hF258 : FR 1 R R246 := fun o ho => (hF248 o (by omega)).trans (hF243 o ho)
  have hK259 : RK ((1, 16, 42) :: (lk_X5_init_42 ++ ((1, 15, 39) :: (lk_X8_init_39 ++ ((1, 14, 35) :: (lk_X7_init_35 ++ ((1, 12, 34) :: ((1, 11, 33) :: ((1, 10, 27) :: (lk_X2_init_27 ++ ((1, 9, 21) :: (lk_X2_init_21 ++ ((1, 8, 15) :: (lk_X0_init_15 ++ ((1, 7, 9) :: (lk_X0_init_9 ++ ((1, 6, 7) :: (lk_X3_init_7 ++ ((1, 5, 6) :: ((1, 4, 3) :: (lk_X6_init_3 ++ ((1, 3, 2) :: ([]))))))))))))))))))))))) (uR R246 1 16 42) := hK257.u rfl
  have hF260 : FR 1 R (uR R246 1 16 42) := hF258.u rfl
  have hB261 : BZ (zI I244 45) := hB247.z
  have hZ262 : KI (zk_X5_init_42 ++ (zk_X8_init_39 ++ (zk_X7_init_35 ++ (zk_X2_init_27 ++ (zk_X2_init_21 ++ (zk_X0_init_15 ++ (zk_X0_init_9 ++ (zk_X3_init_7 ++ (zk_X1_init_6 ++ (zk_X6_init_3 ++ ([]))))))))))) (zI I244 45) := hZ254.z rfl
  have hI263 : FI 1 I (zI I244 45) := hI255.z rfl
  have hJ264 : FJ 1 J (zJ J245 45) := hJ256.z rfl
  have hK265 : RK ((1, 16, 42) :: (lk_X5_init_42 ++ ((1, 15, 39) :: (lk_X8_init_39 ++ ((1, 14, 35) :: (lk_X7_init_35 ++ ((1, 12, 34) :: ((1, 11, 33) :: ((1, 10, 27) :: (lk_X2_init_27 ++ ((1, 9, 21) :: (lk_X2_init_21 ++ ((1, 8, 15) :: (lk_X0_init_15 ++ ((1, 7, 9) :: (lk_X0_init_9 ++ ((1, 6, 7) :: (lk_X3_init_7 ++ ((1, 5, 6) :: ((1, 4, 3) :: (lk_X6_init_3 ++ ((1, 3, 2) :: ([]))))))))))))))))))))))) (zR (uR R246 1 16 42) 45) := hK259.z rfl
  have hF266 : FR 1 R (zR (uR R246 1 16 42) 45) := hF260.z rfl
  refine ct_X9_init_45 hB261 (fun I267 J268 R269 hB270 hF271 hK272 hI273 hZ274 hJ275 jz276 => ?_)
  have hZ277 : KI (zk_X9_init_45 ++ (zk_X5_init_42 ++ (zk_X8_init_39 ++ (zk_X7_init_35 ++ (zk_X2_init_27 ++ (zk_X2_init_21 ++ (zk_X0_init_15 ++ (zk_X0_init_9 ++ (zk_X3_init_7 ++ (zk_X1_init_6 ++ (zk_X6_init_3 ++ ([])))))))))))) I267 := hZ274.app (hZ262.fr hI273 rfl)
  have hI278 : FI 1 I I267 := fun o ho => (hI273 o (by omega)).trans (hI263 o ho)
  have hJ279 : FJ 1 J J268 := fun o ho => (hJ275 o (by omega)).trans (hJ264 o ho)
  have hK280 : RK (lk_X9_init_45 ++ ((1, 16, 42) :: (lk_X5_init_42 ++ ((1, 15, 39) :: (lk_X8_init_39 ++ ((1, 14, 35) :: (lk_X7_init_35 ++ ((1, 12, 34) :: ((1, 11, 33) :: ((1, 10, 27) :: (lk_X2_init_27 ++ ((1, 9, 21) :: (lk_X2_init_21 ++ ((1, 8, 15) :: (lk_X0_init_15 ++ ((1, 7, 9) :: (lk_X0_init_9 ++ ((1, 6, 7) :: (lk_X3_init_7 ++ ((1, 5, 6) :: ((1, 4, 3) :: (lk_X6_init_3 ++ ((1, 3, 2) :: ([])))))))))))))))))))))))) R269 := hK272.app (hK265.fr hF271 rfl)
  have hF281 : FR 1 R R269 := fun o ho => (hF271 o (by omega)).trans (hF266 o ho)
  have hK282 : RK ((1, 17, 45) :: (lk_X9_init_45 ++ ((1, 16, 42) :: (lk_X5_init_42 ++ ((1, 15, 39) :: (lk_X8_init_39 ++ ((1, 14, 35) :: (lk_X7_init_35 ++ ((1, 12, 34) :: ((1, 11, 33) :: ((1, 10, 27) :: (lk_X2_init_27 ++ ((1, 9, 21) :: (lk_X2_init_21 ++ ((1, 8, 15) :: (lk_X0_init_15 ++ ((1, 7, 9) :: (lk_X0_init_9 ++ ((1, 6, 7) :: (lk_X3_init_7 ++ ((1, 5, 6) :: ((1, 4, 3) :: (lk_X6_init_3 ++ ((1, 3, 2) :: ([]))))))))))))))))))))))))) (uR R269 1 17 45) := hK280.u rfl
  have hF283 : FR 1 R (uR R269 1 17 45) := hF281.u rfl
  have hB284 : BZ (zI I267 49) := hB270.z
  have hZ285 : KI (zk_X9_init_45 ++ (zk_X5_init_42 ++ (zk_X8_init_39 ++ (zk_X7_init_35 ++ (zk_X2_init_27 ++ (zk_X2_init_21 ++ (zk_X0_init_15 ++ (zk_X0_init_9 ++ (zk_X3_init_7 ++ (zk_X1_init_6 ++ (zk_X6_init_3 ++ ([])))))))))))) (zI I267 49) := hZ277.z rfl
  have hI286 : FI 1 I (zI I267 49) := hI278.z rfl
  have hJ287 : FJ 1 J (zJ J268 49) := hJ279.z rfl
  have jz288 : (zJ J268 49) 47 0 = 0 := JZ.z jz276 rfl
  have hK289 : RK ((1, 17, 45) :: (lk_X9_init_45 ++ ((1, 16, 42) :: (lk_X5_init_42 ++ ((1, 15, 39) :: (lk_X8_init_39 ++ ((1, 14, 35) :: (lk_X7_init_35 ++ ((1, 12, 34) :: ((1, 11, 33) :: ((1, 10, 27) :: (lk_X2_init_27 ++ ((1, 9, 21) :: (lk_X2_init_21 ++ ((1, 8, 15) :: (lk_X0_init_15 ++ ((1, 7, 9) :: (lk_X0_init_9 ++ ((1, 6, 7) :: (lk_X3_init_7 ++ ((1, 5, 6) :: ((1, 4, 3) :: (lk_X6_init_3 ++ ((1, 3, 2) :: ([]))))))))))))))))))))))))) (zR (uR R269 1 17 45) 49) := hK282.z rfl
  have hF290 : FR 1 R (zR (uR R269 1 17 45) 49) := hF283.z rfl
  refine ct_X4_init_49 hB284 (fun I291 J292 R293 hB294 hF295 hK296 hI297 hZ298 hJ299 jz300 => ?_)
  have hZ301 : KI (zk_X4_init_49 ++ (zk_X9_init_45 ++ (zk_X5_init_42 ++ (zk_X8_init_39 ++ (zk_X7_init_35 ++ (zk_X2_init_27 ++ (zk_X2_init_21 ++ (zk_X0_init_15 ++ (zk_X0_init_9 ++ (zk_X3_init_7 ++ (zk_X1_init_6 ++ (zk_X6_init_3 ++ ([]))))))))))))) I291 := hZ298.app (hZ285.fr hI297 rfl)
  have hI302 : FI 1 I I291 := fun o ho => (hI297 o (by omega)).trans (hI286 o ho)
  have hJ303 : FJ 1 J J292 := fun o ho => (hJ299 o (by omega)).trans (hJ287 o ho)
  have jz304 : J292 47 0 = 0 := (congrFun (hJ299 47 (by decide)) 0).trans jz288
  have hK305 : RK (lk_X4_init_49 ++ ((1, 17, 45) :: (lk_X9_init_45 ++ ((1, 16, 42) :: (lk_X5_init_42 ++ ((1, 15, 39) :: (lk_X8_init_39 ++ ((1, 14, 35) :: (lk_X7_init_35 ++ ((1, 12, 34) :: ((1, 11, 33) :: ((1, 10, 27) :: (lk_X2_init_27 ++ ((1, 9, 21) :: (lk_X2_init_21 ++ ((1, 8, 15) :: (lk_X0_init_15 ++ ((1, 7, 9) :: (lk_X0_init_9 ++ ((1, 6, 7) :: (lk_X3_init_7 ++ ((1, 5, 6) :: ((1, 4, 3) :: (lk_X6_init_3 ++ ((1, 3, 2) :: ([])))))))))))))))))))))))))) R293 := hK296.app (hK289.fr hF295 rfl)
  have hF306 : FR 1 R R293 := fun o ho => (hF295 o (by omega)).trans (hF290 o ho)
  have hK307 : RK ((1, 18, 49) :: (lk_X4_init_49 ++ ((1, 17, 45) :: (lk_X9_init_45 ++ ((1, 16, 42) :: (lk_X5_init_42 ++ ((1, 15, 39) :: (lk_X8_init_39 ++ ((1, 14, 35) :: (lk_X7_init_35 ++ ((1, 12, 34) :: ((1, 11, 33) :: ((1, 10, 27) :: (lk_X2_init_27 ++ ((1, 9, 21) :: (lk_X2_init_21 ++ ((1, 8, 15) :: (lk_X0_init_15 ++ ((1, 7, 9) :: (lk_X0_init_9 ++ ((1, 6, 7) :: (lk_X3_init_7 ++ ((1, 5, 6) :: ((1, 4, 3) :: (lk_X6_init_3 ++ ((1, 3, 2) :: ([]))))))))))))))))))))))))))) (uR R293 1 18 49) := hK305.u rfl
  have hF308 : FR 1 R (uR R293 1 18 49) := hF306.u rfl
  have hB309 : BZ (zI I291 51) := hB294.z
  have hZ310 : KI (zk_X4_init_49 ++ (zk_X9_init_45 ++ (zk_X5_init_42 ++ (zk_X8_init_39 ++ (zk_X7_init_35 ++ (zk_X2_init_27 ++ (zk_X2_init_21 ++ (zk_X0_init_15 ++ (zk_X0_init_9 ++ (zk_X3_init_7 ++ (zk_X1_init_6 ++ (zk_X6_init_3 ++ ([]))))))))))))) (zI I291 51) := hZ301.z rfl
  have hI311 : FI 1 I (zI I291 51) := hI302.z rfl
  have hJ312 : FJ 1 J (zJ J292 51) := hJ303.z rfl
  have jz313 : (zJ J292 51) 47 0 = 0 := JZ.z jz304 rfl
  have hK314 : RK ((1, 18, 49) :: (lk_X4_init_49 ++ ((1, 17, 45) :: (lk_X9_init_45 ++ ((1, 16, 42) :: (lk_X5_init_42 ++ ((1, 15, 39) :: (lk_X8_init_39 ++ ((1, 14, 35) :: (lk_X7_init_35 ++ ((1, 12, 34) :: ((1, 11, 33) :: ((1, 10, 27) :: (lk_X2_init_27 ++ ((1, 9, 21) :: (lk_X2_init_21 ++ ((1, 8, 15) :: (lk_X0_init_15 ++ ((1, 7, 9) :: (lk_X0_init_9 ++ ((1, 6, 7) :: (lk_X3_init_7 ++ ((1, 5, 6) :: ((1, 4, 3) :: (lk_X6_init_3 ++ ((1, 3, 2) :: ([]))))))))))))))))))))))))))) (zR (uR R293 1 18 49) 51) := hK307.z rfl
  have hF315 : FR 1 R (zR (uR R293 1 18 49) 51) := hF308.z rfl
  refine ct_X4_init_51 hB309 (fun I316 J317 R318 hB319 hF320 hK321 hI322 hZ323 hJ324 jz325 => ?_)
  have hZ326 : KI (zk_X4_init_51 ++ (zk_X4_init_49 ++ (zk_X9_init_45 ++ (zk_X5_init_42 ++ (zk_X8_init_39 ++ (zk_X7_init_35 ++ (zk_X2_init_27 ++ (zk_X2_init_21 ++ (zk_X0_init_15 ++ (zk_X0_init_9 ++ (zk_X3_init_7 ++ (zk_X1_init_6 ++ (zk_X6_init_3 ++ ([])))))))))))))) I316 := hZ323.app (hZ310.fr hI322 rfl)
  have hI327 : FI 1 I I316 := fun o ho => (hI322 o (by omega)).trans (hI311 o ho)
  have hJ328 : FJ 1 J J317 := fun o ho => (hJ324 o (by omega)).trans (hJ312 o ho)
  have jz329 : J317 47 0 = 0 := (congrFun (hJ324 47 (by decide)) 0).trans jz313
  have hK330 : RK (lk_X4_init_51 ++ ((1, 18, 49) :: (lk_X4_init_49 ++ ((1, 17, 45) :: (lk_X9_init_45 ++ ((1, 16, 42) :: (lk_X5_init_42 ++ ((1, 15, 39) :: (lk_X8_init_39 ++ ((1, 14, 35) :: (lk_X7_init_35 ++ ((1, 12, 34) :: ((1, 11, 33) :: ((1, 10, 27) :: (lk_X2_init_27 ++ ((1, 9, 21) :: (lk_X2_init_21 ++ ((1, 8, 15) :: (lk_X0_init_15 ++ ((1, 7, 9) :: (lk_X0_init_9 ++ ((1, 6, 7) :: (lk_X3_init_7 ++ ((1, 5, 6) :: ((1, 4, 3) :: (lk_X6_init_3 ++ ((1, 3, 2) :: ([])))))))))))))))))))))))))))) R318 := hK321.app (hK314.fr hF320 rfl)
  have hF331 : FR 1 R R318 := fun o ho => (hF320 o (by omega)).trans (hF315 o ho)
  have hK332 : RK ((1, 19, 51) :: (lk_X4_init_51 ++ ((1, 18, 49) :: (lk_X4_init_49 ++ ((1, 17, 45) :: (lk_X9_init_45 ++ ((1, 16, 42) :: (lk_X5_init_42 ++ ((1, 15, 39) :: (lk_X8_init_39 ++ ((1, 14, 35) :: (lk_X7_init_35 ++ ((1, 12, 34) :: ((1, 11, 33) :: ((1, 10, 27) :: (lk_X2_init_27 ++ ((1, 9, 21) :: (lk_X2_init_21 ++ ((1, 8, 15) :: (lk_X0_init_15 ++ ((1, 7, 9) :: (lk_X0_init_9 ++ ((1, 6, 7) :: (lk_X3_init_7 ++ ((1, 5, 6) :: ((1, 4, 3) :: (lk_X6_init_3 ++ ((1, 3, 2) :: ([]))))))))))))))))))))))))))))) (uR R318 1 19 51) := hK330.u rfl
  have hF333 : FR 1 R (uR R318 1 19 51) := hF331.u rfl
  refine cs_X11_init_1_193_52 hc _ _ _ ?_
  refine ⟨fun c => absurd c (by decide), fun _ => ?_⟩
  refine ⟨hK332.ne (show lkq ((1, 19, 51) :: (lk_X4_init_51 ++ ((1, 18, 49) :: (lk_X4_init_49 ++ ((1, 17, 45) :: (lk_X9_init_45 ++ ((1, 16, 42) :: (lk_X5_init_42 ++ ((1, 15, 39) :: (lk_X8_init_39 ++ ((1, 14, 35) :: (lk_X7_init_35 ++ ((1, 12, 34) :: ((1, 11, 33) :: ((1, 10, 27) :: (lk_X2_init_27 ++ ((1, 9, 21) :: (lk_X2_init_21 ++ ((1, 8, 15) :: (lk_X0_init_15 ++ ((1, 7, 9) :: (lk_X0_init_9 ++ ((1, 6, 7) :: (lk_X3_init_7 ++ ((1, 5, 6) :: ((1, 4, 3) :: (lk_X6_init_3 ++ ((1, 3, 2) :: ([]))))))))))))))))))))))))))))) 1 3 = true from rfl), ?_⟩
  have hB334 : BZ (zI I316 53) := hB319.z
  have hZ335 : KI (zk_X4_init_51 ++ (zk_X4_init_49 ++ (zk_X9_init_45 ++ (zk_X5_init_42 ++ (zk_X8_init_39 ++ (zk_X7_init_35 ++ (zk_X2_init_27 ++ (zk_X2_init_21 ++ (zk_X0_init_15 ++ (zk_X0_init_9 ++ (zk_X3_init_7 ++ (zk_X1_init_6 ++ (zk_X6_init_3 ++ ([])))))))))))))) (zI I316 53) := hZ326.z rfl
  have hI336 : FI 1 I (zI I316 53) := hI327.z rfl
  have hJ337 : FJ 1 J (zJ J317 53) := hJ328.z rfl
  have jz338 : (zJ J317 53) 47 0 = 0 := JZ.z jz329 rfl
  have hK339 : RK ((1, 19, 51) :: (lk_X4_init_51 ++ ((1, 18, 49) :: (lk_X4_init_49 ++ ((1, 17, 45) :: (lk_X9_init_45 ++ ((1, 16, 42) :: (lk_X5_init_42 ++ ((1, 15, 39) :: (lk_X8_init_39 ++ ((1, 14, 35) :: (lk_X7_init_35 ++ ((1, 12, 34) :: ((1, 11, 33) :: ((1, 10, 27) :: (lk_X2_init_27 ++ ((1, 9, 21) :: (lk_X2_init_21 ++ ((1, 8, 15) :: (lk_X0_init_15 ++ ((1, 7, 9) :: (lk_X0_init_9 ++ ((1, 6, 7) :: (lk_X3_init_7 ++ ((1, 5, 6) :: ((1, 4, 3) :: (lk_X6_init_3 ++ ((1, 3, 2) :: ([]))))))))))))))))))))))))))))) (zR (uR R318 1 19 51) 53) := hK332.z rfl
  have hF340 : FR 1 R (zR (uR R318 1 19 51) 53) := hF333.z rfl
  refine ct_X10_init_53 hB334 (fun I341 J342 R343 hB344 hF345 hK346 hI347 hZ348 hJ349 jz350 => ?_)
  have hZ351 : KI (zk_X10_init_53 ++ (zk_X4_init_51 ++ (zk_X4_init_49 ++ (zk_X9_init_45 ++ (zk_X5_init_42 ++ (zk_X8_init_39 ++ (zk_X7_init_35 ++ (zk_X2_init_27 ++ (zk_X2_init_21 ++ (zk_X0_init_15 ++ (zk_X0_init_9 ++ (zk_X3_init_7 ++ (zk_X1_init_6 ++ (zk_X6_init_3 ++ ([]))))))))))))))) I341 := hZ348.app (hZ335.fr hI347 rfl)
  have hI352 : FI 1 I I341 := fun o ho => (hI347 o (by omega)).trans (hI336 o ho)
  have hJ353 : FJ 1 J J342 := fun o ho => (hJ349 o (by omega)).trans (hJ337 o ho)
  have jz354 : J342 47 0 = 0 := (congrFun (hJ349 47 (by decide)) 0).trans jz338
  have hK355 : RK (lk_X10_init_53 ++ ((1, 19, 51) :: (lk_X4_init_51 ++ ((1, 18, 49) :: (lk_X4_init_49 ++ ((1, 17, 45) :: (lk_X9_init_45 ++ ((1, 16, 42) :: (lk_X5_init_42 ++ ((1, 15, 39) :: (lk_X8_init_39 ++ ((1, 14, 35) :: (lk_X7_init_35 ++ ((1, 12, 34) :: ((1, 11, 33) :: ((1, 10, 27) :: (lk_X2_init_27 ++ ((1, 9, 21) :: (lk_X2_init_21 ++ ((1, 8, 15) :: (lk_X0_init_15 ++ ((1, 7, 9) :: (lk_X0_init_9 ++ ((1, 6, 7) :: (lk_X3_init_7 ++ ((1, 5, 6) :: ((1, 4, 3) :: (lk_X6_init_3 ++ ((1, 3, 2) :: ([])))))))))))))))))))))))))))))) R343 := hK346.app (hK339.fr hF345 rfl)
  have hF356 : FR 1 R R343 := fun o ho => (hF345 o (by omega)).trans (hF340 o ho)
  refine ⟨vp_of rfl (by decide) (by decide), ?_⟩
  have hK357 : RK ((2, 0, 53) :: (lk_X10_init_53 ++ ((1, 19, 51) :: (lk_X4_init_51 ++ ((1, 18, 49) :: (lk_X4_init_49 ++ ((1, 17, 45) :: (lk_X9_init_45 ++ ((1, 16, 42) :: (lk_X5_init_42 ++ ((1, 15, 39) :: (lk_X8_init_39 ++ ((1, 14, 35) :: (lk_X7_init_35 ++ ((1, 12, 34) :: ((1, 11, 33) :: ((1, 10, 27) :: (lk_X2_init_27 ++ ((1, 9, 21) :: (lk_X2_init_21 ++ ((1, 8, 15) :: (lk_X0_init_15 ++ ((1, 7, 9) :: (lk_X0_init_9 ++ ((1, 6, 7) :: (lk_X3_init_7 ++ ((1, 5, 6) :: ((1, 4, 3) :: (lk_X6_init_3 ++ ((1, 3, 2) :: ([]))))))))))))))))))))))))))))))) (uR R343 2 (Int32.toNatClampNeg 0) 53) := hK355.u rfl
  have hF358 : FR 1 R (uR R343 2 (Int32.toNatClampNeg 0) 53) := hF356.u rfl
  refine cs_X11_init_1_193_54 hc _ _ _ ?_
  refine ⟨fun c => absurd c (by decide), fun _ => ?_⟩
  refine ⟨hK357.ne (show lkq ((2, 0, 53) :: (lk_X10_init_53 ++ ((1, 19, 51) :: (lk_X4_init_51 ++ ((1, 18, 49) :: (lk_X4_init_49 ++ ((1, 17, 45) :: (lk_X9_init_45 ++ ((1, 16, 42) :: (lk_X5_init_42 ++ ((1, 15, 39) :: (lk_X8_init_39 ++ ((1, 14, 35) :: (lk_X7_init_35 ++ ((1, 12, 34) :: ((1, 11, 33) :: ((1, 10, 27) :: (lk_X2_init_27 ++ ((1, 9, 21) :: (lk_X2_init_21 ++ ((1, 8, 15) :: (lk_X0_init_15 ++ ((1, 7, 9) :: (lk_X0_init_9 ++ ((1, 6, 7) :: (lk_X3_init_7 ++ ((1, 5, 6) :: ((1, 4, 3) :: (lk_X6_init_3 ++ ((1, 3, 2) :: ([]))))))))))))))))))))))))))))))) 1 3 = true from rfl), ?_⟩
  have hB359 : BZ (zI I341 55) := hB344.z
  have hZ360 : KI (zk_X10_init_53 ++ (zk_X4_init_51 ++ (zk_X4_init_49 ++ (zk_X9_init_45 ++ (zk_X5_init_42 ++ (zk_X8_init_39 ++ (zk_X7_init_35 ++ (zk_X2_init_27 ++ (zk_X2_init_21 ++ (zk_X0_init_15 ++ (zk_X0_init_9 ++ (zk_X3_init_7 ++ (zk_X1_init_6 ++ (zk_X6_init_3 ++ ([]))))))))))))))) (zI I341 55) := hZ351.z rfl
  have hI361 : FI 1 I (zI I341 55) := hI352.z rfl
  have hJ362 : FJ 1 J (zJ J342 55) := hJ353.z rfl
  have jz363 : (zJ J342 55) 47 0 = 0 := JZ.z jz354 rfl
  have hK364 : RK ((2, 0, 53) :: (lk_X10_init_53 ++ ((1, 19, 51) :: (lk_X4_init_51 ++ ((1, 18, 49) :: (lk_X4_init_49 ++ ((1, 17, 45) :: (lk_X9_init_45 ++ ((1, 16, 42) :: (lk_X5_init_42 ++ ((1, 15, 39) :: (lk_X8_init_39 ++ ((1, 14, 35) :: (lk_X7_init_35 ++ ((1, 12, 34) :: ((1, 11, 33) :: ((1, 10, 27) :: (lk_X2_init_27 ++ ((1, 9, 21) :: (lk_X2_init_21 ++ ((1, 8, 15) :: (lk_X0_init_15 ++ ((1, 7, 9) :: (lk_X0_init_9 ++ ((1, 6, 7) :: (lk_X3_init_7 ++ ((1, 5, 6) :: ((1, 4, 3) :: (lk_X6_init_3 ++ ((1, 3, 2) :: ([]))))))))))))))))))))))))))))))) (zR (uR R343 2 (Int32.toNatClampNeg 0) 53) 55) := hK357.z rfl
  have hF365 : FR 1 R (zR (uR R343 2 (Int32.toNatClampNeg 0) 53) 55) := hF358.z rfl
  refine ct_X10_init_55 hB359 (fun I366 J367 R368 hB369 hF370 hK371 hI372 hZ373 hJ374 jz375 => ?_)
  have hZ376 : KI (zk_X10_init_55 ++ (zk_X10_init_53 ++ (zk_X4_init_51 ++ (zk_X4_init_49 ++ (zk_X9_init_45 ++ (zk_X5_init_42 ++ (zk_X8_init_39 ++ (zk_X7_init_35 ++ (zk_X2_init_27 ++ (zk_X2_init_21 ++ (zk_X0_init_15 ++ (zk_X0_init_9 ++ (zk_X3_init_7 ++ (zk_X1_init_6 ++ (zk_X6_init_3 ++ ([])))))))))))))))) I366 := hZ373.app (hZ360.fr hI372 rfl)
  have hI377 : FI 1 I I366 := fun o ho => (hI372 o (by omega)).trans (hI361 o ho)
  have hJ378 : FJ 1 J J367 := fun o ho => (hJ374 o (by omega)).trans (hJ362 o ho)
  have jz379 : J367 47 0 = 0 := (congrFun (hJ374 47 (by decide)) 0).trans jz363
  have hK380 : RK (lk_X10_init_55 ++ ((2, 0, 53) :: (lk_X10_init_53 ++ ((1, 19, 51) :: (lk_X4_init_51 ++ ((1, 18, 49) :: (lk_X4_init_49 ++ ((1, 17, 45) :: (lk_X9_init_45 ++ ((1, 16, 42) :: (lk_X5_init_42 ++ ((1, 15, 39) :: (lk_X8_init_39 ++ ((1, 14, 35) :: (lk_X7_init_35 ++ ((1, 12, 34) :: ((1, 11, 33) :: ((1, 10, 27) :: (lk_X2_init_27 ++ ((1, 9, 21) :: (lk_X2_init_21 ++ ((1, 8, 15) :: (lk_X0_init_15 ++ ((1, 7, 9) :: (lk_X0_init_9 ++ ((1, 6, 7) :: (lk_X3_init_7 ++ ((1, 5, 6) :: ((1, 4, 3) :: (lk_X6_init_3 ++ ((1, 3, 2) :: ([])))))))))))))))))))))))))))))))) R368 := hK371.app (hK364.fr hF370 rfl)
  have hF381 : FR 1 R R368 := fun o ho => (hF370 o (by omega)).trans (hF365 o ho)
  refine ⟨vp_of rfl (by decide) (by decide), ?_⟩
  have hK382 : RK ((2, 1, 55) :: (lk_X10_init_55 ++ ((2, 0, 53) :: (lk_X10_init_53 ++ ((1, 19, 51) :: (lk_X4_init_51 ++ ((1, 18, 49) :: (lk_X4_init_49 ++ ((1, 17, 45) :: (lk_X9_init_45 ++ ((1, 16, 42) :: (lk_X5_init_42 ++ ((1, 15, 39) :: (lk_X8_init_39 ++ ((1, 14, 35) :: (lk_X7_init_35 ++ ((1, 12, 34) :: ((1, 11, 33) :: ((1, 10, 27) :: (lk_X2_init_27 ++ ((1, 9, 21) :: (lk_X2_init_21 ++ ((1, 8, 15) :: (lk_X0_init_15 ++ ((1, 7, 9) :: (lk_X0_init_9 ++ ((1, 6, 7) :: (lk_X3_init_7 ++ ((1, 5, 6) :: ((1, 4, 3) :: (lk_X6_init_3 ++ ((1, 3, 2) :: ([]))))))))))))))))))))))))))))))))) (uR R368 2 (Int32.toNatClampNeg (0 + 1)) 55) := hK380.u rfl
  have hF383 : FR 1 R (uR R368 2 (Int32.toNatClampNeg (0 + 1)) 55) := hF381.u rfl
  refine cs_X11_init_1_193_56 hc _ _ _ ?_
  refine ⟨fun c => absurd c (by decide), fun _ => ?_⟩
  refine ⟨hK382.ne (show lkq ((2, 1, 55) :: (lk_X10_init_55 ++ ((2, 0, 53) :: (lk_X10_init_53 ++ ((1, 19, 51) :: (lk_X4_init_51 ++ ((1, 18, 49) :: (lk_X4_init_49 ++ ((1, 17, 45) :: (lk_X9_init_45 ++ ((1, 16, 42) :: (lk_X5_init_42 ++ ((1, 15, 39) :: (lk_X8_init_39 ++ ((1, 14, 35) :: (lk_X7_init_35 ++ ((1, 12, 34) :: ((1, 11, 33) :: ((1, 10, 27) :: (lk_X2_init_27 ++ ((1, 9, 21) :: (lk_X2_init_21 ++ ((1, 8, 15) :: (lk_X0_init_15 ++ ((1, 7, 9) :: (lk_X0_init_9 ++ ((1, 6, 7) :: (lk_X3_init_7 ++ ((1, 5, 6) :: ((1, 4, 3) :: (lk_X6_init_3 ++ ((1, 3, 2) :: ([]))))))))))))))))))))))))))))))))) 1 3 = true from rfl), ?_⟩
  have hB384 : BZ (zI I366 57) := hB369.z
  have hZ385 : KI (zk_X10_init_55 ++ (zk_X10_init_53 ++ (zk_X4_init_51 ++ (zk_X4_init_49 ++ (zk_X9_init_45 ++ (zk_X5_init_42 ++ (zk_X8_init_39 ++ (zk_X7_init_35 ++ (zk_X2_init_27 ++ (zk_X2_init_21 ++ (zk_X0_init_15 ++ (zk_X0_init_9 ++ (zk_X3_init_7 ++ (zk_X1_init_6 ++ (zk_X6_init_3 ++ ([])))))))))))))))) (zI I366 57) := hZ376.z rfl
  have hI386 : FI 1 I (zI I366 57) := hI377.z rfl
  have hJ387 : FJ 1 J (zJ J367 57) := hJ378.z rfl
  have jz388 : (zJ J367 57) 47 0 = 0 := JZ.z jz379 rfl
  have hK389 : RK ((2, 1, 55) :: (lk_X10_init_55 ++ ((2, 0, 53) :: (lk_X10_init_53 ++ ((1, 19, 51) :: (lk_X4_init_51 ++ ((1, 18, 49) :: (lk_X4_init_49 ++ ((1, 17, 45) :: (lk_X9_init_45 ++ ((1, 16, 42) :: (lk_X5_init_42 ++ ((1, 15, 39) :: (lk_X8_init_39 ++ ((1, 14, 35) :: (lk_X7_init_35 ++ ((1, 12, 34) :: ((1, 11, 33) :: ((1, 10, 27) :: (lk_X2_init_27 ++ ((1, 9, 21) :: (lk_X2_init_21 ++ ((1, 8, 15) :: (lk_X0_init_15 ++ ((1, 7, 9) :: (lk_X0_init_9 ++ ((1, 6, 7) :: (lk_X3_init_7 ++ ((1, 5, 6) :: ((1, 4, 3) :: (lk_X6_init_3 ++ ((1, 3, 2) :: ([]))))))))))))))))))))))))))))))))) (zR (uR R368 2 (Int32.toNatClampNeg (0 + 1)) 55) 57) := hK382.z rfl
  have hF390 : FR 1 R (zR (uR R368 2 (Int32.toNatClampNeg (0 + 1)) 55) 57) := hF383.z rfl
  refine ct_X10_init_57 hB384 (fun I391 J392 R393 hB394 hF395 hK396 hI397 hZ398 hJ399 jz400 => ?_)
  have hZ401 : KI (zk_X10_init_57 ++ (zk_X10_init_55 ++ (zk_X10_init_53 ++ (zk_X4_init_51 ++ (zk_X4_init_49 ++ (zk_X9_init_45 ++ (zk_X5_init_42 ++ (zk_X8_init_39 ++ (zk_X7_init_35 ++ (zk_X2_init_27 ++ (zk_X2_init_21 ++ (zk_X0_init_15 ++ (zk_X0_init_9 ++ (zk_X3_init_7 ++ (zk_X1_init_6 ++ (zk_X6_init_3 ++ ([]))))))))))))))))) I391 := hZ398.app (hZ385.fr hI397 rfl)
  have hI402 : FI 1 I I391 := fun o ho => (hI397 o (by omega)).trans (hI386 o ho)
  have hJ403 : FJ 1 J J392 := fun o ho => (hJ399 o (by omega)).trans (hJ387 o ho)
  have jz404 : J392 47 0 = 0 := (congrFun (hJ399 47 (by decide)) 0).trans jz388
  have hK405 : RK (lk_X10_init_57 ++ ((2, 1, 55) :: (lk_X10_init_55 ++ ((2, 0, 53) :: (lk_X10_init_53 ++ ((1, 19, 51) :: (lk_X4_init_51 ++ ((1, 18, 49) :: (lk_X4_init_49 ++ ((1, 17, 45) :: (lk_X9_init_45 ++ ((1, 16, 42) :: (lk_X5_init_42 ++ ((1, 15, 39) :: (lk_X8_init_39 ++ ((1, 14, 35) :: (lk_X7_init_35 ++ ((1, 12, 34) :: ((1, 11, 33) :: ((1, 10, 27) :: (lk_X2_init_27 ++ ((1, 9, 21) :: (lk_X2_init_21 ++ ((1, 8, 15) :: (lk_X0_init_15 ++ ((1, 7, 9) :: (lk_X0_init_9 ++ ((1, 6, 7) :: (lk_X3_init_7 ++ ((1, 5, 6) :: ((1, 4, 3) :: (lk_X6_init_3 ++ ((1, 3, 2) :: ([])))))))))))))))))))))))))))))))))) R393 := hK396.app (hK389.fr hF395 rfl)
  have hF406 : FR 1 R R393 := fun o ho => (hF395 o (by omega)).trans (hF390 o ho)
  refine ⟨vp_of rfl (by decide) (by decide), ?_⟩
  have hK407 : RK ((2, 2, 57) :: (lk_X10_init_57 ++ ((2, 1, 55) :: (lk_X10_init_55 ++ ((2, 0, 53) :: (lk_X10_init_53 ++ ((1, 19, 51) :: (lk_X4_init_51 ++ ((1, 18, 49) :: (lk_X4_init_49 ++ ((1, 17, 45) :: (lk_X9_init_45 ++ ((1, 16, 42) :: (lk_X5_init_42 ++ ((1, 15, 39) :: (lk_X8_init_39 ++ ((1, 14, 35) :: (lk_X7_init_35 ++ ((1, 12, 34) :: ((1, 11, 33) :: ((1, 10, 27) :: (lk_X2_init_27 ++ ((1, 9, 21) :: (lk_X2_init_21 ++ ((1, 8, 15) :: (lk_X0_init_15 ++ ((1, 7, 9) :: (lk_X0_init_9 ++ ((1, 6, 7) :: (lk_X3_init_7 ++ ((1, 5, 6) :: ((1, 4, 3) :: (lk_X6_init_3 ++ ((1, 3, 2) :: ([]))))))))))))))))))))))))))))))))))) (uR R393 2 (Int32.toNatClampNeg ((0 + 1) + 1)) 57) := hK405.u rfl
  have hF408 : FR 1 R (uR R393 2 (Int32.toNatClampNeg ((0 + 1) + 1)) 57) := hF406.u rfl
  refine cs_X11_init_1_193_58 hc _ _ _ ?_
  refine ⟨fun c => absurd c (by decide), fun _ => ?_⟩
  refine ⟨hK407.ne (show lkq ((2, 2, 57) :: (lk_X10_init_57 ++ ((2, 1, 55) :: (lk_X10_init_55 ++ ((2, 0, 53) :: (lk_X10_init_53 ++ ((1, 19, 51) :: (lk_X4_init_51 ++ ((1, 18, 49) :: (lk_X4_init_49 ++ ((1, 17, 45) :: (lk_X9_init_45 ++ ((1, 16, 42) :: (lk_X5_init_42 ++ ((1, 15, 39) :: (lk_X8_init_39 ++ ((1, 14, 35) :: (lk_X7_init_35 ++ ((1, 12, 34) :: ((1, 11, 33) :: ((1, 10, 27) :: (lk_X2_init_27 ++ ((1, 9, 21) :: (lk_X2_init_21 ++ ((1, 8, 15) :: (lk_X0_init_15 ++ ((1, 7, 9) :: (lk_X0_init_9 ++ ((1, 6, 7) :: (lk_X3_init_7 ++ ((1, 5, 6) :: ((1, 4, 3) :: (lk_X6_init_3 ++ ((1, 3, 2) :: ([]))))))))))))))))))))))))))))))))))) 1 3 = true from rfl), ?_⟩
  have hB409 : BZ (zI I391 59) := hB394.z
  have hZ410 : KI (zk_X10_init_57 ++ (zk_X10_init_55 ++ (zk_X10_init_53 ++ (zk_X4_init_51 ++ (zk_X4_init_49 ++ (zk_X9_init_45 ++ (zk_X5_init_42 ++ (zk_X8_init_39 ++ (zk_X7_init_35 ++ (zk_X2_init_27 ++ (zk_X2_init_21 ++ (zk_X0_init_15 ++ (zk_X0_init_9 ++ (zk_X3_init_7 ++ (zk_X1_init_6 ++ (zk_X6_init_3 ++ ([]))))))))))))))))) (zI I391 59) := hZ401.z rfl
  have hI411 : FI 1 I (zI I391 59) := hI402.z rfl
  have hJ412 : FJ 1 J (zJ J392 59) := hJ403.z rfl
  have jz413 : (zJ J392 59) 47 0 = 0 := JZ.z jz404 rfl
  have hK414 : RK ((2, 2, 57) :: (lk_X10_init_57 ++ ((2, 1, 55) :: (lk_X10_init_55 ++ ((2, 0, 53) :: (lk_X10_init_53 ++ ((1, 19, 51) :: (lk_X4_init_51 ++ ((1, 18, 49) :: (lk_X4_init_49 ++ ((1, 17, 45) :: (lk_X9_init_45 ++ ((1, 16, 42) :: (lk_X5_init_42 ++ ((1, 15, 39) :: (lk_X8_init_39 ++ ((1, 14, 35) :: (lk_X7_init_35 ++ ((1, 12, 34) :: ((1, 11, 33) :: ((1, 10, 27) :: (lk_X2_init_27 ++ ((1, 9, 21) :: (lk_X2_init_21 ++ ((1, 8, 15) :: (lk_X0_init_15 ++ ((1, 7, 9) :: (lk_X0_init_9 ++ ((1, 6, 7) :: (lk_X3_init_7 ++ ((1, 5, 6) :: ((1, 4, 3) :: (lk_X6_init_3 ++ ((1, 3, 2) :: ([]))))))))))))))))))))))))))))))))))) (zR (uR R393 2 (Int32.toNatClampNeg ((0 + 1) + 1)) 57) 59) := hK407.z rfl
  have hF415 : FR 1 R (zR (uR R393 2 (Int32.toNatClampNeg ((0 + 1) + 1)) 57) 59) := hF408.z rfl
  refine ct_X10_init_59 hB409 (fun I416 J417 R418 hB419 hF420 hK421 hI422 hZ423 hJ424 jz425 => ?_)
  have hZ426 : KI (zk_X10_init_59 ++ (zk_X10_init_57 ++ (zk_X10_init_55 ++ (zk_X10_init_53 ++ (zk_X4_init_51 ++ (zk_X4_init_49 ++ (zk_X9_init_45 ++ (zk_X5_init_42 ++ (zk_X8_init_39 ++ (zk_X7_init_35 ++ (zk_X2_init_27 ++ (zk_X2_init_21 ++ (zk_X0_init_15 ++ (zk_X0_init_9 ++ (zk_X3_init_7 ++ (zk_X1_init_6 ++ (zk_X6_init_3 ++ ([])))))))))))))))))) I416 := hZ423.app (hZ410.fr hI422 rfl)
  have hI427 : FI 1 I I416 := fun o ho => (hI422 o (by omega)).trans (hI411 o ho)
  have hJ428 : FJ 1 J J417 := fun o ho => (hJ424 o (by omega)).trans (hJ412 o ho)
  have jz429 : J417 47 0 = 0 := (congrFun (hJ424 47 (by decide)) 0).trans jz413
  have hK430 : RK (lk_X10_init_59 ++ ((2, 2, 57) :: (lk_X10_init_57 ++ ((2, 1, 55) :: (lk_X10_init_55 ++ ((2, 0, 53) :: (lk_X10_init_53 ++ ((1, 19, 51) :: (lk_X4_init_51 ++ ((1, 18, 49) :: (lk_X4_init_49 ++ ((1, 17, 45) :: (lk_X9_init_45 ++ ((1, 16, 42) :: (lk_X5_init_42 ++ ((1, 15, 39) :: (lk_X8_init_39 ++ ((1, 14, 35) :: (lk_X7_init_35 ++ ((1, 12, 34) :: ((1, 11, 33) :: ((1, 10, 27) :: (lk_X2_init_27 ++ ((1, 9, 21) :: (lk_X2_init_21 ++ ((1, 8, 15) :: (lk_X0_init_15 ++ ((1, 7, 9) :: (lk_X0_init_9 ++ ((1, 6, 7) :: (lk_X3_init_7 ++ ((1, 5, 6) :: ((1, 4, 3) :: (lk_X6_init_3 ++ ((1, 3, 2) :: ([])))))))))))))))))))))))))))))))))))) R418 := hK421.app (hK414.fr hF420 rfl)
  have hF431 : FR 1 R R418 := fun o ho => (hF420 o (by omega)).trans (hF415 o ho)
  refine ⟨vp_of rfl (by decide) (by decide), ?_⟩
  have hK432 : RK ((2, 3, 59) :: (lk_X10_init_59 ++ ((2, 2, 57) :: (lk_X10_init_57 ++ ((2, 1, 55) :: (lk_X10_init_55 ++ ((2, 0, 53) :: (lk_X10_init_53 ++ ((1, 19, 51) :: (lk_X4_init_51 ++ ((1, 18, 49) :: (lk_X4_init_49 ++ ((1, 17, 45) :: (lk_X9_init_45 ++ ((1, 16, 42) :: (lk_X5_init_42 ++ ((1, 15, 39) :: (lk_X8_init_39 ++ ((1, 14, 35) :: (lk_X7_init_35 ++ ((1, 12, 34) :: ((1, 11, 33) :: ((1, 10, 27) :: (lk_X2_init_27 ++ ((1, 9, 21) :: (lk_X2_init_21 ++ ((1, 8, 15) :: (lk_X0_init_15 ++ ((1, 7, 9) :: (lk_X0_init_9 ++ ((1, 6, 7) :: (lk_X3_init_7 ++ ((1, 5, 6) :: ((1, 4, 3) :: (lk_X6_init_3 ++ ((1, 3, 2) :: ([]))))))))))))))))))))))))))))))))))))) (uR R418 2 (Int32.toNatClampNeg (((0 + 1) + 1) + 1)) 59) := hK430.u rfl
  have hF433 : FR 1 R (uR R418 2 (Int32.toNatClampNeg (((0 + 1) + 1) + 1)) 59) := hF431.u rfl
  refine cs_X11_init_1_193_60 hc _ _ _ ?_
  refine ⟨fun _ => ?_, fun c => absurd (by decide) c⟩
  refine cs_X11_init_1_219_60 hc _ _ _ ?_
  refine ⟨fun c => absurd c (by decide), fun _ => ?_⟩
  refine ⟨hK432.ne (show lkq ((2, 3, 59) :: (lk_X10_init_59 ++ ((2, 2, 57) :: (lk_X10_init_57 ++ ((2, 1, 55) :: (lk_X10_init_55 ++ ((2, 0, 53) :: (lk_X10_init_53 ++ ((1, 19, 51) :: (lk_X4_init_51 ++ ((1, 18, 49) :: (lk_X4_init_49 ++ ((1, 17, 45) :: (lk_X9_init_45 ++ ((1, 16, 42) :: (lk_X5_init_42 ++ ((1, 15, 39) :: (lk_X8_init_39 ++ ((1, 14, 35) :: (lk_X7_init_35 ++ ((1, 12, 34) :: ((1, 11, 33) :: ((1, 10, 27) :: (lk_X2_init_27 ++ ((1, 9, 21) :: (lk_X2_init_21 ++ ((1, 8, 15) :: (lk_X0_init_15 ++ ((1, 7, 9) :: (lk_X0_init_9 ++ ((1, 6, 7) :: (lk_X3_init_7 ++ ((1, 5, 6) :: ((1, 4, 3) :: (lk_X6_init_3 ++ ((1, 3, 2) :: ([]))))))))))))))))))))))))))))))))))))) 1 11 = true from rfl), ?_⟩
  have hB434 : BZ (zI I416 61) := hB419.z
  have hZ435 : KI (zk_X10_init_59 ++ (zk_X10_init_57 ++ (zk_X10_init_55 ++ (zk_X10_init_53 ++ (zk_X4_init_51 ++ (zk_X4_init_49 ++ (zk_X9_init_45 ++ (zk_X5_init_42 ++ (zk_X8_init_39 ++ (zk_X7_init_35 ++ (zk_X2_init_27 ++ (zk_X2_init_21 ++ (zk_X0_init_15 ++ (zk_X0_init_9 ++ (zk_X3_init_7 ++ (zk_X1_init_6 ++ (zk_X6_init_3 ++ ([])))))))))))))))))) (zI I416 61) := hZ426.z rfl
  have hI436 : FI 1 I (zI I416 61) := hI427.z rfl
  have hJ437 : FJ 1 J (zJ J417 61) := hJ428.z rfl
  have jz438 : (zJ J417 61) 47 0 = 0 := JZ.z jz429 rfl
  have hK439 : RK ((2, 3, 59) :: (lk_X10_init_59 ++ ((2, 2, 57) :: (lk_X10_init_57 ++ ((2, 1, 55) :: (lk_X10_init_55 ++ ((2, 0, 53) :: (lk_X10_init_53 ++ ((1, 19, 51) :: (lk_X4_init_51 ++ ((1, 18, 49) :: (lk_X4_init_49 ++ ((1, 17, 45) :: (lk_X9_init_45 ++ ((1, 16, 42) :: (lk_X5_init_42 ++ ((1, 15, 39) :: (lk_X8_init_39 ++ ((1, 14, 35) :: (lk_X7_init_35 ++ ((1, 12, 34) :: ((1, 11, 33) :: ((1, 10, 27) :: (lk_X2_init_27 ++ ((1, 9, 21) :: (lk_X2_init_21 ++ ((1, 8, 15) :: (lk_X0_init_15 ++ ((1, 7, 9) :: (lk_X0_init_9 ++ ((1, 6, 7) :: (lk_X3_init_7 ++ ((1, 5, 6) :: ((1, 4, 3) :: (lk_X6_init_3 ++ ((1, 3, 2) :: ([]))))))))))))))))))))))))))))))))))))) (zR (uR R418 2 (Int32.toNatClampNeg (((0 + 1) + 1) + 1)) 59) 61) := hK432.z rfl
  have hF440 : FR 1 R (zR (uR R418 2 (Int32.toNatClampNeg (((0 + 1) + 1) + 1)) 59) 61) := hF433.z rfl
  refine ct_X0_init_61 hB434 (fun I441 J442 R443 hB444 hF445 hK446 hI447 hZ448 hJ449 jz450 => ?_)
  have hZ451 : KI (zk_X0_init_61 ++ (zk_X10_init_59 ++ (zk_X10_init_57 ++ (zk_X10_init_55 ++ (zk_X10_init_53 ++ (zk_X4_init_51 ++ (zk_X4_init_49 ++ (zk_X9_init_45 ++ (zk_X5_init_42 ++ (zk_X8_init_39 ++ (zk_X7_init_35 ++ (zk_X2_init_27 ++ (zk_X2_init_21 ++ (zk_X0_init_15 ++ (zk_X0_init_9 ++ (zk_X3_init_7 ++ (zk_X1_init_6 ++ (zk_X6_init_3 ++ ([]))))))))))))))))))) I441 := hZ448.app (hZ435.fr hI447 rfl)
  have hI452 : FI 1 I I441 := fun o ho => (hI447 o (by omega)).trans (hI436 o ho)
  have hJ453 : FJ 1 J J442 := fun o ho => (hJ449 o (by omega)).trans (hJ437 o ho)
  have jz454 : J442 47 0 = 0 := (congrFun (hJ449 47 (by decide)) 0).trans jz438
  have hK455 : RK (lk_X0_init_61 ++ ((2, 3, 59) :: (lk_X10_init_59 ++ ((2, 2, 57) :: (lk_X10_init_57 ++ ((2, 1, 55) :: (lk_X10_init_55 ++ ((2, 0, 53) :: (lk_X10_init_53 ++ ((1, 19, 51) :: (lk_X4_init_51 ++ ((1, 18, 49) :: (lk_X4_init_49 ++ ((1, 17, 45) :: (lk_X9_init_45 ++ ((1, 16, 42) :: (lk_X5_init_42 ++ ((1, 15, 39) :: (lk_X8_init_39 ++ ((1, 14, 35) :: (lk_X7_init_35 ++ ((1, 12, 34) :: ((1, 11, 33) :: ((1, 10, 27) :: (lk_X2_init_27 ++ ((1, 9, 21) :: (lk_X2_init_21 ++ ((1, 8, 15) :: (lk_X0_init_15 ++ ((1, 7, 9) :: (lk_X0_init_9 ++ ((1, 6, 7) :: (lk_X3_init_7 ++ ((1, 5, 6) :: ((1, 4, 3) :: (lk_X6_init_3 ++ ((1, 3, 2) :: ([])))))))))))))))))))))))))))))))))))))) R443 := hK446.app (hK439.fr hF445 rfl)
  have hF456 : FR 1 R R443 := fun o ho => (hF445 o (by omega)).trans (hF440 o ho)
  refine ⟨vp_of rfl (by decide) (by decide), ?_⟩
  have hK457 : RK ((33, 0, 61) :: (lk_X0_init_61 ++ ((2, 3, 59) :: (lk_X10_init_59 ++ ((2, 2, 57) :: (lk_X10_init_57 ++ ((2, 1, 55) :: (lk_X10_init_55 ++ ((2, 0, 53) :: (lk_X10_init_53 ++ ((1, 19, 51) :: (lk_X4_init_51 ++ ((1, 18, 49) :: (lk_X4_init_49 ++ ((1, 17, 45) :: (lk_X9_init_45 ++ ((1, 16, 42) :: (lk_X5_init_42 ++ ((1, 15, 39) :: (lk_X8_init_39 ++ ((1, 14, 35) :: (lk_X7_init_35 ++ ((1, 12, 34) :: ((1, 11, 33) :: ((1, 10, 27) :: (lk_X2_init_27 ++ ((1, 9, 21) :: (lk_X2_init_21 ++ ((1, 8, 15) :: (lk_X0_init_15 ++ ((1, 7, 9) :: (lk_X0_init_9 ++ ((1, 6, 7) :: (lk_X3_init_7 ++ ((1, 5, 6) :: ((1, 4, 3) :: (lk_X6_init_3 ++ ((1, 3, 2) :: ([]))))))))))))))))))))))))))))))))))))))) (uR R443 33 (Int32.toNatClampNeg 0) 61) := hK455.u rfl
  have hF458 : FR 1 R (uR R443 33 (Int32.toNatClampNeg 0) 61) := hF456.u rfl
  refine ⟨hK457.ne (show lkq ((33, 0, 61) :: (lk_X0_init_61 ++ ((2, 3, 59) :: (lk_X10_init_59 ++ ((2, 2, 57) :: (lk_X10_init_57 ++ ((2, 1, 55) :: (lk_X10_init_55 ++ ((2, 0, 53) :: (lk_X10_init_53 ++ ((1, 19, 51) :: (lk_X4_init_51 ++ ((1, 18, 49) :: (lk_X4_init_49 ++ ((1, 17, 45) :: (lk_X9_init_45 ++ ((1, 16, 42) :: (lk_X5_init_42 ++ ((1, 15, 39) :: (lk_X8_init_39 ++ ((1, 14, 35) :: (lk_X7_init_35 ++ ((1, 12, 34) :: ((1, 11, 33) :: ((1, 10, 27) :: (lk_X2_init_27 ++ ((1, 9, 21) :: (lk_X2_init_21 ++ ((1, 8, 15) :: (lk_X0_init_15 ++ ((1, 7, 9) :: (lk_X0_init_9 ++ ((1, 6, 7) :: (lk_X3_init_7 ++ ((1, 5, 6) :: ((1, 4, 3) :: (lk_X6_init_3 ++ ((1, 3, 2) :: ([]))))))))))))))))))))))))))))))))))))))) 1 12 = true from rfl), ?_⟩
  have hB459 : BZ (zI I441 67) := hB444.z
  have hZ460 : KI (zk_X0_init_61 ++ (zk_X10_init_59 ++ (zk_X10_init_57 ++ (zk_X10_init_55 ++ (zk_X10_init_53 ++ (zk_X4_init_51 ++ (zk_X4_init_49 ++ (zk_X9_init_45 ++ (zk_X5_init_42 ++ (zk_X8_init_39 ++ (zk_X7_init_35 ++ (zk_X2_init_27 ++ (zk_X2_init_21 ++ (zk_X0_init_15 ++ (zk_X0_init_9 ++ (zk_X3_init_7 ++ (zk_X1_init_6 ++ (zk_X6_init_3 ++ ([]))))))))))))))))))) (zI I441 67) := hZ451.z rfl
  have hI461 : FI 1 I (zI I441 67) := hI452.z rfl
  have hJ462 : FJ 1 J (zJ J442 67) := hJ453.z rfl
  have jz463 : (zJ J442 67) 47 0 = 0 := JZ.z jz454 rfl
  have hK464 : RK ((33, 0, 61) :: (lk_X0_init_61 ++ ((2, 3, 59) :: (lk_X10_init_59 ++ ((2, 2, 57) :: (lk_X10_init_57 ++ ((2, 1, 55) :: (lk_X10_init_55 ++ ((2, 0, 53) :: (lk_X10_init_53 ++ ((1, 19, 51) :: (lk_X4_init_51 ++ ((1, 18, 49) :: (lk_X4_init_49 ++ ((1, 17, 45) :: (lk_X9_init_45 ++ ((1, 16, 42) :: (lk_X5_init_42 ++ ((1, 15, 39) :: (lk_X8_init_39 ++ ((1, 14, 35) :: (lk_X7_init_35 ++ ((1, 12, 34) :: ((1, 11, 33) :: ((1, 10, 27) :: (lk_X2_init_27 ++ ((1, 9, 21) :: (lk_X2_init_21 ++ ((1, 8, 15) :: (lk_X0_init_15 ++ ((1, 7, 9) :: (lk_X0_init_9 ++ ((1, 6, 7) :: (lk_X3_init_7 ++ ((1, 5, 6) :: ((1, 4, 3) :: (lk_X6_init_3 ++ ((1, 3, 2) :: ([]))))))))))))))))))))))))))))))))))))))) (zR (uR R443 33 (Int32.toNatClampNeg 0) 61) 67) := hK457.z rfl
  have hF465 : FR 1 R (zR (uR R443 33 (Int32.toNatClampNeg 0) 61) 67) := hF458.z rfl
  refine ct_X2_init_67 hB459 (fun I466 J467 R468 hB469 hF470 hK471 hI472 hZ473 hJ474 jz475 => ?_)
  have hZ476 : KI (zk_X2_init_67 ++ (zk_X0_init_61 ++ (zk_X10_init_59 ++ (zk_X10_init_57 ++ (zk_X10_init_55 ++ (zk_X10_init_53 ++ (zk_X4_init_51 ++ (zk_X4_init_49 ++ (zk_X9_init_45 ++ (zk_X5_init_42 ++ (zk_X8_init_39 ++ (zk_X7_init_35 ++ (zk_X2_init_27 ++ (zk_X2_init_21 ++ (zk_X0_init_15 ++ (zk_X0_init_9 ++ (zk_X3_init_7 ++ (zk_X1_init_6 ++ (zk_X6_init_3 ++ ([])))))))))))))))))))) I466 := hZ473.app (hZ460.fr hI472 rfl)
  have hI477 : FI 1 I I466 := fun o ho => (hI472 o (by omega)).trans (hI461 o ho)
  have hJ478 : FJ 1 J J467 := fun o ho => (hJ474 o (by omega)).trans (hJ462 o ho)
  have jz479 : J467 47 0 = 0 := (congrFun (hJ474 47 (by decide)) 0).trans jz463
  have hK480 : RK (lk_X2_init_67 ++ ((33, 0, 61) :: (lk_X0_init_61 ++ ((2, 3, 59) :: (lk_X10_init_59 ++ ((2, 2, 57) :: (lk_X10_init_57 ++ ((2, 1, 55) :: (lk_X10_init_55 ++ ((2, 0, 53) :: (lk_X10_init_53 ++ ((1, 19, 51) :: (lk_X4_init_51 ++ ((1, 18, 49) :: (lk_X4_init_49 ++ ((1, 17, 45) :: (lk_X9_init_45 ++ ((1, 16, 42) :: (lk_X5_init_42 ++ ((1, 15, 39) :: (lk_X8_init_39 ++ ((1, 14, 35) :: (lk_X7_init_35 ++ ((1, 12, 34) :: ((1, 11, 33) :: ((1, 10, 27) :: (lk_X2_init_27 ++ ((1, 9, 21) :: (lk_X2_init_21 ++ ((1, 8, 15) :: (lk_X0_init_15 ++ ((1, 7, 9) :: (lk_X0_init_9 ++ ((1, 6, 7) :: (lk_X3_init_7 ++ ((1, 5, 6) :: ((1, 4, 3) :: (lk_X6_init_3 ++ ((1, 3, 2) :: ([])))))))))))))))))))))))))))))))))))))))) R468 := hK471.app (hK464.fr hF470 rfl)
  have hF481 : FR 1 R R468 := fun o ho => (hF470 o (by omega)).trans (hF465 o ho)
  refine ⟨vp_of rfl (by decide) (by decide), ?_⟩
  have hK482 : RK ((34, 0, 67) :: (lk_X2_init_67 ++ ((33, 0, 61) :: (lk_X0_init_61 ++ ((2, 3, 59) :: (lk_X10_init_59 ++ ((2, 2, 57) :: (lk_X10_init_57 ++ ((2, 1, 55) :: (lk_X10_init_55 ++ ((2, 0, 53) :: (lk_X10_init_53 ++ ((1, 19, 51) :: (lk_X4_init_51 ++ ((1, 18, 49) :: (lk_X4_init_49 ++ ((1, 17, 45) :: (lk_X9_init_45 ++ ((1, 16, 42) :: (lk_X5_init_42 ++ ((1, 15, 39) :: (lk_X8_init_39 ++ ((1, 14, 35) :: (lk_X7_init_35 ++ ((1, 12, 34) :: ((1, 11, 33) :: ((1, 10, 27) :: (lk_X2_init_27 ++ ((1, 9, 21) :: (lk_X2_init_21 ++ ((1, 8, 15) :: (lk_X0_init_15 ++ ((1, 7, 9) :: (lk_X0_init_9 ++ ((1, 6, 7) :: (lk_X3_init_7 ++ ((1, 5, 6) :: ((1, 4, 3) :: (lk_X6_init_3 ++ ((1, 3, 2) :: ([]))))))))))))))))))))))))))))))))))))))))) (uR R468 34 (Int32.toNatClampNeg 0) 67) := hK480.u rfl
  have hF483 : FR 1 R (uR R468 34 (Int32.toNatClampNeg 0) 67) := hF481.u rfl
  refine cs_X11_init_1_219_72 hc _ _ _ ?_
  refine ⟨fun c => absurd c (by decide), fun _ => ?_⟩
  refine ⟨hK482.ne (show lkq ((34, 0, 67) :: (lk_X2_init_67 ++ ((33, 0, 61) :: (lk_X0_init_61 ++ ((2, 3, 59) :: (lk_X10_init_59 ++ ((2, 2, 57) :: (lk_X10_init_57 ++ ((2, 1, 55) :: (lk_X10_init_55 ++ ((2, 0, 53) :: (lk_X10_init_53 ++ ((1, 19, 51) :: (lk_X4_init_51 ++ ((1, 18, 49) :: (lk_X4_init_49 ++ ((1, 17, 45) :: (lk_X9_init_45 ++ ((1, 16, 42) :: (lk_X5_init_42 ++ ((1, 15, 39) :: (lk_X8_init_39 ++ ((1, 14, 35) :: (lk_X7_init_35 ++ ((1, 12, 34) :: ((1, 11, 33) :: ((1, 10, 27) :: (lk_X2_init_27 ++ ((1, 9, 21) :: (lk_X2_init_21 ++ ((1, 8, 15) :: (lk_X0_init_15 ++ ((1, 7, 9) :: (lk_X0_init_9 ++ ((1, 6, 7) :: (lk_X3_init_7 ++ ((1, 5, 6) :: ((1, 4, 3) :: (lk_X6_init_3 ++ ((1, 3, 2) :: ([]))))))))))))))))))))))))))))))))))))))))) 1 11 = true from rfl), ?_⟩
  have hB484 : BZ (zI I466 73) := hB469.z
  have hZ485 : KI (zk_X2_init_67 ++ (zk_X0_init_61 ++ (zk_X10_init_59 ++ (zk_X10_init_57 ++ (zk_X10_init_55 ++ (zk_X10_init_53 ++ (zk_X4_init_51 ++ (zk_X4_init_49 ++ (zk_X9_init_45 ++ (zk_X5_init_42 ++ (zk_X8_init_39 ++ (zk_X7_init_35 ++ (zk_X2_init_27 ++ (zk_X2_init_21 ++ (zk_X0_init_15 ++ (zk_X0_init_9 ++ (zk_X3_init_7 ++ (zk_X1_init_6 ++ (zk_X6_init_3 ++ ([])))))))))))))))))))) (zI I466 73) := hZ476.z rfl
  have hI486 : FI 1 I (zI I466 73) := hI477.z rfl
  have hJ487 : FJ 1 J (zJ J467 73) := hJ478.z rfl
  have jz488 : (zJ J467 73) 47 0 = 0 := JZ.z jz479 rfl
  have hK489 : RK ((34, 0, 67) :: (lk_X2_init_67 ++ ((33, 0, 61) :: (lk_X0_init_61 ++ ((2, 3, 59) :: (lk_X10_init_59 ++ ((2, 2, 57) :: (lk_X10_init_57 ++ ((2, 1, 55) :: (lk_X10_init_55 ++ ((2, 0, 53) :: (lk_X10_init_53 ++ ((1, 19, 51) :: (lk_X4_init_51 ++ ((1, 18, 49) :: (lk_X4_init_49 ++ ((1, 17, 45) :: (lk_X9_init_45 ++ ((1, 16, 42) :: (lk_X5_init_42 ++ ((1, 15, 39) :: (lk_X8_init_39 ++ ((1, 14, 35) :: (lk_X7_init_35 ++ ((1, 12, 34) :: ((1, 11, 33) :: ((1, 10, 27) :: (lk_X2_init_27 ++ ((1, 9, 21) :: (lk_X2_init_21 ++ ((1, 8, 15) :: (lk_X0_init_15 ++ ((1, 7, 9) :: (lk_X0_init_9 ++ ((1, 6, 7) :: (lk_X3_init_7 ++ ((1, 5, 6) :: ((1, 4, 3) :: (lk_X6_init_3 ++ ((1, 3, 2) :: ([]))))))))))))))))))))))))))))))))))))))))) (zR (uR R468 34 (Int32.toNatClampNeg 0) 67) 73) := hK482.z rfl
  have hF490 : FR 1 R (zR (uR R468 34 (Int32.toNatClampNeg 0) 67) 73) := hF483.z rfl
  refine ct_X0_init_73 hB484 (fun I491 J492 R493 hB494 hF495 hK496 hI497 hZ498 hJ499 jz500 => ?_)
  have hZ501 : KI (zk_X0_init_73 ++ (zk_X2_init_67 ++ (zk_X0_init_61 ++ (zk_X10_init_59 ++ (zk_X10_init_57 ++ (zk_X10_init_55 ++ (zk_X10_init_53 ++ (zk_X4_init_51 ++ (zk_X4_init_49 ++ (zk_X9_init_45 ++ (zk_X5_init_42 ++ (zk_X8_init_39 ++ (zk_X7_init_35 ++ (zk_X2_init_27 ++ (zk_X2_init_21 ++ (zk_X0_init_15 ++ (zk_X0_init_9 ++ (zk_X3_init_7 ++ (zk_X1_init_6 ++ (zk_X6_init_3 ++ ([]))))))))))))))))))))) I491 := hZ498.app (hZ485.fr hI497 rfl)
  have hI502 : FI 1 I I491 := fun o ho => (hI497 o (by omega)).trans (hI486 o ho)
  have hJ503 : FJ 1 J J492 := fun o ho => (hJ499 o (by omega)).trans (hJ487 o ho)
  have jz504 : J492 47 0 = 0 := (congrFun (hJ499 47 (by decide)) 0).trans jz488
  have hK505 : RK (lk_X0_init_73 ++ ((34, 0, 67) :: (lk_X2_init_67 ++ ((33, 0, 61) :: (lk_X0_init_61 ++ ((2, 3, 59) :: (lk_X10_init_59 ++ ((2, 2, 57) :: (lk_X10_init_57 ++ ((2, 1, 55) :: (lk_X10_init_55 ++ ((2, 0, 53) :: (lk_X10_init_53 ++ ((1, 19, 51) :: (lk_X4_init_51 ++ ((1, 18, 49) :: (lk_X4_init_49 ++ ((1, 17, 45) :: (lk_X9_init_45 ++ ((1, 16, 42) :: (lk_X5_init_42 ++ ((1, 15, 39) :: (lk_X8_init_39 ++ ((1, 14, 35) :: (lk_X7_init_35 ++ ((1, 12, 34) :: ((1, 11, 33) :: ((1, 10, 27) :: (lk_X2_init_27 ++ ((1, 9, 21) :: (lk_X2_init_21 ++ ((1, 8, 15) :: (lk_X0_init_15 ++ ((1, 7, 9) :: (lk_X0_init_9 ++ ((1, 6, 7) :: (lk_X3_init_7 ++ ((1, 5, 6) :: ((1, 4, 3) :: (lk_X6_init_3 ++ ((1, 3, 2) :: ([])))))))))))))))))))))))))))))))))))))))))) R493 := hK496.app (hK489.fr hF495 rfl)
  have hF506 : FR 1 R R493 := fun o ho => (hF495 o (by omega)).trans (hF490 o ho)
  refine ⟨vp_of rfl (by decide) (by decide), ?_⟩
  have hK507 : RK ((33, 1, 73) :: (lk_X0_init_73 ++ ((34, 0, 67) :: (lk_X2_init_67 ++ ((33, 0, 61) :: (lk_X0_init_61 ++ ((2, 3, 59) :: (lk_X10_init_59 ++ ((2, 2, 57) :: (lk_X10_init_57 ++ ((2, 1, 55) :: (lk_X10_init_55 ++ ((2, 0, 53) :: (lk_X10_init_53 ++ ((1, 19, 51) :: (lk_X4_init_51 ++ ((1, 18, 49) :: (lk_X4_init_49 ++ ((1, 17, 45) :: (lk_X9_init_45 ++ ((1, 16, 42) :: (lk_X5_init_42 ++ ((1, 15, 39) :: (lk_X8_init_39 ++ ((1, 14, 35) :: (lk_X7_init_35 ++ ((1, 12, 34) :: ((1, 11, 33) :: ((1, 10, 27) :: (lk_X2_init_27 ++ ((1, 9, 21) :: (lk_X2_init_21 ++ ((1, 8, 15) :: (lk_X0_init_15 ++ ((1, 7, 9) :: (lk_X0_init_9 ++ ((1, 6, 7) :: (lk_X3_init_7 ++ ((1, 5, 6) :: ((1, 4, 3) :: (lk_X6_init_3 ++ ((1, 3, 2) :: ([]))))))))))))))))))))))))))))))))))))))))))) (uR R493 33 (Int32.toNatClampNeg (0 + 1)) 73) := hK505.u rfl
  have hF508 : FR 1 R (uR R493 33 (Int32.toNatClampNeg (0 + 1)) 73) := hF506.u rfl
  refine ⟨hK507.ne (show lkq ((33, 1, 73) :: (lk_X0_init_73 ++ ((34, 0, 67) :: (lk_X2_init_67 ++ ((33, 0, 61) :: (lk_X0_init_61 ++ ((2, 3, 59) :: (lk_X10_init_59 ++ ((2, 2, 57) :: (lk_X10_init_57 ++ ((2, 1, 55) :: (lk_X10_init_55 ++ ((2, 0, 53) :: (lk_X10_init_53 ++ ((1, 19, 51) :: (lk_X4_init_51 ++ ((1, 18, 49) :: (lk_X4_init_49 ++ ((1, 17, 45) :: (lk_X9_init_45 ++ ((1, 16, 42) :: (lk_X5_init_42 ++ ((1, 15, 39) :: (lk_X8_init_39 ++ ((1, 14, 35) :: (lk_X7_init_35 ++ ((1, 12, 34) :: ((1, 11, 33) :: ((1, 10, 27) :: (lk_X2_init_27 ++ ((1, 9, 21) :: (lk_X2_init_21 ++ ((1, 8, 15) :: (lk_X0_init_15 ++ ((1, 7, 9) :: (lk_X0_init_9 ++ ((1, 6, 7) :: (lk_X3_init_7 ++ ((1, 5, 6) :: ((1, 4, 3) :: (lk_X6_init_3 ++ ((1, 3, 2) :: ([]))))))))))))))))))))))))))))))))))))))))))) 1 12 = true from rfl), ?_⟩
  have hB509 : BZ (zI I491 79) := hB494.z
  have hZ510 : KI (zk_X0_init_73 ++ (zk_X2_init_67 ++ (zk_X0_init_61 ++ (zk_X10_init_59 ++ (zk_X10_init_57 ++ (zk_X10_init_55 ++ (zk_X10_init_53 ++ (zk_X4_init_51 ++ (zk_X4_init_49 ++ (zk_X9_init_45 ++ (zk_X5_init_42 ++ (zk_X8_init_39 ++ (zk_X7_init_35 ++ (zk_X2_init_27 ++ (zk_X2_init_21 ++ (zk_X0_init_15 ++ (zk_X0_init_9 ++ (zk_X3_init_7 ++ (zk_X1_init_6 ++ (zk_X6_init_3 ++ ([]))))))))))))))))))))) (zI I491 79) := hZ501.z rfl
  have hI511 : FI 1 I (zI I491 79) := hI502.z rfl
  have hJ512 : FJ 1 J (zJ J492 79) := hJ503.z rfl
  have jz513 : (zJ J492 79) 47 0 = 0 := JZ.z jz504 rfl
  have hK514 : RK ((33, 1, 73) :: (lk_X0_init_73 ++ ((34, 0, 67) :: (lk_X2_init_67 ++ ((33, 0, 61) :: (lk_X0_init_61 ++ ((2, 3, 59) :: (lk_X10_init_59 ++ ((2, 2, 57) :: (lk_X10_init_57 ++ ((2, 1, 55) :: (lk_X10_init_55 ++ ((2, 0, 53) :: (lk_X10_init_53 ++ ((1, 19, 51) :: (lk_X4_init_51 ++ ((1, 18, 49) :: (lk_X4_init_49 ++ ((1, 17, 45) :: (lk_X9_init_45 ++ ((1, 16, 42) :: (lk_X5_init_42 ++ ((1, 15, 39) :: (lk_X8_init_39 ++ ((1, 14, 35) :: (lk_X7_init_35 ++ ((1, 12, 34) :: ((1, 11, 33) :: ((1, 10, 27) :: (lk_X2_init_27 ++ ((1, 9, 21) :: (lk_X2_init_21 ++ ((1, 8, 15) :: (lk_X0_init_15 ++ ((1, 7, 9) :: (lk_X0_init_9 ++ ((1, 6, 7) :: (lk_X3_init_7 ++ ((1, 5, 6) :: ((1, 4, 3) :: (lk_X6_init_3 ++ ((1, 3, 2) :: ([]))))))))))))))))))))))))))))))))))))))))))) (zR (uR R493 33 (Int32.toNatClampNeg (0 + 1)) 73) 79) := hK507.z rfl
  have hF515 : FR 1 R (zR (uR R493 33 (Int32.toNatClampNeg (0 + 1)) 73) 79) := hF508.z rfl
  refine ct_X2_init_79 hB509 (fun I516 J517 R518 hB519 hF520 hK521 hI522 hZ523 hJ524 jz525 => ?_)
  have hZ526 : KI (zk_X2_init_79 ++ (zk_X0_init_73 ++ (zk_X2_init_67 ++ (zk_X0_init_61 ++ (zk_X10_init_59 ++ (zk_X10_init_57 ++ (zk_X10_init_55 ++ (zk_X10_init_53 ++ (zk_X4_init_51 ++ (zk_X4_init_49 ++ (zk_X9_init_45 ++ (zk_X5_init_42 ++ (zk_X8_init_39 ++ (zk_X7_init_35 ++ (zk_X2_init_27 ++ (zk_X2_init_21 ++ (zk_X0_init_15 ++ (zk_X0_init_9 ++ (zk_X3_init_7 ++ (zk_X1_init_6 ++ (zk_X6_init_3 ++ ([])))))))))))))))))))))) I516 := hZ523.app (hZ510.fr hI522 rfl)
  have hI527 : FI 1 I I516 := fun o ho => (hI522 o (by omega)).trans (hI511 o ho)
  have hJ528 : FJ 1 J J517 := fun o ho => (hJ524 o (by omega)).trans (hJ512 o ho)
  have jz529 : J517 47 0 = 0 := (congrFun (hJ524 47 (by decide)) 0).trans jz513
  have hK530 : RK (lk_X2_init_79 ++ ((33, 1, 73) :: (lk_X0_init_73 ++ ((34, 0, 67) :: (lk_X2_init_67 ++ ((33, 0, 61) :: (lk_X0_init_61 ++ ((2, 3, 59) :: (lk_X10_init_59 ++ ((2, 2, 57) :: (lk_X10_init_57 ++ ((2, 1, 55) :: (lk_X10_init_55 ++ ((2, 0, 53) :: (lk_X10_init_53 ++ ((1, 19, 51) :: (lk_X4_init_51 ++ ((1, 18, 49) :: (lk_X4_init_49 ++ ((1, 17, 45) :: (lk_X9_init_45 ++ ((1, 16, 42) :: (lk_X5_init_42 ++ ((1, 15, 39) :: (lk_X8_init_39 ++ ((1, 14, 35) :: (lk_X7_init_35 ++ ((1, 12, 34) :: ((1, 11, 33) :: ((1, 10, 27) :: (lk_X2_init_27 ++ ((1, 9, 21) :: (lk_X2_init_21 ++ ((1, 8, 15) :: (lk_X0_init_15 ++ ((1, 7, 9) :: (lk_X0_init_9 ++ ((1, 6, 7) :: (lk_X3_init_7 ++ ((1, 5, 6) :: ((1, 4, 3) :: (lk_X6_init_3 ++ ((1, 3, 2) :: ([])))))))))))))))))))))))))))))))))))))))))))) R518 := hK521.app (hK514.fr hF520 rfl)
  have hF531 : FR 1 R R518 := fun o ho => (hF520 o (by omega)).trans (hF515 o ho)
  refine ⟨vp_of rfl (by decide) (by decide), ?_⟩
  have hK532 : RK ((34, 1, 79) :: (lk_X2_init_79 ++ ((33, 1, 73) :: (lk_X0_init_73 ++ ((34, 0, 67) :: (lk_X2_init_67 ++ ((33, 0, 61) :: (lk_X0_init_61 ++ ((2, 3, 59) :: (lk_X10_init_59 ++ ((2, 2, 57) :: (lk_X10_init_57 ++ ((2, 1, 55) :: (lk_X10_init_55 ++ ((2, 0, 53) :: (lk_X10_init_53 ++ ((1, 19, 51) :: (lk_X4_init_51 ++ ((1, 18, 49) :: (lk_X4_init_49 ++ ((1, 17, 45) :: (lk_X9_init_45 ++ ((1, 16, 42) :: (lk_X5_init_42 ++ ((1, 15, 39) :: (lk_X8_init_39 ++ ((1, 14, 35) :: (lk_X7_init_35 ++ ((1, 12, 34) :: ((1, 11, 33) :: ((1, 10, 27) :: (lk_X2_init_27 ++ ((1, 9, 21) :: (lk_X2_init_21 ++ ((1, 8, 15) :: (lk_X0_init_15 ++ ((1, 7, 9) :: (lk_X0_init_9 ++ ((1, 6, 7) :: (lk_X3_init_7 ++ ((1, 5, 6) :: ((1, 4, 3) :: (lk_X6_init_3 ++ ((1, 3, 2) :: ([]))))))))))))))))))))))))))))))))))))))))))))) (uR R518 34 (Int32.toNatClampNeg (0 + 1)) 79) := hK530.u rfl
  have hF533 : FR 1 R (uR R518 34 (Int32.toNatClampNeg (0 + 1)) 79) := hF531.u rfl
  refine cs_X11_init_1_219_84 hc _ _ _ ?_
  refine ⟨fun c => absurd c (by decide), fun _ => ?_⟩
  refine ⟨hK532.ne (show lkq ((34, 1, 79) :: (lk_X2_init_79 ++ ((33, 1, 73) :: (lk_X0_init_73 ++ ((34, 0, 67) :: (lk_X2_init_67 ++ ((33, 0, 61) :: (lk_X0_init_61 ++ ((2, 3, 59) :: (lk_X10_init_59 ++ ((2, 2, 57) :: (lk_X10_init_57 ++ ((2, 1, 55) :: (lk_X10_init_55 ++ ((2, 0, 53) :: (lk_X10_init_53 ++ ((1, 19, 51) :: (lk_X4_init_51 ++ ((1, 18, 49) :: (lk_X4_init_49 ++ ((1, 17, 45) :: (lk_X9_init_45 ++ ((1, 16, 42) :: (lk_X5_init_42 ++ ((1, 15, 39) :: (lk_X8_init_39 ++ ((1, 14, 35) :: (lk_X7_init_35 ++ ((1, 12, 34) :: ((1, 11, 33) :: ((1, 10, 27) :: (lk_X2_init_27 ++ ((1, 9, 21) :: (lk_X2_init_21 ++ ((1, 8, 15) :: (lk_X0_init_15 ++ ((1, 7, 9) :: (lk_X0_init_9 ++ ((1, 6, 7) :: (lk_X3_init_7 ++ ((1, 5, 6) :: ((1, 4, 3) :: (lk_X6_init_3 ++ ((1, 3, 2) :: ([]))))))))))))))))))))))))))))))))))))))))))))) 1 11 = true from rfl), ?_⟩
  have hB534 : BZ (zI I516 85) := hB519.z
  have hZ535 : KI (zk_X2_init_79 ++ (zk_X0_init_73 ++ (zk_X2_init_67 ++ (zk_X0_init_61 ++ (zk_X10_init_59 ++ (zk_X10_init_57 ++ (zk_X10_init_55 ++ (zk_X10_init_53 ++ (zk_X4_init_51 ++ (zk_X4_init_49 ++ (zk_X9_init_45 ++ (zk_X5_init_42 ++ (zk_X8_init_39 ++ (zk_X7_init_35 ++ (zk_X2_init_27 ++ (zk_X2_init_21 ++ (zk_X0_init_15 ++ (zk_X0_init_9 ++ (zk_X3_init_7 ++ (zk_X1_init_6 ++ (zk_X6_init_3 ++ ([])))))))))))))))))))))) (zI I516 85) := hZ526.z rfl
  have hI536 : FI 1 I (zI I516 85) := hI527.z rfl
  have hJ537 : FJ 1 J (zJ J517 85) := hJ528.z rfl
  have jz538 : (zJ J517 85) 47 0 = 0 := JZ.z jz529 rfl
  have hK539 : RK ((34, 1, 79) :: (lk_X2_init_79 ++ ((33, 1, 73) :: (lk_X0_init_73 ++ ((34, 0, 67) :: (lk_X2_init_67 ++ ((33, 0, 61) :: (lk_X0_init_61 ++ ((2, 3, 59) :: (lk_X10_init_59 ++ ((2, 2, 57) :: (lk_X10_init_57 ++ ((2, 1, 55) :: (lk_X10_init_55 ++ ((2, 0, 53) :: (lk_X10_init_53 ++ ((1, 19, 51) :: (lk_X4_init_51 ++ ((1, 18, 49) :: (lk_X4_init_49 ++ ((1, 17, 45) :: (lk_X9_init_45 ++ ((1, 16, 42) :: (lk_X5_init_42 ++ ((1, 15, 39) :: (lk_X8_init_39 ++ ((1, 14, 35) :: (lk_X7_init_35 ++ ((1, 12, 34) :: ((1, 11, 33) :: ((1, 10, 27) :: (lk_X2_init_27 ++ ((1, 9, 21) :: (lk_X2_init_21 ++ ((1, 8, 15) :: (lk_X0_init_15 ++ ((1, 7, 9) :: (lk_X0_init_9 ++ ((1, 6, 7) :: (lk_X3_init_7 ++ ((1, 5, 6) :: ((1, 4, 3) :: (lk_X6_init_3 ++ ((1, 3, 2) :: ([]))))))))))))))))))))))))))))))))))))))))))))) (zR (uR R518 34 (Int32.toNatClampNeg (0 + 1)) 79) 85) := hK532.z rfl
  have hF540 : FR 1 R (zR (uR R518 34 (Int32.toNatClampNeg (0 + 1)) 79) 85) := hF533.z rfl
  refine ct_X0_init_85 hB534 (fun I541 J542 R543 hB544 hF545 hK546 hI547 hZ548 hJ549 jz550 => ?_)
  have hZ551 : KI (zk_X0_init_85 ++ (zk_X2_init_79 ++ (zk_X0_init_73 ++ (zk_X2_init_67 ++ (zk_X0_init_61 ++ (zk_X10_init_59 ++ (zk_X10_init_57 ++ (zk_X10_init_55 ++ (zk_X10_init_53 ++ (zk_X4_init_51 ++ (zk_X4_init_49 ++ (zk_X9_init_45 ++ (zk_X5_init_42 ++ (zk_X8_init_39 ++ (zk_X7_init_35 ++ (zk_X2_init_27 ++ (zk_X2_init_21 ++ (zk_X0_init_15 ++ (zk_X0_init_9 ++ (zk_X3_init_7 ++ (zk_X1_init_6 ++ (zk_X6_init_3 ++ ([]))))))))))))))))))))))) I541 := hZ548.app (hZ535.fr hI547 rfl)
  have hI552 : FI 1 I I541 := fun o ho => (hI547 o (by omega)).trans (hI536 o ho)
  have hJ553 : FJ 1 J J542 := fun o ho => (hJ549 o (by omega)).trans (hJ537 o ho)
  have jz554 : J542 47 0 = 0 := (congrFun (hJ549 47 (by decide)) 0).trans jz538
  have hK555 : RK (lk_X0_init_85 ++ ((34, 1, 79) :: (lk_X2_init_79 ++ ((33, 1, 73) :: (lk_X0_init_73 ++ ((34, 0, 67) :: (lk_X2_init_67 ++ ((33, 0, 61) :: (lk_X0_init_61 ++ ((2, 3, 59) :: (lk_X10_init_59 ++ ((2, 2, 57) :: (lk_X10_init_57 ++ ((2, 1, 55) :: (lk_X10_init_55 ++ ((2, 0, 53) :: (lk_X10_init_53 ++ ((1, 19, 51) :: (lk_X4_init_51 ++ ((1, 18, 49) :: (lk_X4_init_49 ++ ((1, 17, 45) :: (lk_X9_init_45 ++ ((1, 16, 42) :: (lk_X5_init_42 ++ ((1, 15, 39) :: (lk_X8_init_39 ++ ((1, 14, 35) :: (lk_X7_init_35 ++ ((1, 12, 34) :: ((1, 11, 33) :: ((1, 10, 27) :: (lk_X2_init_27 ++ ((1, 9, 21) :: (lk_X2_init_21 ++ ((1, 8, 15) :: (lk_X0_init_15 ++ ((1, 7, 9) :: (lk_X0_init_9 ++ ((1, 6, 7) :: (lk_X3_init_7 ++ ((1, 5, 6) :: ((1, 4, 3) :: (lk_X6_init_3 ++ ((1, 3, 2) :: ([])))))))))))))))))))))))))))))))))))))))))))))) R543 := hK546.app (hK539.fr hF545 rfl)
  have hF556 : FR 1 R R543 := fun o ho => (hF545 o (by omega)).trans (hF540 o ho)
  refine ⟨vp_of rfl (by decide) (by decide), ?_⟩
  have hK557 : RK ((33, 2, 85) :: (lk_X0_init_85 ++ ((34, 1, 79) :: (lk_X2_init_79 ++ ((33, 1, 73) :: (lk_X0_init_73 ++ ((34, 0, 67) :: (lk_X2_init_67 ++ ((33, 0, 61) :: (lk_X0_init_61 ++ ((2, 3, 59) :: (lk_X10_init_59 ++ ((2, 2, 57) :: (lk_X10_init_57 ++ ((2, 1, 55) :: (lk_X10_init_55 ++ ((2, 0, 53) :: (lk_X10_init_53 ++ ((1, 19, 51) :: (lk_X4_init_51 ++ ((1, 18, 49) :: (lk_X4_init_49 ++ ((1, 17, 45) :: (lk_X9_init_45 ++ ((1, 16, 42) :: (lk_X5_init_42 ++ ((1, 15, 39) :: (lk_X8_init_39 ++ ((1, 14, 35) :: (lk_X7_init_35 ++ ((1, 12, 34) :: ((1, 11, 33) :: ((1, 10, 27) :: (lk_X2_init_27 ++ ((1, 9, 21) :: (lk_X2_init_21 ++ ((1, 8, 15) :: (lk_X0_init_15 ++ ((1, 7, 9) :: (lk_X0_init_9 ++ ((1, 6, 7) :: (lk_X3_init_7 ++ ((1, 5, 6) :: ((1, 4, 3) :: (lk_X6_init_3 ++ ((1, 3, 2) :: ([]))))))))))))))))))))))))))))))))))))))))))))))) (uR R543 33 (Int32.toNatClampNeg ((0 + 1) + 1)) 85) := hK555.u rfl
  have hF558 : FR 1 R (uR R543 33 (Int32.toNatClampNeg ((0 + 1) + 1)) 85) := hF556.u rfl
  refine ⟨hK557.ne (show lkq ((33, 2, 85) :: (lk_X0_init_85 ++ ((34, 1, 79) :: (lk_X2_init_79 ++ ((33, 1, 73) :: (lk_X0_init_73 ++ ((34, 0, 67) :: (lk_X2_init_67 ++ ((33, 0, 61) :: (lk_X0_init_61 ++ ((2, 3, 59) :: (lk_X10_init_59 ++ ((2, 2, 57) :: (lk_X10_init_57 ++ ((2, 1, 55) :: (lk_X10_init_55 ++ ((2, 0, 53) :: (lk_X10_init_53 ++ ((1, 19, 51) :: (lk_X4_init_51 ++ ((1, 18, 49) :: (lk_X4_init_49 ++ ((1, 17, 45) :: (lk_X9_init_45 ++ ((1, 16, 42) :: (lk_X5_init_42 ++ ((1, 15, 39) :: (lk_X8_init_39 ++ ((1, 14, 35) :: (lk_X7_init_35 ++ ((1, 12, 34) :: ((1, 11, 33) :: ((1, 10, 27) :: (lk_X2_init_27 ++ ((1, 9, 21) :: (lk_X2_init_21 ++ ((1, 8, 15) :: (lk_X0_init_15 ++ ((1, 7, 9) :: (lk_X0_init_9 ++ ((1, 6, 7) :: (lk_X3_init_7 ++ ((1, 5, 6) :: ((1, 4, 3) :: (lk_X6_init_3 ++ ((1, 3, 2) :: ([]))))))))))))))))))))))))))))))))))))))))))))))) 1 12 = true from rfl), ?_⟩
  have hB559 : BZ (zI I541 91) := hB544.z
  have hZ560 : KI (zk_X0_init_85 ++ (zk_X2_init_79 ++ (zk_X0_init_73 ++ (zk_X2_init_67 ++ (zk_X0_init_61 ++ (zk_X10_init_59 ++ (zk_X10_init_57 ++ (zk_X10_init_55 ++ (zk_X10_init_53 ++ (zk_X4_init_51 ++ (zk_X4_init_49 ++ (zk_X9_init_45 ++ (zk_X5_init_42 ++ (zk_X8_init_39 ++ (zk_X7_init_35 ++ (zk_X2_init_27 ++ (zk_X2_init_21 ++ (zk_X0_init_15 ++ (zk_X0_init_9 ++ (zk_X3_init_7 ++ (zk_X1_init_6 ++ (zk_X6_init_3 ++ ([]))))))))))))))))))))))) (zI I541 91) := hZ551.z rfl
  have hI561 : FI 1 I (zI I541 91) := hI552.z rfl
  have hJ562 : FJ 1 J (zJ J542 91) := hJ553.z rfl
  have jz563 : (zJ J542 91) 47 0 = 0 := JZ.z jz554 rfl
  have hK564 : RK ((33, 2, 85) :: (lk_X0_init_85 ++ ((34, 1, 79) :: (lk_X2_init_79 ++ ((33, 1, 73) :: (lk_X0_init_73 ++ ((34, 0, 67) :: (lk_X2_init_67 ++ ((33, 0, 61) :: (lk_X0_init_61 ++ ((2, 3, 59) :: (lk_X10_init_59 ++ ((2, 2, 57) :: (lk_X10_init_57 ++ ((2, 1, 55) :: (lk_X10_init_55 ++ ((2, 0, 53) :: (lk_X10_init_53 ++ ((1, 19, 51) :: (lk_X4_init_51 ++ ((1, 18, 49) :: (lk_X4_init_49 ++ ((1, 17, 45) :: (lk_X9_init_45 ++ ((1, 16, 42) :: (lk_X5_init_42 ++ ((1, 15, 39) :: (lk_X8_init_39 ++ ((1, 14, 35) :: (lk_X7_init_35 ++ ((1, 12, 34) :: ((1, 11, 33) :: ((1, 10, 27) :: (lk_X2_init_27 ++ ((1, 9, 21) :: (lk_X2_init_21 ++ ((1, 8, 15) :: (lk_X0_init_15 ++ ((1, 7, 9) :: (lk_X0_init_9 ++ ((1, 6, 7) :: (lk_X3_init_7 ++ ((1, 5, 6) :: ((1, 4, 3) :: (lk_X6_init_3 ++ ((1, 3, 2) :: ([]))))))))))))))))))))))))))))))))))))))))))))))) (zR (uR R543 33 (Int32.toNatClampNeg ((0 + 1) + 1)) 85) 91) := hK557.z rfl
  have hF565 : FR 1 R (zR (uR R543 33 (Int32.toNatClampNeg ((0 + 1) + 1)) 85) 91) := hF558.z rfl
  refine ct_X2_init_91 hB559 (fun I566 J567 R568 hB569 hF570 hK571 hI572 hZ573 hJ574 jz575 => ?_)
  have hZ576 : KI (zk_X2_init_91 ++ (zk_X0_init_85 ++ (zk_X2_init_79 ++ (zk_X0_init_73 ++ (zk_X2_init_67 ++ (zk_X0_init_61 ++ (zk_X10_init_59 ++ (zk_X10_init_57 ++ (zk_X10_init_55 ++ (zk_X10_init_53 ++ (zk_X4_init_51 ++ (zk_X4_init_49 ++ (zk_X9_init_45 ++ (zk_X5_init_42 ++ (zk_X8_init_39 ++ (zk_X7_init_35 ++ (zk_X2_init_27 ++ (zk_X2_init_21 ++ (zk_X0_init_15 ++ (zk_X0_init_9 ++ (zk_X3_init_7 ++ (zk_X1_init_6 ++ (zk_X6_init_3 ++ ([])))))))))))))))))))))))) I566 := hZ573.app (hZ560.fr hI572 rfl)
  have hI577 : FI 1 I I566 := fun o ho => (hI572 o (by omega)).trans (hI561 o ho)
  have hJ578 : FJ 1 J J567 := fun o ho => (hJ574 o (by omega)).trans (hJ562 o ho)
  have jz579 : J567 47 0 = 0 := (congrFun (hJ574 47 (by decide)) 0).trans jz563
  have hK580 : RK (lk_X2_init_91 ++ ((33, 2, 85) :: (lk_X0_init_85 ++ ((34, 1, 79) :: (lk_X2_init_79 ++ ((33, 1, 73) :: (lk_X0_init_73 ++ ((34, 0, 67) :: (lk_X2_init_67 ++ ((33, 0, 61) :: (lk_X0_init_61 ++ ((2, 3, 59) :: (lk_X10_init_59 ++ ((2, 2, 57) :: (lk_X10_init_57 ++ ((2, 1, 55) :: (lk_X10_init_55 ++ ((2, 0, 53) :: (lk_X10_init_53 ++ ((1, 19, 51) :: (lk_X4_init_51 ++ ((1, 18, 49) :: (lk_X4_init_49 ++ ((1, 17, 45) :: (lk_X9_init_45 ++ ((1, 16, 42) :: (lk_X5_init_42 ++ ((1, 15, 39) :: (lk_X8_init_39 ++ ((1, 14, 35) :: (lk_X7_init_35 ++ ((1, 12, 34) :: ((1, 11, 33) :: ((1, 10, 27) :: (lk_X2_init_27 ++ ((1, 9, 21) :: (lk_X2_init_21 ++ ((1, 8, 15) :: (lk_X0_init_15 ++ ((1, 7, 9) :: (lk_X0_init_9 ++ ((1, 6, 7) :: (lk_X3_init_7 ++ ((1, 5, 6) :: ((1, 4, 3) :: (lk_X6_init_3 ++ ((1, 3, 2) :: ([])))))))))))))))))))))))))))))))))))))))))))))))) R568 := hK571.app (hK564.fr hF570 rfl)
  have hF581 : FR 1 R R568 := fun o ho => (hF570 o (by omega)).trans (hF565 o ho)
  refine ⟨vp_of rfl (by decide) (by decide), ?_⟩
  have hK582 : RK ((34, 2, 91) :: (lk_X2_init_91 ++ ((33, 2, 85) :: (lk_X0_init_85 ++ ((34, 1, 79) :: (lk_X2_init_79 ++ ((33, 1, 73) :: (lk_X0_init_73 ++ ((34, 0, 67) :: (lk_X2_init_67 ++ ((33, 0, 61) :: (lk_X0_init_61 ++ ((2, 3, 59) :: (lk_X10_init_59 ++ ((2, 2, 57) :: (lk_X10_init_57 ++ ((2, 1, 55) :: (lk_X10_init_55 ++ ((2, 0, 53) :: (lk_X10_init_53 ++ ((1, 19, 51) :: (lk_X4_init_51 ++ ((1, 18, 49) :: (lk_X4_init_49 ++ ((1, 17, 45) :: (lk_X9_init_45 ++ ((1, 16, 42) :: (lk_X5_init_42 ++ ((1, 15, 39) :: (lk_X8_init_39 ++ ((1, 14, 35) :: (lk_X7_init_35 ++ ((1, 12, 34) :: ((1, 11, 33) :: ((1, 10, 27) :: (lk_X2_init_27 ++ ((1, 9, 21) :: (lk_X2_init_21 ++ ((1, 8, 15) :: (lk_X0_init_15 ++ ((1, 7, 9) :: (lk_X0_init_9 ++ ((1, 6, 7) :: (lk_X3_init_7 ++ ((1, 5, 6) :: ((1, 4, 3) :: (lk_X6_init_3 ++ ((1, 3, 2) :: ([]))))))))))))))))))))))))))))))))))))))))))))))))) (uR R568 34 (Int32.toNatClampNeg ((0 + 1) + 1)) 91) := hK580.u rfl
  have hF583 : FR 1 R (uR R568 34 (Int32.toNatClampNeg ((0 + 1) + 1)) 91) := hF581.u rfl
  refine cs_X11_init_1_219_96 hc _ _ _ ?_
  refine ⟨fun _ => ?_, fun c => absurd (by decide) c⟩
  exact ⟨rfl, fun z => absurd z (by decide), hQ _ _ _ hB569 hF583 hK582 hI577 hZ576 hJ578 jz579⟩
def zk_X12_init_97 : List (Nat × Nat × Int32) := (99, 3, -1) :: ((99, 2, -1) :: ((99, 1, -1) :: ((99, 0, -1) :: (zk_X11_init_1))))
def lk_X12_init_97 : List (Nat × Nat × Nat) := (97, 39, 112) :: ((97, 38, 111) :: ((97, 37, 110) :: ((97, 36, 109) :: ((97, 35, 108) :: ((97, 30, 107) :: ((97, 29, 106) :: ((97, 28, 105) :: ((97, 22, 104) :: ((97, 21, 103) :: ((97, 20, 102) :: ((97, 7, 101) :: ((97, 6, 100) :: ((97, 5, 99) :: ((97, 4, 98) :: ([])))))))))))))))
theorem getD_out {α : Type} {l : List α} {n : Nat} {d : α} (h : l.length ≤ n) : l.getD n d = d := by rw [List.getD_eq_getElem?_getD, List.getElem?_eq_none h]; rfl
def lkA : List (Nat × Nat × Nat) := lk_X12_init_97 ++ lk_X11_init_1
theorem fl_of {R : Rm} (h : RK lkA R) : Fl R := by
  have h1 : ((List.range 112).all fun i => (List.range 60).all fun k => !(Nat.beq (fkd (shl.getD i (999, 0)).1 k) 4) || lkq lkA (i + 1) k) = true := by decide +kernel
  have h2 : ∀ ci, ci < 1000 → (fkl.getD ci []).length ≤ 60 := by decide +kernel
  have h3 : shl.length = 112 := by decide +kernel
  have h4 : ∀ i, i < 112 → (shl.getD i (999, 0)).1 < 1000 := by decide +kernel
  intro i k hk
  have hi : i < 112 := by
    rcases Nat.lt_or_ge i 112 with q | q
    · exact q
    · rw [getD_out (by omega)] at hk
      have : fkd 999 k = 9 := by
        unfold fkd
        rw [getD_out (l := fkl) (by decide)]; rfl
      rw [show ((999, 0) : Nat × Nat).1 = 999 from rfl, this] at hk
      omega
  have hk6 : k < 60 := by
    rcases Nat.lt_or_ge k 60 with q | q
    · exact q
    · have h5 := h2 _ (h4 i hi)
      unfold fkd at hk
      rw [getD_out (by omega)] at hk
      omega
  have h5 := List.all_eq_true.mp (List.all_eq_true.mp h1 i (List.mem_range.mpr hi)) k (List.mem_range.mpr hk6)
  rw [hk] at h5
  exact h.ne h5
theorem ri_of {R : Rm} (h : RK lkA R) : RI R := by
  have a : ∀ o k v : Nat, lkA.contains (o, k, v) = true → R o k = v := fun o k v q => h.at q
  refine ⟨?_, ?_, ?_, ?_, fun j hj => ?_, fun j hj => ?_, fun j hj => ?_, fun j hj => ?_⟩
  · rw [a 1 7 9 rfl]; decide
  · rw [a 1 8 15 rfl]; decide
  · rw [a 1 9 21 rfl]; decide
  · rw [a 1 10 27 rfl]; decide
  · rcases (show j = 0 ∨ j = 1 ∨ j = 2 ∨ j = 3 by omega) with q | q | q | q <;> subst q
    · rw [a 2 0 53 rfl]; decide
    · rw [a 2 1 55 rfl]; decide
    · rw [a 2 2 57 rfl]; decide
    · rw [a 2 3 59 rfl]; decide
  · rcases (show j = 0 ∨ j = 1 ∨ j = 2 by omega) with q | q | q <;> subst q
    · rw [a 33 0 61 rfl]; decide
    · rw [a 33 1 73 rfl]; decide
    · rw [a 33 2 85 rfl]; decide
  · rcases (show j = 0 ∨ j = 1 ∨ j = 2 by omega) with q | q | q <;> subst q
    · rw [a 34 0 67 rfl]; decide
    · rw [a 34 1 79 rfl]; decide
    · rw [a 34 2 91 rfl]; decide
  · rcases (show j = 0 ∨ j = 1 ∨ j = 2 ∨ j = 3 by omega) with q | q | q | q <;> subst q
    · exact a 2 0 53 rfl
    · exact a 2 1 55 rfl
    · exact a 2 2 57 rfl
    · exact a 2 3 59 rfl
set_option maxHeartbeats 4000000 in
set_option maxRecDepth 100000 in
theorem ct_X12_init_97 {d : Nat} {Q : Qt} {I : Im} {J : Jm} {R : Rm} (hB : BZ I) (hL : RK lk_X11_init_1 R) (hZ0 : KI zk_X11_init_1 I) (hj0 : J 47 0 = 0) (hQ : ∀ (I2 : Im) (J2 : Jm) (R2 : Rm), Bd I2 → FR 97 R R2 → RK lk_X12_init_97 R2 → RLk I2 J2 → Q 0 0 I2 J2 R2) : AM (d + 2) 172 97 [.ref 97] I J R Q := by
  refine amc_of (k := kX12_init) rfl rfl rfl rfl rfl rfl (Nat.le_of_ble_eq_true rfl) (fun P hc => ?_)
  refine cs_X12_init_97_0_97 hc _ _ _ ?_
  have hJ1 : FJ 97 J (uJ J 97 3 1) := (FJ.refl 97 J).w rfl
  have jz2 : (uJ J 97 3 1) 47 0 = 0 := JZ.w hj0 rfl
  refine ⟨rfl, ?_⟩
  have hB3 : BZ (zI I 98) := hB.z
  have hZ4 : KI (zk_X11_init_1) (zI I 98) := hZ0.z rfl
  have hI5 : FI 97 I (zI I 98) := (FI.refl 97 I).z rfl
  have hJ6 : FJ 97 J (zJ (uJ J 97 3 1) 98) := hJ1.z rfl
  have jz7 : (zJ (uJ J 97 3 1) 98) 47 0 = 0 := JZ.z jz2 rfl
  have hK8 : RK ([]) (zR R 98) := (RK.nil (R := R)).z rfl
  have hF9 : FR 97 R (zR R 98) := (FR.refl 97 R).z rfl
  have hK10 : RK ((97, 4, 98) :: ([])) (uR (zR R 98) 97 4 98) := hK8.u rfl
  have hF11 : FR 97 R (uR (zR R 98) 97 4 98) := hF9.u rfl
  refine ⟨rfl, ?_⟩
  have hB12 : BZ (zI (zI I 98) 99) := hB3.z
  have hZ13 : KI (zk_X11_init_1) (zI (zI I 98) 99) := hZ4.z rfl
  have hI14 : FI 97 I (zI (zI I 98) 99) := hI5.z rfl
  have hJ15 : FJ 97 J (zJ (zJ (uJ J 97 3 1) 98) 99) := hJ6.z rfl
  have jz16 : (zJ (zJ (uJ J 97 3 1) 98) 99) 47 0 = 0 := JZ.z jz7 rfl
  have hK17 : RK ((97, 4, 98) :: ([])) (zR (uR (zR R 98) 97 4 98) 99) := hK10.z rfl
  have hF18 : FR 97 R (zR (uR (zR R 98) 97 4 98) 99) := hF11.z rfl
  have hK19 : RK ((97, 5, 99) :: ((97, 4, 98) :: ([]))) (uR (zR (uR (zR R 98) 97 4 98) 99) 97 5 99) := hK17.u rfl
  have hF20 : FR 97 R (uR (zR (uR (zR R 98) 97 4 98) 99) 97 5 99) := hF18.u rfl
  refine ⟨rfl, ?_⟩
  have hB21 : BZ (zI (zI (zI I 98) 99) 100) := hB12.z
  have hZ22 : KI (zk_X11_init_1) (zI (zI (zI I 98) 99) 100) := hZ13.z rfl
  have hI23 : FI 97 I (zI (zI (zI I 98) 99) 100) := hI14.z rfl
  have hJ24 : FJ 97 J (zJ (zJ (zJ (uJ J 97 3 1) 98) 99) 100) := hJ15.z rfl
  have jz25 : (zJ (zJ (zJ (uJ J 97 3 1) 98) 99) 100) 47 0 = 0 := JZ.z jz16 rfl
  have hK26 : RK ((97, 5, 99) :: ((97, 4, 98) :: ([]))) (zR (uR (zR (uR (zR R 98) 97 4 98) 99) 97 5 99) 100) := hK19.z rfl
  have hF27 : FR 97 R (zR (uR (zR (uR (zR R 98) 97 4 98) 99) 97 5 99) 100) := hF20.z rfl
  have hK28 : RK ((97, 6, 100) :: ((97, 5, 99) :: ((97, 4, 98) :: ([])))) (uR (zR (uR (zR (uR (zR R 98) 97 4 98) 99) 97 5 99) 100) 97 6 100) := hK26.u rfl
  have hF29 : FR 97 R (uR (zR (uR (zR (uR (zR R 98) 97 4 98) 99) 97 5 99) 100) 97 6 100) := hF27.u rfl
  refine ⟨rfl, ?_⟩
  have hB30 : BZ (zI (zI (zI (zI I 98) 99) 100) 101) := hB21.z
  have hZ31 : KI (zk_X11_init_1) (zI (zI (zI (zI I 98) 99) 100) 101) := hZ22.z rfl
  have hI32 : FI 97 I (zI (zI (zI (zI I 98) 99) 100) 101) := hI23.z rfl
  have hJ33 : FJ 97 J (zJ (zJ (zJ (zJ (uJ J 97 3 1) 98) 99) 100) 101) := hJ24.z rfl
  have jz34 : (zJ (zJ (zJ (zJ (uJ J 97 3 1) 98) 99) 100) 101) 47 0 = 0 := JZ.z jz25 rfl
  have hK35 : RK ((97, 6, 100) :: ((97, 5, 99) :: ((97, 4, 98) :: ([])))) (zR (uR (zR (uR (zR (uR (zR R 98) 97 4 98) 99) 97 5 99) 100) 97 6 100) 101) := hK28.z rfl
  have hF36 : FR 97 R (zR (uR (zR (uR (zR (uR (zR R 98) 97 4 98) 99) 97 5 99) 100) 97 6 100) 101) := hF29.z rfl
  have hK37 : RK ((97, 7, 101) :: ((97, 6, 100) :: ((97, 5, 99) :: ((97, 4, 98) :: ([]))))) (uR (zR (uR (zR (uR (zR (uR (zR R 98) 97 4 98) 99) 97 5 99) 100) 97 6 100) 101) 97 7 101) := hK35.u rfl
  have hF38 : FR 97 R (uR (zR (uR (zR (uR (zR (uR (zR R 98) 97 4 98) 99) 97 5 99) 100) 97 6 100) 101) 97 7 101) := hF36.u rfl
  have hB39 : BZ (uI (zI (zI (zI (zI I 98) 99) 100) 101) 97 10 (-1)) := hB30.kw rfl rfl
  have hZ40 : KI (zk_X11_init_1) (uI (zI (zI (zI (zI I 98) 99) 100) 101) 97 10 (-1)) := hZ31.w rfl
  have hI41 : FI 97 I (uI (zI (zI (zI (zI I 98) 99) 100) 101) 97 10 (-1)) := hI32.w rfl
  have hB42 : BZ (uI (uI (zI (zI (zI (zI I 98) 99) 100) 101) 97 10 (-1)) 97 11 (-1)) := hB39.kw rfl rfl
  have hZ43 : KI (zk_X11_init_1) (uI (uI (zI (zI (zI (zI I 98) 99) 100) 101) 97 10 (-1)) 97 11 (-1)) := hZ40.w rfl
  have hI44 : FI 97 I (uI (uI (zI (zI (zI (zI I 98) 99) 100) 101) 97 10 (-1)) 97 11 (-1)) := hI41.w rfl
  refine ⟨rfl, ?_⟩
  have hB45 : BZ (zI (uI (uI (zI (zI (zI (zI I 98) 99) 100) 101) 97 10 (-1)) 97 11 (-1)) 102) := hB42.z
  have hZ46 : KI (zk_X11_init_1) (zI (uI (uI (zI (zI (zI (zI I 98) 99) 100) 101) 97 10 (-1)) 97 11 (-1)) 102) := hZ43.z rfl
  have hI47 : FI 97 I (zI (uI (uI (zI (zI (zI (zI I 98) 99) 100) 101) 97 10 (-1)) 97 11 (-1)) 102) := hI44.z rfl
  have hJ48 : FJ 97 J (zJ (zJ (zJ (zJ (zJ (uJ J 97 3 1) 98) 99) 100) 101) 102) := hJ33.z rfl
  have jz49 : (zJ (zJ (zJ (zJ (zJ (uJ J 97 3 1) 98) 99) 100) 101) 102) 47 0 = 0 := JZ.z jz34 rfl
  have hK50 : RK ((97, 7, 101) :: ((97, 6, 100) :: ((97, 5, 99) :: ((97, 4, 98) :: ([]))))) (zR (uR (zR (uR (zR (uR (zR (uR (zR R 98) 97 4 98) 99) 97 5 99) 100) 97 6 100) 101) 97 7 101) 102) := hK37.z rfl
  have hF51 : FR 97 R (zR (uR (zR (uR (zR (uR (zR (uR (zR R 98) 97 4 98) 99) 97 5 99) 100) 97 6 100) 101) 97 7 101) 102) := hF38.z rfl
  have hK52 : RK ((97, 20, 102) :: ((97, 7, 101) :: ((97, 6, 100) :: ((97, 5, 99) :: ((97, 4, 98) :: ([])))))) (uR (zR (uR (zR (uR (zR (uR (zR (uR (zR R 98) 97 4 98) 99) 97 5 99) 100) 97 6 100) 101) 97 7 101) 102) 97 20 102) := hK50.u rfl
  have hF53 : FR 97 R (uR (zR (uR (zR (uR (zR (uR (zR (uR (zR R 98) 97 4 98) 99) 97 5 99) 100) 97 6 100) 101) 97 7 101) 102) 97 20 102) := hF51.u rfl
  refine ⟨rfl, ?_⟩
  have hB54 : BZ (zI (zI (uI (uI (zI (zI (zI (zI I 98) 99) 100) 101) 97 10 (-1)) 97 11 (-1)) 102) 103) := hB45.z
  have hZ55 : KI (zk_X11_init_1) (zI (zI (uI (uI (zI (zI (zI (zI I 98) 99) 100) 101) 97 10 (-1)) 97 11 (-1)) 102) 103) := hZ46.z rfl
  have hI56 : FI 97 I (zI (zI (uI (uI (zI (zI (zI (zI I 98) 99) 100) 101) 97 10 (-1)) 97 11 (-1)) 102) 103) := hI47.z rfl
  have hJ57 : FJ 97 J (zJ (zJ (zJ (zJ (zJ (zJ (uJ J 97 3 1) 98) 99) 100) 101) 102) 103) := hJ48.z rfl
  have jz58 : (zJ (zJ (zJ (zJ (zJ (zJ (uJ J 97 3 1) 98) 99) 100) 101) 102) 103) 47 0 = 0 := JZ.z jz49 rfl
  have hK59 : RK ((97, 20, 102) :: ((97, 7, 101) :: ((97, 6, 100) :: ((97, 5, 99) :: ((97, 4, 98) :: ([])))))) (zR (uR (zR (uR (zR (uR (zR (uR (zR (uR (zR R 98) 97 4 98) 99) 97 5 99) 100) 97 6 100) 101) 97 7 101) 102) 97 20 102) 103) := hK52.z rfl
  have hF60 : FR 97 R (zR (uR (zR (uR (zR (uR (zR (uR (zR (uR (zR R 98) 97 4 98) 99) 97 5 99) 100) 97 6 100) 101) 97 7 101) 102) 97 20 102) 103) := hF53.z rfl
  have hK61 : RK ((97, 21, 103) :: ((97, 20, 102) :: ((97, 7, 101) :: ((97, 6, 100) :: ((97, 5, 99) :: ((97, 4, 98) :: ([]))))))) (uR (zR (uR (zR (uR (zR (uR (zR (uR (zR (uR (zR R 98) 97 4 98) 99) 97 5 99) 100) 97 6 100) 101) 97 7 101) 102) 97 20 102) 103) 97 21 103) := hK59.u rfl
  have hF62 : FR 97 R (uR (zR (uR (zR (uR (zR (uR (zR (uR (zR (uR (zR R 98) 97 4 98) 99) 97 5 99) 100) 97 6 100) 101) 97 7 101) 102) 97 20 102) 103) 97 21 103) := hF60.u rfl
  refine ⟨rfl, ?_⟩
  have hB63 : BZ (zI (zI (zI (uI (uI (zI (zI (zI (zI I 98) 99) 100) 101) 97 10 (-1)) 97 11 (-1)) 102) 103) 104) := hB54.z
  have hZ64 : KI (zk_X11_init_1) (zI (zI (zI (uI (uI (zI (zI (zI (zI I 98) 99) 100) 101) 97 10 (-1)) 97 11 (-1)) 102) 103) 104) := hZ55.z rfl
  have hI65 : FI 97 I (zI (zI (zI (uI (uI (zI (zI (zI (zI I 98) 99) 100) 101) 97 10 (-1)) 97 11 (-1)) 102) 103) 104) := hI56.z rfl
  have hJ66 : FJ 97 J (zJ (zJ (zJ (zJ (zJ (zJ (zJ (uJ J 97 3 1) 98) 99) 100) 101) 102) 103) 104) := hJ57.z rfl
  have jz67 : (zJ (zJ (zJ (zJ (zJ (zJ (zJ (uJ J 97 3 1) 98) 99) 100) 101) 102) 103) 104) 47 0 = 0 := JZ.z jz58 rfl
  have hK68 : RK ((97, 21, 103) :: ((97, 20, 102) :: ((97, 7, 101) :: ((97, 6, 100) :: ((97, 5, 99) :: ((97, 4, 98) :: ([]))))))) (zR (uR (zR (uR (zR (uR (zR (uR (zR (uR (zR (uR (zR R 98) 97 4 98) 99) 97 5 99) 100) 97 6 100) 101) 97 7 101) 102) 97 20 102) 103) 97 21 103) 104) := hK61.z rfl
  have hF69 : FR 97 R (zR (uR (zR (uR (zR (uR (zR (uR (zR (uR (zR (uR (zR R 98) 97 4 98) 99) 97 5 99) 100) 97 6 100) 101) 97 7 101) 102) 97 20 102) 103) 97 21 103) 104) := hF62.z rfl
  have hK70 : RK ((97, 22, 104) :: ((97, 21, 103) :: ((97, 20, 102) :: ((97, 7, 101) :: ((97, 6, 100) :: ((97, 5, 99) :: ((97, 4, 98) :: ([])))))))) (uR (zR (uR (zR (uR (zR (uR (zR (uR (zR (uR (zR (uR (zR R 98) 97 4 98) 99) 97 5 99) 100) 97 6 100) 101) 97 7 101) 102) 97 20 102) 103) 97 21 103) 104) 97 22 104) := hK68.u rfl
  have hF71 : FR 97 R (uR (zR (uR (zR (uR (zR (uR (zR (uR (zR (uR (zR (uR (zR R 98) 97 4 98) 99) 97 5 99) 100) 97 6 100) 101) 97 7 101) 102) 97 20 102) 103) 97 21 103) 104) 97 22 104) := hF69.u rfl
  refine ⟨rfl, ?_⟩
  have hB72 : BZ (zI (zI (zI (zI (uI (uI (zI (zI (zI (zI I 98) 99) 100) 101) 97 10 (-1)) 97 11 (-1)) 102) 103) 104) 105) := hB63.z
  have hZ73 : KI (zk_X11_init_1) (zI (zI (zI (zI (uI (uI (zI (zI (zI (zI I 98) 99) 100) 101) 97 10 (-1)) 97 11 (-1)) 102) 103) 104) 105) := hZ64.z rfl
  have hI74 : FI 97 I (zI (zI (zI (zI (uI (uI (zI (zI (zI (zI I 98) 99) 100) 101) 97 10 (-1)) 97 11 (-1)) 102) 103) 104) 105) := hI65.z rfl
  have hJ75 : FJ 97 J (zJ (zJ (zJ (zJ (zJ (zJ (zJ (zJ (uJ J 97 3 1) 98) 99) 100) 101) 102) 103) 104) 105) := hJ66.z rfl
  have jz76 : (zJ (zJ (zJ (zJ (zJ (zJ (zJ (zJ (uJ J 97 3 1) 98) 99) 100) 101) 102) 103) 104) 105) 47 0 = 0 := JZ.z jz67 rfl
  have hK77 : RK ((97, 22, 104) :: ((97, 21, 103) :: ((97, 20, 102) :: ((97, 7, 101) :: ((97, 6, 100) :: ((97, 5, 99) :: ((97, 4, 98) :: ([])))))))) (zR (uR (zR (uR (zR (uR (zR (uR (zR (uR (zR (uR (zR (uR (zR R 98) 97 4 98) 99) 97 5 99) 100) 97 6 100) 101) 97 7 101) 102) 97 20 102) 103) 97 21 103) 104) 97 22 104) 105) := hK70.z rfl
  have hF78 : FR 97 R (zR (uR (zR (uR (zR (uR (zR (uR (zR (uR (zR (uR (zR (uR (zR R 98) 97 4 98) 99) 97 5 99) 100) 97 6 100) 101) 97 7 101) 102) 97 20 102) 103) 97 21 103) 104) 97 22 104) 105) := hF71.z rfl
  have hK79 : RK ((97, 28, 105) :: ((97, 22, 104) :: ((97, 21, 103) :: ((97, 20, 102) :: ((97, 7, 101) :: ((97, 6, 100) :: ((97, 5, 99) :: ((97, 4, 98) :: ([]))))))))) (uR (zR (uR (zR (uR (zR (uR (zR (uR (zR (uR (zR (uR (zR (uR (zR R 98) 97 4 98) 99) 97 5 99) 100) 97 6 100) 101) 97 7 101) 102) 97 20 102) 103) 97 21 103) 104) 97 22 104) 105) 97 28 105) := hK77.u rfl
  have hF80 : FR 97 R (uR (zR (uR (zR (uR (zR (uR (zR (uR (zR (uR (zR (uR (zR (uR (zR R 98) 97 4 98) 99) 97 5 99) 100) 97 6 100) 101) 97 7 101) 102) 97 20 102) 103) 97 21 103) 104) 97 22 104) 105) 97 28 105) := hF78.u rfl
  refine ⟨rfl, ?_⟩
  have hB81 : BZ (zI (zI (zI (zI (zI (uI (uI (zI (zI (zI (zI I 98) 99) 100) 101) 97 10 (-1)) 97 11 (-1)) 102) 103) 104) 105) 106) := hB72.z
  have hZ82 : KI (zk_X11_init_1) (zI (zI (zI (zI (zI (uI (uI (zI (zI (zI (zI I 98) 99) 100) 101) 97 10 (-1)) 97 11 (-1)) 102) 103) 104) 105) 106) := hZ73.z rfl
  have hI83 : FI 97 I (zI (zI (zI (zI (zI (uI (uI (zI (zI (zI (zI I 98) 99) 100) 101) 97 10 (-1)) 97 11 (-1)) 102) 103) 104) 105) 106) := hI74.z rfl
  have hJ84 : FJ 97 J (zJ (zJ (zJ (zJ (zJ (zJ (zJ (zJ (zJ (uJ J 97 3 1) 98) 99) 100) 101) 102) 103) 104) 105) 106) := hJ75.z rfl
  have jz85 : (zJ (zJ (zJ (zJ (zJ (zJ (zJ (zJ (zJ (uJ J 97 3 1) 98) 99) 100) 101) 102) 103) 104) 105) 106) 47 0 = 0 := JZ.z jz76 rfl
  have hK86 : RK ((97, 28, 105) :: ((97, 22, 104) :: ((97, 21, 103) :: ((97, 20, 102) :: ((97, 7, 101) :: ((97, 6, 100) :: ((97, 5, 99) :: ((97, 4, 98) :: ([]))))))))) (zR (uR (zR (uR (zR (uR (zR (uR (zR (uR (zR (uR (zR (uR (zR (uR (zR R 98) 97 4 98) 99) 97 5 99) 100) 97 6 100) 101) 97 7 101) 102) 97 20 102) 103) 97 21 103) 104) 97 22 104) 105) 97 28 105) 106) := hK79.z rfl
  have hF87 : FR 97 R (zR (uR (zR (uR (zR (uR (zR (uR (zR (uR (zR (uR (zR (uR (zR (uR (zR R 98) 97 4 98) 99) 97 5 99) 100) 97 6 100) 101) 97 7 101) 102) 97 20 102) 103) 97 21 103) 104) 97 22 104) 105) 97 28 105) 106) := hF80.z rfl
  have hK88 : RK ((97, 29, 106) :: ((97, 28, 105) :: ((97, 22, 104) :: ((97, 21, 103) :: ((97, 20, 102) :: ((97, 7, 101) :: ((97, 6, 100) :: ((97, 5, 99) :: ((97, 4, 98) :: ([])))))))))) (uR (zR (uR (zR (uR (zR (uR (zR (uR (zR (uR (zR (uR (zR (uR (zR (uR (zR R 98) 97 4 98) 99) 97 5 99) 100) 97 6 100) 101) 97 7 101) 102) 97 20 102) 103) 97 21 103) 104) 97 22 104) 105) 97 28 105) 106) 97 29 106) := hK86.u rfl
  have hF89 : FR 97 R (uR (zR (uR (zR (uR (zR (uR (zR (uR (zR (uR (zR (uR (zR (uR (zR (uR (zR R 98) 97 4 98) 99) 97 5 99) 100) 97 6 100) 101) 97 7 101) 102) 97 20 102) 103) 97 21 103) 104) 97 22 104) 105) 97 28 105) 106) 97 29 106) := hF87.u rfl
  refine ⟨rfl, ?_⟩
  have hB90 : BZ (zI (zI (zI (zI (zI (zI (uI (uI (zI (zI (zI (zI I 98) 99) 100) 101) 97 10 (-1)) 97 11 (-1)) 102) 103) 104) 105) 106) 107) := hB81.z
  have hZ91 : KI (zk_X11_init_1) (zI (zI (zI (zI (zI (zI (uI (uI (zI (zI (zI (zI I 98) 99) 100) 101) 97 10 (-1)) 97 11 (-1)) 102) 103) 104) 105) 106) 107) := hZ82.z rfl
  have hI92 : FI 97 I (zI (zI (zI (zI (zI (zI (uI (uI (zI (zI (zI (zI I 98) 99) 100) 101) 97 10 (-1)) 97 11 (-1)) 102) 103) 104) 105) 106) 107) := hI83.z rfl
  have hJ93 : FJ 97 J (zJ (zJ (zJ (zJ (zJ (zJ (zJ (zJ (zJ (zJ (uJ J 97 3 1) 98) 99) 100) 101) 102) 103) 104) 105) 106) 107) := hJ84.z rfl
  have jz94 : (zJ (zJ (zJ (zJ (zJ (zJ (zJ (zJ (zJ (zJ (uJ J 97 3 1) 98) 99) 100) 101) 102) 103) 104) 105) 106) 107) 47 0 = 0 := JZ.z jz85 rfl
  have hK95 : RK ((97, 29, 106) :: ((97, 28, 105) :: ((97, 22, 104) :: ((97, 21, 103) :: ((97, 20, 102) :: ((97, 7, 101) :: ((97, 6, 100) :: ((97, 5, 99) :: ((97, 4, 98) :: ([])))))))))) (zR (uR (zR (uR (zR (uR (zR (uR (zR (uR (zR (uR (zR (uR (zR (uR (zR (uR (zR R 98) 97 4 98) 99) 97 5 99) 100) 97 6 100) 101) 97 7 101) 102) 97 20 102) 103) 97 21 103) 104) 97 22 104) 105) 97 28 105) 106) 97 29 106) 107) := hK88.z rfl
  have hF96 : FR 97 R (zR (uR (zR (uR (zR (uR (zR (uR (zR (uR (zR (uR (zR (uR (zR (uR (zR (uR (zR R 98) 97 4 98) 99) 97 5 99) 100) 97 6 100) 101) 97 7 101) 102) 97 20 102) 103) 97 21 103) 104) 97 22 104) 105) 97 28 105) 106) 97 29 106) 107) := hF89.z rfl
  have hK97 : RK ((97, 30, 107) :: ((97, 29, 106) :: ((97, 28, 105) :: ((97, 22, 104) :: ((97, 21, 103) :: ((97, 20, 102) :: ((97, 7, 101) :: ((97, 6, 100) :: ((97, 5, 99) :: ((97, 4, 98) :: ([]))))))))))) (uR (zR (uR (zR (uR (zR (uR (zR (uR (zR (uR (zR (uR (zR (uR (zR (uR (zR (uR (zR R 98) 97 4 98) 99) 97 5 99) 100) 97 6 100) 101) 97 7 101) 102) 97 20 102) 103) 97 21 103) 104) 97 22 104) 105) 97 28 105) 106) 97 29 106) 107) 97 30 107) := hK95.u rfl
  have hF98 : FR 97 R (uR (zR (uR (zR (uR (zR (uR (zR (uR (zR (uR (zR (uR (zR (uR (zR (uR (zR (uR (zR R 98) 97 4 98) 99) 97 5 99) 100) 97 6 100) 101) 97 7 101) 102) 97 20 102) 103) 97 21 103) 104) 97 22 104) 105) 97 28 105) 106) 97 29 106) 107) 97 30 107) := hF96.u rfl
  refine ⟨rfl, ?_⟩
  have hB99 : BZ (zI (zI (zI (zI (zI (zI (zI (uI (uI (zI (zI (zI (zI I 98) 99) 100) 101) 97 10 (-1)) 97 11 (-1)) 102) 103) 104) 105) 106) 107) 108) := hB90.z
  have hZ100 : KI (zk_X11_init_1) (zI (zI (zI (zI (zI (zI (zI (uI (uI (zI (zI (zI (zI I 98) 99) 100) 101) 97 10 (-1)) 97 11 (-1)) 102) 103) 104) 105) 106) 107) 108) := hZ91.z rfl
  have hI101 : FI 97 I (zI (zI (zI (zI (zI (zI (zI (uI (uI (zI (zI (zI (zI I 98) 99) 100) 101) 97 10 (-1)) 97 11 (-1)) 102) 103) 104) 105) 106) 107) 108) := hI92.z rfl
  have hJ102 : FJ 97 J (zJ (zJ (zJ (zJ (zJ (zJ (zJ (zJ (zJ (zJ (zJ (uJ J 97 3 1) 98) 99) 100) 101) 102) 103) 104) 105) 106) 107) 108) := hJ93.z rfl
  have jz103 : (zJ (zJ (zJ (zJ (zJ (zJ (zJ (zJ (zJ (zJ (zJ (uJ J 97 3 1) 98) 99) 100) 101) 102) 103) 104) 105) 106) 107) 108) 47 0 = 0 := JZ.z jz94 rfl
  have hK104 : RK ((97, 30, 107) :: ((97, 29, 106) :: ((97, 28, 105) :: ((97, 22, 104) :: ((97, 21, 103) :: ((97, 20, 102) :: ((97, 7, 101) :: ((97, 6, 100) :: ((97, 5, 99) :: ((97, 4, 98) :: ([]))))))))))) (zR (uR (zR (uR (zR (uR (zR (uR (zR (uR (zR (uR (zR (uR (zR (uR (zR (uR (zR (uR (zR R 98) 97 4 98) 99) 97 5 99) 100) 97 6 100) 101) 97 7 101) 102) 97 20 102) 103) 97 21 103) 104) 97 22 104) 105) 97 28 105) 106) 97 29 106) 107) 97 30 107) 108) := hK97.z rfl
  have hF105 : FR 97 R (zR (uR (zR (uR (zR (uR (zR (uR (zR (uR (zR (uR (zR (uR (zR (uR (zR (uR (zR (uR (zR R 98) 97 4 98) 99) 97 5 99) 100) 97 6 100) 101) 97 7 101) 102) 97 20 102) 103) 97 21 103) 104) 97 22 104) 105) 97 28 105) 106) 97 29 106) 107) 97 30 107) 108) := hF98.z rfl
  have hK106 : RK ((97, 35, 108) :: ((97, 30, 107) :: ((97, 29, 106) :: ((97, 28, 105) :: ((97, 22, 104) :: ((97, 21, 103) :: ((97, 20, 102) :: ((97, 7, 101) :: ((97, 6, 100) :: ((97, 5, 99) :: ((97, 4, 98) :: ([])))))))))))) (uR (zR (uR (zR (uR (zR (uR (zR (uR (zR (uR (zR (uR (zR (uR (zR (uR (zR (uR (zR (uR (zR R 98) 97 4 98) 99) 97 5 99) 100) 97 6 100) 101) 97 7 101) 102) 97 20 102) 103) 97 21 103) 104) 97 22 104) 105) 97 28 105) 106) 97 29 106) 107) 97 30 107) 108) 97 35 108) := hK104.u rfl
  have hF107 : FR 97 R (uR (zR (uR (zR (uR (zR (uR (zR (uR (zR (uR (zR (uR (zR (uR (zR (uR (zR (uR (zR (uR (zR R 98) 97 4 98) 99) 97 5 99) 100) 97 6 100) 101) 97 7 101) 102) 97 20 102) 103) 97 21 103) 104) 97 22 104) 105) 97 28 105) 106) 97 29 106) 107) 97 30 107) 108) 97 35 108) := hF105.u rfl
  refine ⟨rfl, ?_⟩
  have hB108 : BZ (zI (zI (zI (zI (zI (zI (zI (zI (uI (uI (zI (zI (zI (zI I 98) 99) 100) 101) 97 10 (-1)) 97 11 (-1)) 102) 103) 104) 105) 106) 107) 108) 109) := hB99.z
  have hZ109 : KI (zk_X11_init_1) (zI (zI (zI (zI (zI (zI (zI (zI (uI (uI (zI (zI (zI (zI I 98) 99) 100) 101) 97 10 (-1)) 97 11 (-1)) 102) 103) 104) 105) 106) 107) 108) 109) := hZ100.z rfl
  have hI110 : FI 97 I (zI (zI (zI (zI (zI (zI (zI (zI (uI (uI (zI (zI (zI (zI I 98) 99) 100) 101) 97 10 (-1)) 97 11 (-1)) 102) 103) 104) 105) 106) 107) 108) 109) := hI101.z rfl
  have hJ111 : FJ 97 J (zJ (zJ (zJ (zJ (zJ (zJ (zJ (zJ (zJ (zJ (zJ (zJ (uJ J 97 3 1) 98) 99) 100) 101) 102) 103) 104) 105) 106) 107) 108) 109) := hJ102.z rfl
  have jz112 : (zJ (zJ (zJ (zJ (zJ (zJ (zJ (zJ (zJ (zJ (zJ (zJ (uJ J 97 3 1) 98) 99) 100) 101) 102) 103) 104) 105) 106) 107) 108) 109) 47 0 = 0 := JZ.z jz103 rfl
  have hK113 : RK ((97, 35, 108) :: ((97, 30, 107) :: ((97, 29, 106) :: ((97, 28, 105) :: ((97, 22, 104) :: ((97, 21, 103) :: ((97, 20, 102) :: ((97, 7, 101) :: ((97, 6, 100) :: ((97, 5, 99) :: ((97, 4, 98) :: ([])))))))))))) (zR (uR (zR (uR (zR (uR (zR (uR (zR (uR (zR (uR (zR (uR (zR (uR (zR (uR (zR (uR (zR (uR (zR R 98) 97 4 98) 99) 97 5 99) 100) 97 6 100) 101) 97 7 101) 102) 97 20 102) 103) 97 21 103) 104) 97 22 104) 105) 97 28 105) 106) 97 29 106) 107) 97 30 107) 108) 97 35 108) 109) := hK106.z rfl
  have hF114 : FR 97 R (zR (uR (zR (uR (zR (uR (zR (uR (zR (uR (zR (uR (zR (uR (zR (uR (zR (uR (zR (uR (zR (uR (zR R 98) 97 4 98) 99) 97 5 99) 100) 97 6 100) 101) 97 7 101) 102) 97 20 102) 103) 97 21 103) 104) 97 22 104) 105) 97 28 105) 106) 97 29 106) 107) 97 30 107) 108) 97 35 108) 109) := hF107.z rfl
  have hK115 : RK ((97, 36, 109) :: ((97, 35, 108) :: ((97, 30, 107) :: ((97, 29, 106) :: ((97, 28, 105) :: ((97, 22, 104) :: ((97, 21, 103) :: ((97, 20, 102) :: ((97, 7, 101) :: ((97, 6, 100) :: ((97, 5, 99) :: ((97, 4, 98) :: ([]))))))))))))) (uR (zR (uR (zR (uR (zR (uR (zR (uR (zR (uR (zR (uR (zR (uR (zR (uR (zR (uR (zR (uR (zR (uR (zR R 98) 97 4 98) 99) 97 5 99) 100) 97 6 100) 101) 97 7 101) 102) 97 20 102) 103) 97 21 103) 104) 97 22 104) 105) 97 28 105) 106) 97 29 106) 107) 97 30 107) 108) 97 35 108) 109) 97 36 109) := hK113.u rfl
  have hF116 : FR 97 R (uR (zR (uR (zR (uR (zR (uR (zR (uR (zR (uR (zR (uR (zR (uR (zR (uR (zR (uR (zR (uR (zR (uR (zR R 98) 97 4 98) 99) 97 5 99) 100) 97 6 100) 101) 97 7 101) 102) 97 20 102) 103) 97 21 103) 104) 97 22 104) 105) 97 28 105) 106) 97 29 106) 107) 97 30 107) 108) 97 35 108) 109) 97 36 109) := hF114.u rfl
  refine ⟨rfl, ?_⟩
  have hB117 : BZ (zI (zI (zI (zI (zI (zI (zI (zI (zI (uI (uI (zI (zI (zI (zI I 98) 99) 100) 101) 97 10 (-1)) 97 11 (-1)) 102) 103) 104) 105) 106) 107) 108) 109) 110) := hB108.z
  have hZ118 : KI (zk_X11_init_1) (zI (zI (zI (zI (zI (zI (zI (zI (zI (uI (uI (zI (zI (zI (zI I 98) 99) 100) 101) 97 10 (-1)) 97 11 (-1)) 102) 103) 104) 105) 106) 107) 108) 109) 110) := hZ109.z rfl
  have hI119 : FI 97 I (zI (zI (zI (zI (zI (zI (zI (zI (zI (uI (uI (zI (zI (zI (zI I 98) 99) 100) 101) 97 10 (-1)) 97 11 (-1)) 102) 103) 104) 105) 106) 107) 108) 109) 110) := hI110.z rfl
  have hJ120 : FJ 97 J (zJ (zJ (zJ (zJ (zJ (zJ (zJ (zJ (zJ (zJ (zJ (zJ (zJ (uJ J 97 3 1) 98) 99) 100) 101) 102) 103) 104) 105) 106) 107) 108) 109) 110) := hJ111.z rfl
  have jz121 : (zJ (zJ (zJ (zJ (zJ (zJ (zJ (zJ (zJ (zJ (zJ (zJ (zJ (uJ J 97 3 1) 98) 99) 100) 101) 102) 103) 104) 105) 106) 107) 108) 109) 110) 47 0 = 0 := JZ.z jz112 rfl
  have hK122 : RK ((97, 36, 109) :: ((97, 35, 108) :: ((97, 30, 107) :: ((97, 29, 106) :: ((97, 28, 105) :: ((97, 22, 104) :: ((97, 21, 103) :: ((97, 20, 102) :: ((97, 7, 101) :: ((97, 6, 100) :: ((97, 5, 99) :: ((97, 4, 98) :: ([]))))))))))))) (zR (uR (zR (uR (zR (uR (zR (uR (zR (uR (zR (uR (zR (uR (zR (uR (zR (uR (zR (uR (zR (uR (zR (uR (zR R 98) 97 4 98) 99) 97 5 99) 100) 97 6 100) 101) 97 7 101) 102) 97 20 102) 103) 97 21 103) 104) 97 22 104) 105) 97 28 105) 106) 97 29 106) 107) 97 30 107) 108) 97 35 108) 109) 97 36 109) 110) := hK115.z rfl
  have hF123 : FR 97 R (zR (uR (zR (uR (zR (uR (zR (uR (zR (uR (zR (uR (zR (uR (zR (uR (zR (uR (zR (uR (zR (uR (zR (uR (zR R 98) 97 4 98) 99) 97 5 99) 100) 97 6 100) 101) 97 7 101) 102) 97 20 102) 103) 97 21 103) 104) 97 22 104) 105) 97 28 105) 106) 97 29 106) 107) 97 30 107) 108) 97 35 108) 109) 97 36 109) 110) := hF116.z rfl
  have hK124 : RK ((97, 37, 110) :: ((97, 36, 109) :: ((97, 35, 108) :: ((97, 30, 107) :: ((97, 29, 106) :: ((97, 28, 105) :: ((97, 22, 104) :: ((97, 21, 103) :: ((97, 20, 102) :: ((97, 7, 101) :: ((97, 6, 100) :: ((97, 5, 99) :: ((97, 4, 98) :: ([])))))))))))))) (uR (zR (uR (zR (uR (zR (uR (zR (uR (zR (uR (zR (uR (zR (uR (zR (uR (zR (uR (zR (uR (zR (uR (zR (uR (zR R 98) 97 4 98) 99) 97 5 99) 100) 97 6 100) 101) 97 7 101) 102) 97 20 102) 103) 97 21 103) 104) 97 22 104) 105) 97 28 105) 106) 97 29 106) 107) 97 30 107) 108) 97 35 108) 109) 97 36 109) 110) 97 37 110) := hK122.u rfl
  have hF125 : FR 97 R (uR (zR (uR (zR (uR (zR (uR (zR (uR (zR (uR (zR (uR (zR (uR (zR (uR (zR (uR (zR (uR (zR (uR (zR (uR (zR R 98) 97 4 98) 99) 97 5 99) 100) 97 6 100) 101) 97 7 101) 102) 97 20 102) 103) 97 21 103) 104) 97 22 104) 105) 97 28 105) 106) 97 29 106) 107) 97 30 107) 108) 97 35 108) 109) 97 36 109) 110) 97 37 110) := hF123.u rfl
  refine ⟨rfl, ?_⟩
  have hB126 : BZ (zI (zI (zI (zI (zI (zI (zI (zI (zI (zI (uI (uI (zI (zI (zI (zI I 98) 99) 100) 101) 97 10 (-1)) 97 11 (-1)) 102) 103) 104) 105) 106) 107) 108) 109) 110) 111) := hB117.z
  have hZ127 : KI (zk_X11_init_1) (zI (zI (zI (zI (zI (zI (zI (zI (zI (zI (uI (uI (zI (zI (zI (zI I 98) 99) 100) 101) 97 10 (-1)) 97 11 (-1)) 102) 103) 104) 105) 106) 107) 108) 109) 110) 111) := hZ118.z rfl
  have hI128 : FI 97 I (zI (zI (zI (zI (zI (zI (zI (zI (zI (zI (uI (uI (zI (zI (zI (zI I 98) 99) 100) 101) 97 10 (-1)) 97 11 (-1)) 102) 103) 104) 105) 106) 107) 108) 109) 110) 111) := hI119.z rfl
  have hJ129 : FJ 97 J (zJ (zJ (zJ (zJ (zJ (zJ (zJ (zJ (zJ (zJ (zJ (zJ (zJ (zJ (uJ J 97 3 1) 98) 99) 100) 101) 102) 103) 104) 105) 106) 107) 108) 109) 110) 111) := hJ120.z rfl
  have jz130 : (zJ (zJ (zJ (zJ (zJ (zJ (zJ (zJ (zJ (zJ (zJ (zJ (zJ (zJ (uJ J 97 3 1) 98) 99) 100) 101) 102) 103) 104) 105) 106) 107) 108) 109) 110) 111) 47 0 = 0 := JZ.z jz121 rfl
  have hK131 : RK ((97, 37, 110) :: ((97, 36, 109) :: ((97, 35, 108) :: ((97, 30, 107) :: ((97, 29, 106) :: ((97, 28, 105) :: ((97, 22, 104) :: ((97, 21, 103) :: ((97, 20, 102) :: ((97, 7, 101) :: ((97, 6, 100) :: ((97, 5, 99) :: ((97, 4, 98) :: ([])))))))))))))) (zR (uR (zR (uR (zR (uR (zR (uR (zR (uR (zR (uR (zR (uR (zR (uR (zR (uR (zR (uR (zR (uR (zR (uR (zR (uR (zR R 98) 97 4 98) 99) 97 5 99) 100) 97 6 100) 101) 97 7 101) 102) 97 20 102) 103) 97 21 103) 104) 97 22 104) 105) 97 28 105) 106) 97 29 106) 107) 97 30 107) 108) 97 35 108) 109) 97 36 109) 110) 97 37 110) 111) := hK124.z rfl
  have hF132 : FR 97 R (zR (uR (zR (uR (zR (uR (zR (uR (zR (uR (zR (uR (zR (uR (zR (uR (zR (uR (zR (uR (zR (uR (zR (uR (zR (uR (zR R 98) 97 4 98) 99) 97 5 99) 100) 97 6 100) 101) 97 7 101) 102) 97 20 102) 103) 97 21 103) 104) 97 22 104) 105) 97 28 105) 106) 97 29 106) 107) 97 30 107) 108) 97 35 108) 109) 97 36 109) 110) 97 37 110) 111) := hF125.z rfl
  have hK133 : RK ((97, 38, 111) :: ((97, 37, 110) :: ((97, 36, 109) :: ((97, 35, 108) :: ((97, 30, 107) :: ((97, 29, 106) :: ((97, 28, 105) :: ((97, 22, 104) :: ((97, 21, 103) :: ((97, 20, 102) :: ((97, 7, 101) :: ((97, 6, 100) :: ((97, 5, 99) :: ((97, 4, 98) :: ([]))))))))))))))) (uR (zR (uR (zR (uR (zR (uR (zR (uR (zR (uR (zR (uR (zR (uR (zR (uR (zR (uR (zR (uR (zR (uR (zR (uR (zR (uR (zR R 98) 97 4 98) 99) 97 5 99) 100) 97 6 100) 101) 97 7 101) 102) 97 20 102) 103) 97 21 103) 104) 97 22 104) 105) 97 28 105) 106) 97 29 106) 107) 97 30 107) 108) 97 35 108) 109) 97 36 109) 110) 97 37 110) 111) 97 38 111) := hK131.u rfl
  have hF134 : FR 97 R (uR (zR (uR (zR (uR (zR (uR (zR (uR (zR (uR (zR (uR (zR (uR (zR (uR (zR (uR (zR (uR (zR (uR (zR (uR (zR (uR (zR R 98) 97 4 98) 99) 97 5 99) 100) 97 6 100) 101) 97 7 101) 102) 97 20 102) 103) 97 21 103) 104) 97 22 104) 105) 97 28 105) 106) 97 29 106) 107) 97 30 107) 108) 97 35 108) 109) 97 36 109) 110) 97 37 110) 111) 97 38 111) := hF132.u rfl
  refine ⟨rfl, ?_⟩
  have hB135 : BZ (zI (zI (zI (zI (zI (zI (zI (zI (zI (zI (zI (uI (uI (zI (zI (zI (zI I 98) 99) 100) 101) 97 10 (-1)) 97 11 (-1)) 102) 103) 104) 105) 106) 107) 108) 109) 110) 111) 112) := hB126.z
  have hZ136 : KI (zk_X11_init_1) (zI (zI (zI (zI (zI (zI (zI (zI (zI (zI (zI (uI (uI (zI (zI (zI (zI I 98) 99) 100) 101) 97 10 (-1)) 97 11 (-1)) 102) 103) 104) 105) 106) 107) 108) 109) 110) 111) 112) := hZ127.z rfl
  have hI137 : FI 97 I (zI (zI (zI (zI (zI (zI (zI (zI (zI (zI (zI (uI (uI (zI (zI (zI (zI I 98) 99) 100) 101) 97 10 (-1)) 97 11 (-1)) 102) 103) 104) 105) 106) 107) 108) 109) 110) 111) 112) := hI128.z rfl
  have hJ138 : FJ 97 J (zJ (zJ (zJ (zJ (zJ (zJ (zJ (zJ (zJ (zJ (zJ (zJ (zJ (zJ (zJ (uJ J 97 3 1) 98) 99) 100) 101) 102) 103) 104) 105) 106) 107) 108) 109) 110) 111) 112) := hJ129.z rfl
  have jz139 : (zJ (zJ (zJ (zJ (zJ (zJ (zJ (zJ (zJ (zJ (zJ (zJ (zJ (zJ (zJ (uJ J 97 3 1) 98) 99) 100) 101) 102) 103) 104) 105) 106) 107) 108) 109) 110) 111) 112) 47 0 = 0 := JZ.z jz130 rfl
  have hK140 : RK ((97, 38, 111) :: ((97, 37, 110) :: ((97, 36, 109) :: ((97, 35, 108) :: ((97, 30, 107) :: ((97, 29, 106) :: ((97, 28, 105) :: ((97, 22, 104) :: ((97, 21, 103) :: ((97, 20, 102) :: ((97, 7, 101) :: ((97, 6, 100) :: ((97, 5, 99) :: ((97, 4, 98) :: ([]))))))))))))))) (zR (uR (zR (uR (zR (uR (zR (uR (zR (uR (zR (uR (zR (uR (zR (uR (zR (uR (zR (uR (zR (uR (zR (uR (zR (uR (zR (uR (zR R 98) 97 4 98) 99) 97 5 99) 100) 97 6 100) 101) 97 7 101) 102) 97 20 102) 103) 97 21 103) 104) 97 22 104) 105) 97 28 105) 106) 97 29 106) 107) 97 30 107) 108) 97 35 108) 109) 97 36 109) 110) 97 37 110) 111) 97 38 111) 112) := hK133.z rfl
  have hF141 : FR 97 R (zR (uR (zR (uR (zR (uR (zR (uR (zR (uR (zR (uR (zR (uR (zR (uR (zR (uR (zR (uR (zR (uR (zR (uR (zR (uR (zR (uR (zR R 98) 97 4 98) 99) 97 5 99) 100) 97 6 100) 101) 97 7 101) 102) 97 20 102) 103) 97 21 103) 104) 97 22 104) 105) 97 28 105) 106) 97 29 106) 107) 97 30 107) 108) 97 35 108) 109) 97 36 109) 110) 97 37 110) 111) 97 38 111) 112) := hF134.z rfl
  have hK142 : RK ((97, 39, 112) :: ((97, 38, 111) :: ((97, 37, 110) :: ((97, 36, 109) :: ((97, 35, 108) :: ((97, 30, 107) :: ((97, 29, 106) :: ((97, 28, 105) :: ((97, 22, 104) :: ((97, 21, 103) :: ((97, 20, 102) :: ((97, 7, 101) :: ((97, 6, 100) :: ((97, 5, 99) :: ((97, 4, 98) :: ([])))))))))))))))) (uR (zR (uR (zR (uR (zR (uR (zR (uR (zR (uR (zR (uR (zR (uR (zR (uR (zR (uR (zR (uR (zR (uR (zR (uR (zR (uR (zR (uR (zR R 98) 97 4 98) 99) 97 5 99) 100) 97 6 100) 101) 97 7 101) 102) 97 20 102) 103) 97 21 103) 104) 97 22 104) 105) 97 28 105) 106) 97 29 106) 107) 97 30 107) 108) 97 35 108) 109) 97 36 109) 110) 97 37 110) 111) 97 38 111) 112) 97 39 112) := hK140.u rfl
  have hF143 : FR 97 R (uR (zR (uR (zR (uR (zR (uR (zR (uR (zR (uR (zR (uR (zR (uR (zR (uR (zR (uR (zR (uR (zR (uR (zR (uR (zR (uR (zR (uR (zR R 98) 97 4 98) 99) 97 5 99) 100) 97 6 100) 101) 97 7 101) 102) 97 20 102) 103) 97 21 103) 104) 97 22 104) 105) 97 28 105) 106) 97 29 106) 107) 97 30 107) 108) 97 35 108) 109) 97 36 109) 110) 97 37 110) 111) 97 38 111) 112) 97 39 112) := hF141.u rfl
  refine cs_X12_init_97_140_112 hc 0 _ _ _ ?_
  refine ⟨fun c => absurd c (by decide), fun _ => ?_⟩
  refine ⟨hK142.ne (show lkq ((97, 39, 112) :: ((97, 38, 111) :: ((97, 37, 110) :: ((97, 36, 109) :: ((97, 35, 108) :: ((97, 30, 107) :: ((97, 29, 106) :: ((97, 28, 105) :: ((97, 22, 104) :: ((97, 21, 103) :: ((97, 20, 102) :: ((97, 7, 101) :: ((97, 6, 100) :: ((97, 5, 99) :: ((97, 4, 98) :: ([])))))))))))))))) 97 5 = true from rfl), ?_⟩
  refine ⟨vp_of rfl (by decide) (by decide), ?_⟩
  have hB144 : BZ (uI (zI (zI (zI (zI (zI (zI (zI (zI (zI (zI (zI (uI (uI (zI (zI (zI (zI I 98) 99) 100) 101) 97 10 (-1)) 97 11 (-1)) 102) 103) 104) 105) 106) 107) 108) 109) 110) 111) 112) 99 (Int32.toNatClampNeg 0) (-1)) := hB135.kw rfl rfl
  have hZ145 : KI ((99, 0, -1) :: (zk_X11_init_1)) (uI (zI (zI (zI (zI (zI (zI (zI (zI (zI (zI (zI (uI (uI (zI (zI (zI (zI I 98) 99) 100) 101) 97 10 (-1)) 97 11 (-1)) 102) 103) 104) 105) 106) 107) 108) 109) 110) 111) 112) 99 (Int32.toNatClampNeg 0) (-1)) := hZ136.u rfl
  have hI146 : FI 97 I (uI (zI (zI (zI (zI (zI (zI (zI (zI (zI (zI (zI (uI (uI (zI (zI (zI (zI I 98) 99) 100) 101) 97 10 (-1)) 97 11 (-1)) 102) 103) 104) 105) 106) 107) 108) 109) 110) 111) 112) 99 (Int32.toNatClampNeg 0) (-1)) := hI137.w rfl
  refine cs_X12_init_97_140_112 hc (0 + 1) _ _ _ ?_
  refine ⟨fun c => absurd c (by decide), fun _ => ?_⟩
  refine ⟨hK142.ne (show lkq ((97, 39, 112) :: ((97, 38, 111) :: ((97, 37, 110) :: ((97, 36, 109) :: ((97, 35, 108) :: ((97, 30, 107) :: ((97, 29, 106) :: ((97, 28, 105) :: ((97, 22, 104) :: ((97, 21, 103) :: ((97, 20, 102) :: ((97, 7, 101) :: ((97, 6, 100) :: ((97, 5, 99) :: ((97, 4, 98) :: ([])))))))))))))))) 97 5 = true from rfl), ?_⟩
  refine ⟨vp_of rfl (by decide) (by decide), ?_⟩
  have hB147 : BZ (uI (uI (zI (zI (zI (zI (zI (zI (zI (zI (zI (zI (zI (uI (uI (zI (zI (zI (zI I 98) 99) 100) 101) 97 10 (-1)) 97 11 (-1)) 102) 103) 104) 105) 106) 107) 108) 109) 110) 111) 112) 99 (Int32.toNatClampNeg 0) (-1)) 99 (Int32.toNatClampNeg (0 + 1)) (-1)) := hB144.kw rfl rfl
  have hZ148 : KI ((99, 1, -1) :: ((99, 0, -1) :: (zk_X11_init_1))) (uI (uI (zI (zI (zI (zI (zI (zI (zI (zI (zI (zI (zI (uI (uI (zI (zI (zI (zI I 98) 99) 100) 101) 97 10 (-1)) 97 11 (-1)) 102) 103) 104) 105) 106) 107) 108) 109) 110) 111) 112) 99 (Int32.toNatClampNeg 0) (-1)) 99 (Int32.toNatClampNeg (0 + 1)) (-1)) := hZ145.u rfl
  have hI149 : FI 97 I (uI (uI (zI (zI (zI (zI (zI (zI (zI (zI (zI (zI (zI (uI (uI (zI (zI (zI (zI I 98) 99) 100) 101) 97 10 (-1)) 97 11 (-1)) 102) 103) 104) 105) 106) 107) 108) 109) 110) 111) 112) 99 (Int32.toNatClampNeg 0) (-1)) 99 (Int32.toNatClampNeg (0 + 1)) (-1)) := hI146.w rfl
  refine cs_X12_init_97_140_112 hc ((0 + 1) + 1) _ _ _ ?_
  refine ⟨fun c => absurd c (by decide), fun _ => ?_⟩
  refine ⟨hK142.ne (show lkq ((97, 39, 112) :: ((97, 38, 111) :: ((97, 37, 110) :: ((97, 36, 109) :: ((97, 35, 108) :: ((97, 30, 107) :: ((97, 29, 106) :: ((97, 28, 105) :: ((97, 22, 104) :: ((97, 21, 103) :: ((97, 20, 102) :: ((97, 7, 101) :: ((97, 6, 100) :: ((97, 5, 99) :: ((97, 4, 98) :: ([])))))))))))))))) 97 5 = true from rfl), ?_⟩
  refine ⟨vp_of rfl (by decide) (by decide), ?_⟩
  have hB150 : BZ (uI (uI (uI (zI (zI (zI (zI (zI (zI (zI (zI (zI (zI (zI (uI (uI (zI (zI (zI (zI I 98) 99) 100) 101) 97 10 (-1)) 97 11 (-1)) 102) 103) 104) 105) 106) 107) 108) 109) 110) 111) 112) 99 (Int32.toNatClampNeg 0) (-1)) 99 (Int32.toNatClampNeg (0 + 1)) (-1)) 99 (Int32.toNatClampNeg ((0 + 1) + 1)) (-1)) := hB147.kw rfl rfl
  have hZ151 : KI ((99, 2, -1) :: ((99, 1, -1) :: ((99, 0, -1) :: (zk_X11_init_1)))) (uI (uI (uI (zI (zI (zI (zI (zI (zI (zI (zI (zI (zI (zI (uI (uI (zI (zI (zI (zI I 98) 99) 100) 101) 97 10 (-1)) 97 11 (-1)) 102) 103) 104) 105) 106) 107) 108) 109) 110) 111) 112) 99 (Int32.toNatClampNeg 0) (-1)) 99 (Int32.toNatClampNeg (0 + 1)) (-1)) 99 (Int32.toNatClampNeg ((0 + 1) + 1)) (-1)) := hZ148.u rfl
  have hI152 : FI 97 I (uI (uI (uI (zI (zI (zI (zI (zI (zI (zI (zI (zI (zI (zI (uI (uI (zI (zI (zI (zI I 98) 99) 100) 101) 97 10 (-1)) 97 11 (-1)) 102) 103) 104) 105) 106) 107) 108) 109) 110) 111) 112) 99 (Int32.toNatClampNeg 0) (-1)) 99 (Int32.toNatClampNeg (0 + 1)) (-1)) 99 (Int32.toNatClampNeg ((0 + 1) + 1)) (-1)) := hI149.w rfl
  refine cs_X12_init_97_140_112 hc (((0 + 1) + 1) + 1) _ _ _ ?_
  refine ⟨fun c => absurd c (by decide), fun _ => ?_⟩
  refine ⟨hK142.ne (show lkq ((97, 39, 112) :: ((97, 38, 111) :: ((97, 37, 110) :: ((97, 36, 109) :: ((97, 35, 108) :: ((97, 30, 107) :: ((97, 29, 106) :: ((97, 28, 105) :: ((97, 22, 104) :: ((97, 21, 103) :: ((97, 20, 102) :: ((97, 7, 101) :: ((97, 6, 100) :: ((97, 5, 99) :: ((97, 4, 98) :: ([])))))))))))))))) 97 5 = true from rfl), ?_⟩
  refine ⟨vp_of rfl (by decide) (by decide), ?_⟩
  have hB153 : BZ (uI (uI (uI (uI (zI (zI (zI (zI (zI (zI (zI (zI (zI (zI (zI (uI (uI (zI (zI (zI (zI I 98) 99) 100) 101) 97 10 (-1)) 97 11 (-1)) 102) 103) 104) 105) 106) 107) 108) 109) 110) 111) 112) 99 (Int32.toNatClampNeg 0) (-1)) 99 (Int32.toNatClampNeg (0 + 1)) (-1)) 99 (Int32.toNatClampNeg ((0 + 1) + 1)) (-1)) 99 (Int32.toNatClampNeg (((0 + 1) + 1) + 1)) (-1)) := hB150.kw rfl rfl
  have hZ154 : KI ((99, 3, -1) :: ((99, 2, -1) :: ((99, 1, -1) :: ((99, 0, -1) :: (zk_X11_init_1))))) (uI (uI (uI (uI (zI (zI (zI (zI (zI (zI (zI (zI (zI (zI (zI (uI (uI (zI (zI (zI (zI I 98) 99) 100) 101) 97 10 (-1)) 97 11 (-1)) 102) 103) 104) 105) 106) 107) 108) 109) 110) 111) 112) 99 (Int32.toNatClampNeg 0) (-1)) 99 (Int32.toNatClampNeg (0 + 1)) (-1)) 99 (Int32.toNatClampNeg ((0 + 1) + 1)) (-1)) 99 (Int32.toNatClampNeg (((0 + 1) + 1) + 1)) (-1)) := hZ151.u rfl
  have hI155 : FI 97 I (uI (uI (uI (uI (zI (zI (zI (zI (zI (zI (zI (zI (zI (zI (zI (uI (uI (zI (zI (zI (zI I 98) 99) 100) 101) 97 10 (-1)) 97 11 (-1)) 102) 103) 104) 105) 106) 107) 108) 109) 110) 111) 112) 99 (Int32.toNatClampNeg 0) (-1)) 99 (Int32.toNatClampNeg (0 + 1)) (-1)) 99 (Int32.toNatClampNeg ((0 + 1) + 1)) (-1)) 99 (Int32.toNatClampNeg (((0 + 1) + 1) + 1)) (-1)) := hI152.w rfl
  refine cs_X12_init_97_140_112 hc ((((0 + 1) + 1) + 1) + 1) _ _ _ ?_
  refine ⟨fun _ => ?_, fun c => absurd (by decide) c⟩
  refine ⟨⟨fl_of (RK.app (show RK lk_X12_init_97 (uR (zR (uR (zR (uR (zR (uR (zR (uR (zR (uR (zR (uR (zR (uR (zR (uR (zR (uR (zR (uR (zR (uR (zR (uR (zR (uR (zR (uR (zR R 98) 97 4 98) 99) 97 5 99) 100) 97 6 100) 101) 97 7 101) 102) 97 20 102) 103) 97 21 103) 104) 97 22 104) 105) 97 28 105) 106) 97 29 106) 107) 97 30 107) 108) 97 35 108) 109) 97 36 109) 110) 97 37 110) 111) 97 38 111) 112) 97 39 112) from hK142) (RK.fr hL hF143 rfl)), rfl⟩, ?_⟩
  refine kp6 rfl (ri_of (RK.app (show RK lk_X12_init_97 (uR (zR (uR (zR (uR (zR (uR (zR (uR (zR (uR (zR (uR (zR (uR (zR (uR (zR (uR (zR (uR (zR (uR (zR (uR (zR (uR (zR (uR (zR R 98) 97 4 98) 99) 97 5 99) 100) 97 6 100) 101) 97 7 101) 102) 97 20 102) 103) 97 21 103) 104) 97 22 104) 105) 97 28 105) 106) 97 29 106) 107) 97 30 107) 108) 97 35 108) 109) 97 36 109) 110) 97 37 110) 111) 97 38 111) 112) 97 39 112) from hK142) (RK.fr hL hF143 rfl))) rfl (kp0 rfl (kp1 rfl (kp2 rfl (kp3 rfl (kp4 rfl (kp5 rfl (ri_of (RK.app (show RK lk_X12_init_97 (uR (zR (uR (zR (uR (zR (uR (zR (uR (zR (uR (zR (uR (zR (uR (zR (uR (zR (uR (zR (uR (zR (uR (zR (uR (zR (uR (zR (uR (zR R 98) 97 4 98) 99) 97 5 99) 100) 97 6 100) 101) 97 7 101) 102) 97 20 102) 103) 97 21 103) 104) 97 22 104) 105) 97 28 105) 106) 97 29 106) 107) 97 30 107) 108) 97 35 108) 109) 97 36 109) 110) 97 37 110) 111) 97 38 111) 112) 97 39 112) from hK142) (RK.fr hL hF143 rfl))) rfl (emp_b (b := 0) hB153.1 rfl (by decide) (fun x y I2 J2 hB2 _ k9 k4 k3 k2 k1 k0 k6 => ⟨rfl, fun z => absurd z (by decide), hQ _ _ _ hB2 hF143 hK142 ⟨?_, ?_, RT.kp (fun t ht => ?_) k4 k9, (congrFun k6 0).trans jz139⟩⟩))))))))
  · exact congrArg Int32.toInt ((k0.trans (hB153.at (by decide))).trans (k1.trans (hB153.at (by decide))).symm)
  · exact congrArg Int32.toInt ((k2.trans (hB153.at (by decide))).trans (k3.trans (hB153.at (by decide))).symm)
  · rcases (show t = 0 ∨ t = 1 ∨ t = 2 ∨ t = 3 by omega) with q | q | q | q <;> subst q
    · exact ⟨(hB153.at (o := 53) (by decide)).trans (hB153.at (o := 98) (by decide)).symm, (KI.at (o := 53) (k := 1) (v := -1) hZ154 (by decide +kernel)).trans (KI.at (o := 99) (k := 0) (v := -1) hZ154 (by decide +kernel)).symm⟩
    · exact ⟨(hB153.at (o := 55) (by decide)).trans (hB153.at (o := 98) (by decide)).symm, (KI.at (o := 55) (k := 1) (v := -1) hZ154 (by decide +kernel)).trans (KI.at (o := 99) (k := 1) (v := -1) hZ154 (by decide +kernel)).symm⟩
    · exact ⟨(hB153.at (o := 57) (by decide)).trans (hB153.at (o := 98) (by decide)).symm, (KI.at (o := 57) (k := 1) (v := -1) hZ154 (by decide +kernel)).trans (KI.at (o := 99) (k := 2) (v := -1) hZ154 (by decide +kernel)).symm⟩
    · exact ⟨(hB153.at (o := 59) (by decide)).trans (hB153.at (o := 98) (by decide)).symm, (KI.at (o := 59) (k := 1) (v := -1) hZ154 (by decide +kernel)).trans (KI.at (o := 99) (k := 3) (v := -1) hZ154 (by decide +kernel)).symm⟩
