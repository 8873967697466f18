/-! ===== what makes objects: bounds hold, the references lie as they are to ===== -/
noncomputable def okb (b : Option (Int × Int)) (v : Int) : Bool := match b with
  | none => true
  | some (lo, hi) => decide (lo ≤ v) && decide (v ≤ hi)
theorem okb_spec {b : Option (Int × Int)} {v lo hi : Int} (h : okb b v = true) (hb : b = some (lo, hi)) : lo ≤ v ∧ v ≤ hi := by
  subst hb
  unfold okb at h
  rw [Bool.and_eq_true, decide_eq_true_eq, decide_eq_true_eq] at h
  exact h
theorem Bd.kw {I : Im} (h : Bd I) {o k : Nat} {v : Int32} (hk : (okb (bnd (clsOf o) k) v.toInt && (okb (bna o) v.toInt && !(Nat.beq o 102))) = true) : Bd (uI I o k v) := by
  rw [Bool.and_eq_true, Bool.and_eq_true] at hk
  refine h.up (fun lo hi q => okb_spec hk.1 q) (fun lo hi q => okb_spec hk.2.1 q) (fun q => ?_)
  subst q; exact absurd hk.2.2 (by decide)
theorem bnd_0 {ci k : Nat} {lo hi : Int} (h : bnd ci k = some (lo, hi)) : lo ≤ 0 ∧ 0 ≤ hi := by
  unfold bnd at h
  split at h <;> first | (cases h; decide) | (cases h)
theorem bna_0 {a : Nat} {lo hi : Int} (h : bna a = some (lo, hi)) : lo ≤ 0 ∧ 0 ≤ hi := by
  unfold bna at h
  split at h <;> first | (cases h; decide) | (cases h)
theorem CK.zero : CK (fun _ => 0) := by
  have z0 : (0 : Int32).toInt = 0 := rfl
  refine ⟨fun j => ?_, fun c k hc hk => ?_, fun c s hc hd hs => absurd rfl hd⟩
  · show CB j (0 : Int32).toInt
    rw [z0]; unfold CB; omega
  · have : (k : Int) < (0 : Int32).toInt := hk
    omega
theorem Bd.z {I : Im} (h : Bd I) {a : Nat} : Bd (zI I a) := by
  have e : ∀ o, (zI I a o = fun _ => 0) ∨ zI I a o = I o := fun o => by
    by_cases q : o = a
    · exact Or.inl (if_pos q)
    · exact Or.inr (if_neg q)
  refine ⟨fun o k lo hi hb => ?_, fun o j lo hi hb => ?_, ?_⟩
  · rcases e o with q | q
    · rw [q]; exact bnd_0 hb
    · rw [q]; exact h.1 o k lo hi hb
  · rcases e o with q | q
    · rw [q]; exact bna_0 hb
    · rw [q]; exact h.2.1 o j lo hi hb
  · rcases e 102 with q | q
    · rw [q]; exact CK.zero
    · rw [q]; exact h.2.2
/-- the places that both sides have alike are 0 while the objects are made -/
noncomputable def ZP : List (Nat × Nat) := [(9, 4), (9, 3), (21, 0), (3, 1), (3, 3), (1, 13), (97, 8), (97, 23), (53, 0), (55, 0), (57, 0), (59, 0), (98, 0), (98, 1), (98, 2), (98, 3)]
noncomputable def BZ (I : Im) : Prop := Bd I ∧ (∀ q ∈ ZP, I q.1 q.2 = 0) ∧ ∀ k, I 4 k = 0 ∧ I 10 k = 0
theorem BZ.kw {I : Im} (h : BZ I) {o k : Nat} {v : Int32} (hk : (okb (bnd (clsOf o) k) v.toInt && (okb (bna o) v.toInt && !(Nat.beq o 102))) = true) (hz : ZP.all (fun q => !(Nat.beq q.1 o && Nat.beq q.2 k) || decide (v.toInt = 0)) = true) (h4 : (Nat.beq o 4 || Nat.beq o 10) = false) : BZ (uI I o k v) := by
  have n10 : ¬ (10 : Nat) = o := fun q => by subst q; exact absurd h4 (by decide)
  have n4 : ¬ (4 : Nat) = o := fun q => by subst q; exact absurd h4 (by decide)
  refine ⟨h.1.kw hk, fun q hq => ?_, fun k2 => by rw [uI_ne n4, uI_ne n10]; exact h.2.2 k2⟩
  have h1 := List.all_eq_true.mp hz q hq
  rw [Bool.or_eq_true, Bool.not_eq_true', decide_eq_true_eq] at h1
  by_cases ho : q.1 = o
  · by_cases hk2 : q.2 = k
    · rcases h1 with h1 | h1
      · rw [ho, hk2, nb_refl, nb_refl] at h1; exact absurd h1 (by decide)
      · rw [ho, hk2, uI_eq]
        have : upd (I o) k v k = v := by simp [upd]
        rw [this]; exact Int32.toInt_inj.mp h1
    · rw [ho, uI_eq]
      have : upd (I o) k v q.2 = I o q.2 := by simp [upd, hk2]
      rw [this, ← ho]; exact h.2.1 q hq
  · rw [uI_ne ho]; exact h.2.1 q hq
theorem BZ.z {I : Im} (h : BZ I) {a : Nat} : BZ (zI I a) := by
  refine ⟨h.1.z, fun q hq => ?_, fun k2 => ?_⟩
  · by_cases ho : q.1 = a
    · show (if q.1 = a then (fun _ => 0) else I q.1) q.2 = 0
      rw [if_pos ho]
    · rw [zI_ne ho]; exact h.2.1 q hq
  · refine ⟨?_, ?_⟩
    · by_cases ho : 4 = a
      · show (if 4 = a then (fun _ => 0) else I 4) k2 = 0
        rw [if_pos ho]
      · rw [zI_ne ho]; exact (h.2.2 k2).1
    · by_cases ho : 10 = a
      · show (if 10 = a then (fun _ => 0) else I 10) k2 = 0
        rw [if_pos ho]
      · rw [zI_ne ho]; exact (h.2.2 k2).2
/-- what is known of ints -/
noncomputable def KI (L : List (Nat × Nat × Int32)) (I : Im) : Prop := ∀ q ∈ L, I q.1 q.2.1 = q.2.2
noncomputable def FI (n : Nat) (I I2 : Im) : Prop := ∀ o, o < n → I2 o = I o
theorem KI.nil {I : Im} : KI [] I := fun q h => by cases h
theorem KI.z {L : List (Nat × Nat × Int32)} {I : Im} (h : KI L I) {a : Nat} (ha : L.all (fun q => !(Nat.beq q.1 a)) = true) : KI L (zI I a) := fun q hq => by
  have h1 := List.all_eq_true.mp ha q hq
  have h2 : ¬ q.1 = a := fun z => by rw [z, nb_refl] at h1; cases h1
  rw [zI_ne h2]; exact h q hq
theorem KI.w {L : List (Nat × Nat × Int32)} {I : Im} (h : KI L I) {a j : Nat} {v : Int32} (ha : L.all (fun q => !(Nat.beq q.1 a && Nat.beq q.2.1 j)) = true) : KI L (uI I a j v) := fun q hq => by
  have h1 := List.all_eq_true.mp ha q hq
  by_cases z : q.1 = a
  · have h2 : ¬ q.2.1 = j := fun y => by rw [z, y, nb_refl, nb_refl] at h1; cases h1
    have h3 := h q hq
    rw [z] at h3
    rw [z, uI_eq]
    have : upd (I a) j v q.2.1 = I a q.2.1 := by simp [upd, h2]
    rw [this]; exact h3
  · rw [uI_ne z]; exact h q hq
theorem KI.u {L : List (Nat × Nat × Int32)} {I : Im} (h : KI L I) {a j : Nat} {v : Int32} (ha : L.all (fun q => !(Nat.beq q.1 a && Nat.beq q.2.1 j)) = true) : KI ((a, j, v) :: L) (uI I a j v) := fun q hq => by
  rcases List.mem_cons.mp hq with rfl | hq
  · show uI I a j v a j = v
    rw [uI_eq]; simp [upd]
  · exact h.w ha q hq
theorem KI.app {A B : List (Nat × Nat × Int32)} {I : Im} (h : KI A I) (h2 : KI B I) : KI (A ++ B) I := fun q hq => by
  rcases List.mem_append.mp hq with hq | hq
  · exact h q hq
  · exact h2 q hq
theorem KI.fr {L : List (Nat × Nat × Int32)} {I I2 : Im} (h : KI L I) {n : Nat} (hf : FI n I I2) (hL : L.all (fun q => Nat.blt q.1 n) = true) : KI L I2 := fun q hq => by
  have h1 := List.all_eq_true.mp hL q hq
  rw [hf q.1 (Nat.lt_of_lt_of_le (Nat.lt_succ_self _) (Nat.le_of_ble_eq_true h1))]; exact h q hq
theorem FI.refl (n : Nat) (I : Im) : FI n I I := fun _ _ => rfl
noncomputable def FJ (n : Nat) (J J2 : Jm) : Prop := ∀ o, o < n → J2 o = J o
theorem FJ.refl (n : Nat) (J : Jm) : FJ n J J := fun _ _ => rfl
theorem FJ.z {n : Nat} {J J2 : Jm} (h : FJ n J J2) {a : Nat} (ha : Nat.ble n a = true) : FJ n J (zJ J2 a) := fun o ho => by
  have := Nat.le_of_ble_eq_true ha
  rw [zJ_ne (by omega)]; exact h o ho
theorem FJ.w {n : Nat} {J J2 : Jm} (h : FJ n J J2) {a j : Nat} {v : Int64} (ha : Nat.ble n a = true) : FJ n J (uJ J2 a j v) := fun o ho => by
  have := Nat.le_of_ble_eq_true ha
  rw [uJ_ne (by omega)]; exact h o ho
theorem JZ.z {J : Jm} {a : Nat} (h : J 47 0 = 0) (ha : Nat.beq 47 a = false) : zJ J a 47 0 = 0 := by
  have : ¬ 47 = a := fun q => by subst q; exact absurd ha (by decide)
  rw [zJ_ne this]; exact h
theorem JZ.w {J : Jm} {a j : Nat} {v : Int64} (h : J 47 0 = 0) (ha : Nat.beq 47 a = false) : uJ J a j v 47 0 = 0 := by
  have : ¬ 47 = a := fun q => by subst q; exact absurd ha (by decide)
  rw [uJ_ne this]; exact h
theorem J5.z {J : Jm} {a : Nat} (h : ∀ k, k < 22 → J 5 k = rsv.getD k 0) (ha : Nat.beq 5 a = false) : ∀ k, k < 22 → zJ J a 5 k = rsv.getD k 0 := fun k hk => by
  have : ¬ 5 = a := fun q => by subst q; exact absurd ha (by decide)
  rw [zJ_ne this]; exact h k hk
theorem J5.w {J : Jm} {a j : Nat} {v : Int64} (h : ∀ k, k < 22 → J 5 k = rsv.getD k 0) (ha : Nat.beq 5 a = false) : ∀ k, k < 22 → uJ J a j v 5 k = rsv.getD k 0 := fun k hk => by
  have : ¬ 5 = a := fun q => by subst q; exact absurd ha (by decide)
  rw [uJ_ne this]; exact h k hk
theorem FI.z {n : Nat} {I I2 : Im} (h : FI n I I2) {a : Nat} (ha : Nat.ble n a = true) : FI n I (zI I2 a) := fun o ho => by
  have := Nat.le_of_ble_eq_true ha
  rw [zI_ne (by omega)]; exact h o ho
theorem FI.w {n : Nat} {I I2 : Im} (h : FI n I I2) {a j : Nat} {v : Int32} (ha : Nat.ble n a = true) : FI n I (uI I2 a j v) := fun o ho => by
  have := Nat.le_of_ble_eq_true ha
  rw [uI_ne (by first | decide | omega)]; exact h o ho
theorem Bd.start : Bd (fun _ _ => 0) := ⟨fun _ _ _ _ hb => bnd_0 hb, fun _ _ _ _ hb => bna_0 hb, CK.zero⟩
theorem BZ.at {I : Im} (h : BZ I) {o k : Nat} (hq : (o, k) ∈ ZP) : I o k = 0 := h.2.1 (o, k) hq
theorem KI.at {L : List (Nat × Nat × Int32)} {I : Im} (h : KI L I) {o k : Nat} {v : Int32} (hq : (o, k, v) ∈ L) : I o k = v := h (o, k, v) hq
theorem BZ.start : BZ (fun _ _ => 0) := ⟨Bd.start, fun _ _ => rfl, fun _ => ⟨rfl, rfl⟩⟩
/-- what is known of the references -/
noncomputable def RK (L : List (Nat × Nat × Nat)) (R : Rm) : Prop := ∀ q ∈ L, R q.1 q.2.1 = q.2.2
theorem RK.nil {R : Rm} : RK [] R := fun q h => by cases h
theorem RK.z {L : List (Nat × Nat × Nat)} {R : Rm} (h : RK L R) {a : Nat} (ha : L.all (fun q => !(Nat.beq q.1 a)) = true) : RK L (zR R a) := fun q hq => by
  have h1 := List.all_eq_true.mp ha q hq
  have h2 : ¬ q.1 = a := fun z => by rw [z, Nat.beq_refl] at h1; cases h1
  show (if q.1 = a then (fun _ => 0) else R q.1) q.2.1 = q.2.2
  rw [if_neg h2]; exact h q hq
theorem RK.u {L : List (Nat × Nat × Nat)} {R : Rm} (h : RK L R) {a j v : Nat} (ha : L.all (fun q => !(Nat.beq q.1 a && Nat.beq q.2.1 j)) = true) : RK ((a, j, v) :: L) (uR R a j v) := fun q hq => by
  rcases List.mem_cons.mp hq with rfl | hq
  · show (if a = a then va_up (R a) j v else R a) j = v
    rw [if_pos rfl]; exact if_pos rfl
  · have h1 := List.all_eq_true.mp ha q hq
    show (if q.1 = a then va_up (R a) j v else R q.1) q.2.1 = q.2.2
    by_cases z : q.1 = a
    · rw [if_pos z]
      have h2 : ¬ q.2.1 = j := fun y => by rw [z, y, Nat.beq_refl, Nat.beq_refl] at h1; cases h1
      show (if q.2.1 = j then v else R a q.2.1) = q.2.2
      rw [if_neg h2, ← z]; exact h q hq
    · rw [if_neg z]; exact h q hq
theorem RK.app {A B : List (Nat × Nat × Nat)} {R : Rm} (h : RK A R) (h2 : RK B R) : RK (A ++ B) R := fun q hq => by
  rcases List.mem_append.mp hq with hq | hq
  · exact h q hq
  · exact h2 q hq
/-- the cells before one are as they were -/
noncomputable def FR (n : Nat) (R R2 : Rm) : Prop := ∀ o, o < n → R2 o = R o
theorem FR.refl (n : Nat) (R : Rm) : FR n R R := fun _ _ => rfl
theorem FR.z {n : Nat} {R R2 : Rm} (h : FR n R R2) {a : Nat} (ha : Nat.ble n a = true) : FR n R (zR R2 a) := fun o ho => by
  have := Nat.le_of_ble_eq_true ha
  show (if o = a then (fun _ => 0) else R2 o) = R o
  rw [if_neg (by omega)]; exact h o ho
theorem FR.u {n : Nat} {R R2 : Rm} (h : FR n R R2) {a j v : Nat} (ha : Nat.ble n a = true) : FR n R (uR R2 a j v) := fun o ho => by
  have := Nat.le_of_ble_eq_true ha
  show (if o = a then va_up (R2 a) j v else R2 o) = R o
  rw [if_neg (by omega)]; exact h o ho
theorem RK.fr {L : List (Nat × Nat × Nat)} {R R2 : Rm} (h : RK L R) {n : Nat} (hf : FR n R R2) (hL : L.all (fun q => Nat.blt q.1 n) = true) : RK L R2 := fun q hq => by
  have h1 := List.all_eq_true.mp hL q hq
  rw [hf q.1 (Nat.lt_of_lt_of_le (Nat.lt_succ_self _) (Nat.le_of_ble_eq_true h1))]; exact h q hq
noncomputable def lkq (L : List (Nat × Nat × Nat)) (o k : Nat) : Bool := L.any (fun q => Nat.beq q.1 o && (Nat.beq q.2.1 k && !(Nat.beq q.2.2 0)))
theorem RK.ne {L : List (Nat × Nat × Nat)} {R : Rm} (h : RK L R) {o k : Nat} (hq : lkq L o k = true) : ¬ R o k = 0 := by
  obtain ⟨q, h1, h2⟩ := List.any_eq_true.mp hq
  rw [Bool.and_eq_true, Bool.and_eq_true] at h2
  have e1 := Nat.eq_of_beq_eq_true h2.1
  have e2 := Nat.eq_of_beq_eq_true h2.2.1
  intro z
  have h3 := h q h1
  rw [e1, e2, z] at h3
  rw [← h3] at h2
  exact absurd h2.2.2 (by decide)
theorem RK.at {L : List (Nat × Nat × Nat)} {R : Rm} (h : RK L R) {o k v : Nat} (hq : L.contains (o, k, v) = true) : R o k = v := h (o, k, v) (List.contains_iff_mem.mp hq)
theorem amc_of {d mi rk : Nat} {n al kr : Nat} {as : List Value} {I : Im} {J : Jm} {R : Rm} {Q : Qt} {k : List En} (h1 : Nat.beq mi mReader = false) (hc : (mQ mi).1 = k) (hrk : qRk (mQ mi) = rk) (hal : qAl (mQ mi) = al) (hkr : qKr (mQ mi) = kr) (hph : Nat.beq (qPh (mQ mi)) 1 = false) (hlen : (lg_sl as).length ≤ qL (mQ mi)) (h : ∀ P : Kt, Cl (AM d) false false 0 (fun _ => 0) rk (n + al) k (fun n' x y I' J' R' => n' = n + al ∧ (kr = 1 → R' = R) ∧ Q x y I' J' R') P → P 0 n (lv_args 0 as) [] I J R) : AM (d + 1) mi n as I J R Q := by
  unfold AM
  rw [h1]
  refine ⟨hlen, ?_⟩
  rw [hc, hrk, hal, hph, hkr]
  exact h

noncomputable def lk_X6_init_3 : List (Nat × Nat × Nat) := [(3, 0, 4), (3, 2, 5)]
noncomputable def zk_X6_init_3 : List (Nat × Nat × Int32) := []
theorem ct_X6_init_3 {d : Nat} {Q : Qt} {I : Im} {J : Jm} {R : Rm} (hB : BZ I) (hQ : ∀ (I2 : Im) (J2 : Jm) (R2 : Rm), BZ I2 → FR 3 R R2 → RK lk_X6_init_3 R2 → FI 3 I I2 → KI zk_X6_init_3 I2 → FJ 3 J J2 → (∀ k, k < 22 → J2 5 k = rsv.getD k 0) → Q 0 0 I2 J2 R2) : AM (d + 6) 58 3 [.ref 3] I J R Q := by
  unfold AM
  show hReader 3 [.ref 3] I J R Q
  refine ⟨3, rfl, rfl, ⟨rfl, rfl, rfl, rfl, rfl⟩, ?_⟩
  intro I' J' R' hI hJ hR ⟨b0, r0, r2, i1, i3, i4, i5, i6, i7, i8, i9, j10, i11, i12, i13, j5⟩
  refine hQ I' J' R' ⟨?_, fun q hq => ?_, fun k => ⟨b0 k, by rw [hI 10 (by decide) (by decide) (by decide)]; exact (hB.2.2 k).2⟩⟩ (fun o ho => hR o (by omega) (by omega) (by omega)) (fun q hq => ?_) (fun o ho => hI o (by omega) (by omega) (by omega)) (fun q hq => by cases hq) (fun o ho => hJ o (by omega) (by omega) (by omega)) j5
  · refine ⟨fun o k lo hi hb => ?_, fun a j lo hi hb => ?_, ?_⟩
    · by_cases q3 : o = 3
      · subst q3
        have hb2 : bnd 6 k = some (lo, hi) := hb
        unfold bnd at hb2
        split at hb2 <;> first | (rename_i z; cases z) | skip
        all_goals first | (cases hb2; first | (rw [i1]; decide) | (rw [i3]; decide) | (rw [i4]; decide) | (rw [i5]; decide) | (rw [i6]; decide)) | (cases hb2)
      · by_cases q4 : o = 4
        · subst q4; rw [show bnd (clsOf 4) k = none from bnd_A (t := 2) rfl k] at hb; cases hb
        · by_cases q5 : o = 5
          · subst q5; rw [show bnd (clsOf 5) k = none from bnd_A (t := 1) rfl k] at hb; cases hb
          · rw [hI o q3 q4 q5]; exact hB.1.1 o k lo hi hb
    · by_cases q3 : a = 3
      · subst q3; cases hb
      · by_cases q4 : a = 4
        · subst q4; cases hb
        · by_cases q5 : a = 5
          · subst q5; cases hb
          · rw [hI a q3 q4 q5]; exact hB.1.2.1 a j lo hi hb
    · rw [hI 102 (by decide) (by decide) (by decide)]; exact hB.1.2.2
  · have hz : ∀ q ∈ ZP, ¬ q.1 = 4 ∧ ¬ q.1 = 5 ∧ (q.1 = 3 → q.2 = 1 ∨ q.2 = 3) := by decide
    obtain ⟨h4, h5, h3⟩ := hz q hq
    by_cases q3 : q.1 = 3
    · rw [q3]; exact (h3 q3).elim (fun z => by rw [z]; exact i1) (fun z => by rw [z]; exact i3)
    · rw [hI q.1 q3 h4 h5]; exact hB.2.1 q hq
  · rcases List.mem_cons.mp hq with rfl | hq
    · exact r0
    · rcases List.mem_cons.mp hq with rfl | hq
      · exact r2
      · cases hq
noncomputable def zk_X1_init_6 : List (Nat × Nat × Int32) := []
theorem ct_X1_init_6 {d : Nat} {Q : Qt} {I : Im} {J : Jm} {R : Rm} (hB : BZ I) (hQ : ∀ (I2 : Im) (J2 : Jm) (R2 : Rm), BZ I2 → R2 = R → True → FI 6 I I2 → KI zk_X1_init_6 I2 → FJ 6 J J2 → True → Q 0 0 I2 J2 R2) : AM (d + 1) 20 6 [.ref 6] I J R Q := by
  refine amc_of (k := kX1_init) rfl rfl rfl rfl rfl rfl (Nat.le_of_ble_eq_true rfl) (fun P hc => ?_)
  refine cs_X1_init_6_0_6 hc _ _ _ ?_
  refine ⟨Or.inl rfl, ?_⟩
  have hB1 : BZ (uI I 6 0 0) := hB.kw rfl rfl rfl
  have hZ2 : KI ([]) (uI I 6 0 0) := (KI.nil (I := I)).w rfl
  have hI3 : FI 6 I (uI I 6 0 0) := (FI.refl 6 I).w rfl
  refine ⟨Or.inl rfl, ?_⟩
  have hB4 : BZ (uI (uI I 6 0 0) 6 1 0) := hB1.kw rfl rfl rfl
  have hZ5 : KI ([]) (uI (uI I 6 0 0) 6 1 0) := hZ2.w rfl
  have hI6 : FI 6 I (uI (uI I 6 0 0) 6 1 0) := hI3.w rfl
  have hB7 : BZ (uI (uI (uI I 6 0 0) 6 1 0) 6 2 0) := hB4.kw rfl rfl rfl
  have hZ8 : KI ([]) (uI (uI (uI I 6 0 0) 6 1 0) 6 2 0) := hZ5.w rfl
  have hI9 : FI 6 I (uI (uI (uI I 6 0 0) 6 1 0) 6 2 0) := hI6.w rfl
  exact ⟨rfl, fun _ => rfl, hQ _ _ _ hB7 rfl trivial hI9 hZ8 (FJ.refl 6 J) trivial⟩
noncomputable def zk_X3_init_7 : List (Nat × Nat × Int32) := []
noncomputable def lk_X3_init_7 : List (Nat × Nat × Nat) := (7, 0, 8) :: ([])
set_option maxHeartbeats 4000000 in
set_option maxRecDepth 100000 in
theorem ct_X3_init_7 {d : Nat} {Q : Qt} {I : Im} {J : Jm} {R : Rm} (hB : BZ I) (hQ : ∀ (I2 : Im) (J2 : Jm) (R2 : Rm), BZ I2 → FR 7 R R2 → RK lk_X3_init_7 R2 → FI 7 I I2 → KI zk_X3_init_7 I2 → FJ 7 J J2 → True → Q 0 0 I2 J2 R2) : AM (d + 1) 32 7 [.ref 7] I J R Q := by
  refine amc_of (k := kX3_init) rfl rfl rfl rfl rfl rfl (Nat.le_of_ble_eq_true rfl) (fun P hc => ?_)
  refine cs_X3_init_7_0_7 hc _ _ _ ?_
  refine ⟨rfl, ?_⟩
  have hB1 : BZ (zI I 8) := hB.z
  have hZ2 : KI ([]) (zI I 8) := (KI.nil (I := I)).z rfl
  have hI3 : FI 7 I (zI I 8) := (FI.refl 7 I).z rfl
  have hJ4 : FJ 7 J (zJ J 8) := (FJ.refl 7 J).z rfl
  have hK5 : RK ([]) (zR R 8) := (RK.nil (R := R)).z rfl
  have hF6 : FR 7 R (zR R 8) := (FR.refl 7 R).z rfl
  have hK7 : RK ((7, 0, 8) :: ([])) (uR (zR R 8) 7 0 8) := hK5.u rfl
  have hF8 : FR 7 R (uR (zR R 8) 7 0 8) := hF6.u rfl
  have hB9 : BZ (uI (zI I 8) 7 1 0) := hB1.kw rfl rfl rfl
  have hZ10 : KI ([]) (uI (zI I 8) 7 1 0) := hZ2.w rfl
  have hI11 : FI 7 I (uI (zI I 8) 7 1 0) := hI3.w rfl
  exact ⟨rfl, fun z => absurd z (by decide), hQ _ _ _ hB9 hF8 hK7 hI11 hZ10 hJ4 trivial⟩
noncomputable def zk_X0_init_9 : List (Nat × Nat × Int32) := (9, 2, 1073741823) :: ((9, 1, 4) :: ([]))
noncomputable def lk_X0_init_9 : List (Nat × Nat × Nat) := (9, 8, 14) :: ((9, 7, 13) :: ((9, 6, 12) :: ((9, 5, 11) :: ((9, 0, 10) :: ([])))))
set_option maxHeartbeats 4000000 in
set_option maxRecDepth 100000 in
theorem ct_X0_init_9 {d : Nat} {Q : Qt} {I : Im} {J : Jm} {R : Rm} (hB : BZ I) (hQ : ∀ (I2 : Im) (J2 : Jm) (R2 : Rm), BZ I2 → FR 9 R R2 → RK lk_X0_init_9 R2 → FI 9 I I2 → KI zk_X0_init_9 I2 → FJ 9 J J2 → True → Q 0 0 I2 J2 R2) : AM (d + 1) 0 9 [.ref 9] I J R Q := by
  refine amc_of (k := kX0_init) rfl rfl rfl rfl rfl rfl (Nat.le_of_ble_eq_true rfl) (fun P hc => ?_)
  refine cs_X0_init_9_0_9 hc _ _ _ ?_
  refine ⟨rfl, ?_⟩
  have hB1 : BZ (zI I 10) := hB.z
  have hZ2 : KI ([]) (zI I 10) := (KI.nil (I := I)).z rfl
  have hI3 : FI 9 I (zI I 10) := (FI.refl 9 I).z rfl
  have hJ4 : FJ 9 J (zJ J 10) := (FJ.refl 9 J).z rfl
  have hK5 : RK ([]) (zR R 10) := (RK.nil (R := R)).z rfl
  have hF6 : FR 9 R (zR R 10) := (FR.refl 9 R).z rfl
  have hK7 : RK ((9, 0, 10) :: ([])) (uR (zR R 10) 9 0 10) := hK5.u rfl
  have hF8 : FR 9 R (uR (zR R 10) 9 0 10) := hF6.u rfl
  have hB9 : BZ (uI (zI I 10) 9 1 4) := hB1.kw rfl rfl rfl
  have hZ10 : KI ((9, 1, 4) :: ([])) (uI (zI I 10) 9 1 4) := hZ2.u rfl
  have hI11 : FI 9 I (uI (zI I 10) 9 1 4) := hI3.w rfl
  have hB12 : BZ (uI (uI (zI I 10) 9 1 4) 9 2 1073741823) := hB9.kw rfl rfl rfl
  have hZ13 : KI ((9, 2, 1073741823) :: ((9, 1, 4) :: ([]))) (uI (uI (zI I 10) 9 1 4) 9 2 1073741823) := hZ10.u rfl
  have hI14 : FI 9 I (uI (uI (zI I 10) 9 1 4) 9 2 1073741823) := hI11.w rfl
  have hB15 : BZ (uI (uI (uI (zI I 10) 9 1 4) 9 2 1073741823) 9 3 0) := hB12.kw rfl rfl rfl
  have hZ16 : KI ((9, 2, 1073741823) :: ((9, 1, 4) :: ([]))) (uI (uI (uI (zI I 10) 9 1 4) 9 2 1073741823) 9 3 0) := hZ13.w rfl
  have hI17 : FI 9 I (uI (uI (uI (zI I 10) 9 1 4) 9 2 1073741823) 9 3 0) := hI14.w rfl
  have hB18 : BZ (uI (uI (uI (uI (zI I 10) 9 1 4) 9 2 1073741823) 9 3 0) 9 4 0) := hB15.kw rfl rfl rfl
  have hZ19 : KI ((9, 2, 1073741823) :: ((9, 1, 4) :: ([]))) (uI (uI (uI (uI (zI I 10) 9 1 4) 9 2 1073741823) 9 3 0) 9 4 0) := hZ16.w rfl
  have hI20 : FI 9 I (uI (uI (uI (uI (zI I 10) 9 1 4) 9 2 1073741823) 9 3 0) 9 4 0) := hI17.w rfl
  refine ⟨rfl, ?_⟩
  have hB21 : BZ (zI (uI (uI (uI (uI (zI I 10) 9 1 4) 9 2 1073741823) 9 3 0) 9 4 0) 11) := hB18.z
  have hZ22 : KI ((9, 2, 1073741823) :: ((9, 1, 4) :: ([]))) (zI (uI (uI (uI (uI (zI I 10) 9 1 4) 9 2 1073741823) 9 3 0) 9 4 0) 11) := hZ19.z rfl
  have hI23 : FI 9 I (zI (uI (uI (uI (uI (zI I 10) 9 1 4) 9 2 1073741823) 9 3 0) 9 4 0) 11) := hI20.z rfl
  have hJ24 : FJ 9 J (zJ (zJ J 10) 11) := hJ4.z rfl
  have hK25 : RK ((9, 0, 10) :: ([])) (zR (uR (zR R 10) 9 0 10) 11) := hK7.z rfl
  have hF26 : FR 9 R (zR (uR (zR R 10) 9 0 10) 11) := hF8.z rfl
  have hK27 : RK ((9, 5, 11) :: ((9, 0, 10) :: ([]))) (uR (zR (uR (zR R 10) 9 0 10) 11) 9 5 11) := hK25.u rfl
  have hF28 : FR 9 R (uR (zR (uR (zR R 10) 9 0 10) 11) 9 5 11) := hF26.u rfl
  refine ⟨rfl, ?_⟩
  have hB29 : BZ (zI (zI (uI (uI (uI (uI (zI I 10) 9 1 4) 9 2 1073741823) 9 3 0) 9 4 0) 11) 12) := hB21.z
  have hZ30 : KI ((9, 2, 1073741823) :: ((9, 1, 4) :: ([]))) (zI (zI (uI (uI (uI (uI (zI I 10) 9 1 4) 9 2 1073741823) 9 3 0) 9 4 0) 11) 12) := hZ22.z rfl
  have hI31 : FI 9 I (zI (zI (uI (uI (uI (uI (zI I 10) 9 1 4) 9 2 1073741823) 9 3 0) 9 4 0) 11) 12) := hI23.z rfl
  have hJ32 : FJ 9 J (zJ (zJ (zJ J 10) 11) 12) := hJ24.z rfl
  have hK33 : RK ((9, 5, 11) :: ((9, 0, 10) :: ([]))) (zR (uR (zR (uR (zR R 10) 9 0 10) 11) 9 5 11) 12) := hK27.z rfl
  have hF34 : FR 9 R (zR (uR (zR (uR (zR R 10) 9 0 10) 11) 9 5 11) 12) := hF28.z rfl
  have hK35 : RK ((9, 6, 12) :: ((9, 5, 11) :: ((9, 0, 10) :: ([])))) (uR (zR (uR (zR (uR (zR R 10) 9 0 10) 11) 9 5 11) 12) 9 6 12) := hK33.u rfl
  have hF36 : FR 9 R (uR (zR (uR (zR (uR (zR R 10) 9 0 10) 11) 9 5 11) 12) 9 6 12) := hF34.u rfl
  refine ⟨rfl, ?_⟩
  have hB37 : BZ (zI (zI (zI (uI (uI (uI (uI (zI I 10) 9 1 4) 9 2 1073741823) 9 3 0) 9 4 0) 11) 12) 13) := hB29.z
  have hZ38 : KI ((9, 2, 1073741823) :: ((9, 1, 4) :: ([]))) (zI (zI (zI (uI (uI (uI (uI (zI I 10) 9 1 4) 9 2 1073741823) 9 3 0) 9 4 0) 11) 12) 13) := hZ30.z rfl
  have hI39 : FI 9 I (zI (zI (zI (uI (uI (uI (uI (zI I 10) 9 1 4) 9 2 1073741823) 9 3 0) 9 4 0) 11) 12) 13) := hI31.z rfl
  have hJ40 : FJ 9 J (zJ (zJ (zJ (zJ J 10) 11) 12) 13) := hJ32.z rfl
  have hK41 : RK ((9, 6, 12) :: ((9, 5, 11) :: ((9, 0, 10) :: ([])))) (zR (uR (zR (uR (zR (uR (zR R 10) 9 0 10) 11) 9 5 11) 12) 9 6 12) 13) := hK35.z rfl
  have hF42 : FR 9 R (zR (uR (zR (uR (zR (uR (zR R 10) 9 0 10) 11) 9 5 11) 12) 9 6 12) 13) := hF36.z rfl
  have hK43 : RK ((9, 7, 13) :: ((9, 6, 12) :: ((9, 5, 11) :: ((9, 0, 10) :: ([]))))) (uR (zR (uR (zR (uR (zR (uR (zR R 10) 9 0 10) 11) 9 5 11) 12) 9 6 12) 13) 9 7 13) := hK41.u rfl
  have hF44 : FR 9 R (uR (zR (uR (zR (uR (zR (uR (zR R 10) 9 0 10) 11) 9 5 11) 12) 9 6 12) 13) 9 7 13) := hF42.u rfl
  refine ⟨rfl, ?_⟩
  have hB45 : BZ (zI (zI (zI (zI (uI (uI (uI (uI (zI I 10) 9 1 4) 9 2 1073741823) 9 3 0) 9 4 0) 11) 12) 13) 14) := hB37.z
  have hZ46 : KI ((9, 2, 1073741823) :: ((9, 1, 4) :: ([]))) (zI (zI (zI (zI (uI (uI (uI (uI (zI I 10) 9 1 4) 9 2 1073741823) 9 3 0) 9 4 0) 11) 12) 13) 14) := hZ38.z rfl
  have hI47 : FI 9 I (zI (zI (zI (zI (uI (uI (uI (uI (zI I 10) 9 1 4) 9 2 1073741823) 9 3 0) 9 4 0) 11) 12) 13) 14) := hI39.z rfl
  have hJ48 : FJ 9 J (zJ (zJ (zJ (zJ (zJ J 10) 11) 12) 13) 14) := hJ40.z rfl
  have hK49 : RK ((9, 7, 13) :: ((9, 6, 12) :: ((9, 5, 11) :: ((9, 0, 10) :: ([]))))) (zR (uR (zR (uR (zR (uR (zR (uR (zR R 10) 9 0 10) 11) 9 5 11) 12) 9 6 12) 13) 9 7 13) 14) := hK43.z rfl
  have hF50 : FR 9 R (zR (uR (zR (uR (zR (uR (zR (uR (zR R 10) 9 0 10) 11) 9 5 11) 12) 9 6 12) 13) 9 7 13) 14) := hF44.z rfl
  have hK51 : RK ((9, 8, 14) :: ((9, 7, 13) :: ((9, 6, 12) :: ((9, 5, 11) :: ((9, 0, 10) :: ([])))))) (uR (zR (uR (zR (uR (zR (uR (zR (uR (zR R 10) 9 0 10) 11) 9 5 11) 12) 9 6 12) 13) 9 7 13) 14) 9 8 14) := hK49.u rfl
  have hF52 : FR 9 R (uR (zR (uR (zR (uR (zR (uR (zR (uR (zR R 10) 9 0 10) 11) 9 5 11) 12) 9 6 12) 13) 9 7 13) 14) 9 8 14) := hF50.u rfl
  exact ⟨rfl, fun z => absurd z (by decide), hQ _ _ _ hB45 hF52 hK51 hI47 hZ46 hJ48 trivial⟩
noncomputable def zk_X0_init_15 : List (Nat × Nat × Int32) := []
noncomputable def lk_X0_init_15 : List (Nat × Nat × Nat) := (15, 8, 20) :: ((15, 7, 19) :: ((15, 6, 18) :: ((15, 5, 17) :: ((15, 0, 16) :: ([])))))
set_option maxHeartbeats 4000000 in
set_option maxRecDepth 100000 in
theorem ct_X0_init_15 {d : Nat} {Q : Qt} {I : Im} {J : Jm} {R : Rm} (hB : BZ I) (hQ : ∀ (I2 : Im) (J2 : Jm) (R2 : Rm), BZ I2 → FR 15 R R2 → RK lk_X0_init_15 R2 → FI 15 I I2 → KI zk_X0_init_15 I2 → FJ 15 J J2 → True → Q 0 0 I2 J2 R2) : AM (d + 1) 0 15 [.ref 15] I J R Q := by
  refine amc_of (k := kX0_init) rfl rfl rfl rfl rfl rfl (Nat.le_of_ble_eq_true rfl) (fun P hc => ?_)
  refine cs_X0_init_15_0_15 hc _ _ _ ?_
  refine ⟨rfl, ?_⟩
  have hB1 : BZ (zI I 16) := hB.z
  have hZ2 : KI ([]) (zI I 16) := (KI.nil (I := I)).z rfl
  have hI3 : FI 15 I (zI I 16) := (FI.refl 15 I).z rfl
  have hJ4 : FJ 15 J (zJ J 16) := (FJ.refl 15 J).z rfl
  have hK5 : RK ([]) (zR R 16) := (RK.nil (R := R)).z rfl
  have hF6 : FR 15 R (zR R 16) := (FR.refl 15 R).z rfl
  have hK7 : RK ((15, 0, 16) :: ([])) (uR (zR R 16) 15 0 16) := hK5.u rfl
  have hF8 : FR 15 R (uR (zR R 16) 15 0 16) := hF6.u rfl
  have hB9 : BZ (uI (zI I 16) 15 1 4) := hB1.kw rfl rfl rfl
  have hZ10 : KI ([]) (uI (zI I 16) 15 1 4) := hZ2.w rfl
  have hI11 : FI 15 I (uI (zI I 16) 15 1 4) := hI3.w rfl
  have hB12 : BZ (uI (uI (zI I 16) 15 1 4) 15 2 1073741823) := hB9.kw rfl rfl rfl
  have hZ13 : KI ([]) (uI (uI (zI I 16) 15 1 4) 15 2 1073741823) := hZ10.w rfl
  have hI14 : FI 15 I (uI (uI (zI I 16) 15 1 4) 15 2 1073741823) := hI11.w rfl
  have hB15 : BZ (uI (uI (uI (zI I 16) 15 1 4) 15 2 1073741823) 15 3 0) := hB12.kw rfl rfl rfl
  have hZ16 : KI ([]) (uI (uI (uI (zI I 16) 15 1 4) 15 2 1073741823) 15 3 0) := hZ13.w rfl
  have hI17 : FI 15 I (uI (uI (uI (zI I 16) 15 1 4) 15 2 1073741823) 15 3 0) := hI14.w rfl
  have hB18 : BZ (uI (uI (uI (uI (zI I 16) 15 1 4) 15 2 1073741823) 15 3 0) 15 4 0) := hB15.kw rfl rfl rfl
  have hZ19 : KI ([]) (uI (uI (uI (uI (zI I 16) 15 1 4) 15 2 1073741823) 15 3 0) 15 4 0) := hZ16.w rfl
  have hI20 : FI 15 I (uI (uI (uI (uI (zI I 16) 15 1 4) 15 2 1073741823) 15 3 0) 15 4 0) := hI17.w rfl
  refine ⟨rfl, ?_⟩
  have hB21 : BZ (zI (uI (uI (uI (uI (zI I 16) 15 1 4) 15 2 1073741823) 15 3 0) 15 4 0) 17) := hB18.z
  have hZ22 : KI ([]) (zI (uI (uI (uI (uI (zI I 16) 15 1 4) 15 2 1073741823) 15 3 0) 15 4 0) 17) := hZ19.z rfl
  have hI23 : FI 15 I (zI (uI (uI (uI (uI (zI I 16) 15 1 4) 15 2 1073741823) 15 3 0) 15 4 0) 17) := hI20.z rfl
  have hJ24 : FJ 15 J (zJ (zJ J 16) 17) := hJ4.z rfl
  have hK25 : RK ((15, 0, 16) :: ([])) (zR (uR (zR R 16) 15 0 16) 17) := hK7.z rfl
  have hF26 : FR 15 R (zR (uR (zR R 16) 15 0 16) 17) := hF8.z rfl
  have hK27 : RK ((15, 5, 17) :: ((15, 0, 16) :: ([]))) (uR (zR (uR (zR R 16) 15 0 16) 17) 15 5 17) := hK25.u rfl
  have hF28 : FR 15 R (uR (zR (uR (zR R 16) 15 0 16) 17) 15 5 17) := hF26.u rfl
  refine ⟨rfl, ?_⟩
  have hB29 : BZ (zI (zI (uI (uI (uI (uI (zI I 16) 15 1 4) 15 2 1073741823) 15 3 0) 15 4 0) 17) 18) := hB21.z
  have hZ30 : KI ([]) (zI (zI (uI (uI (uI (uI (zI I 16) 15 1 4) 15 2 1073741823) 15 3 0) 15 4 0) 17) 18) := hZ22.z rfl
  have hI31 : FI 15 I (zI (zI (uI (uI (uI (uI (zI I 16) 15 1 4) 15 2 1073741823) 15 3 0) 15 4 0) 17) 18) := hI23.z rfl
  have hJ32 : FJ 15 J (zJ (zJ (zJ J 16) 17) 18) := hJ24.z rfl
  have hK33 : RK ((15, 5, 17) :: ((15, 0, 16) :: ([]))) (zR (uR (zR (uR (zR R 16) 15 0 16) 17) 15 5 17) 18) := hK27.z rfl
  have hF34 : FR 15 R (zR (uR (zR (uR (zR R 16) 15 0 16) 17) 15 5 17) 18) := hF28.z rfl
  have hK35 : RK ((15, 6, 18) :: ((15, 5, 17) :: ((15, 0, 16) :: ([])))) (uR (zR (uR (zR (uR (zR R 16) 15 0 16) 17) 15 5 17) 18) 15 6 18) := hK33.u rfl
  have hF36 : FR 15 R (uR (zR (uR (zR (uR (zR R 16) 15 0 16) 17) 15 5 17) 18) 15 6 18) := hF34.u rfl
  refine ⟨rfl, ?_⟩
  have hB37 : BZ (zI (zI (zI (uI (uI (uI (uI (zI I 16) 15 1 4) 15 2 1073741823) 15 3 0) 15 4 0) 17) 18) 19) := hB29.z
  have hZ38 : KI ([]) (zI (zI (zI (uI (uI (uI (uI (zI I 16) 15 1 4) 15 2 1073741823) 15 3 0) 15 4 0) 17) 18) 19) := hZ30.z rfl
  have hI39 : FI 15 I (zI (zI (zI (uI (uI (uI (uI (zI I 16) 15 1 4) 15 2 1073741823) 15 3 0) 15 4 0) 17) 18) 19) := hI31.z rfl
  have hJ40 : FJ 15 J (zJ (zJ (zJ (zJ J 16) 17) 18) 19) := hJ32.z rfl
  have hK41 : RK ((15, 6, 18) :: ((15, 5, 17) :: ((15, 0, 16) :: ([])))) (zR (uR (zR (uR (zR (uR (zR R 16) 15 0 16) 17) 15 5 17) 18) 15 6 18) 19) := hK35.z rfl
  have hF42 : FR 15 R (zR (uR (zR (uR (zR (uR (zR R 16) 15 0 16) 17) 15 5 17) 18) 15 6 18) 19) := hF36.z rfl
  have hK43 : RK ((15, 7, 19) :: ((15, 6, 18) :: ((15, 5, 17) :: ((15, 0, 16) :: ([]))))) (uR (zR (uR (zR (uR (zR (uR (zR R 16) 15 0 16) 17) 15 5 17) 18) 15 6 18) 19) 15 7 19) := hK41.u rfl
  have hF44 : FR 15 R (uR (zR (uR (zR (uR (zR (uR (zR R 16) 15 0 16) 17) 15 5 17) 18) 15 6 18) 19) 15 7 19) := hF42.u rfl
  refine ⟨rfl, ?_⟩
  have hB45 : BZ (zI (zI (zI (zI (uI (uI (uI (uI (zI I 16) 15 1 4) 15 2 1073741823) 15 3 0) 15 4 0) 17) 18) 19) 20) := hB37.z
  have hZ46 : KI ([]) (zI (zI (zI (zI (uI (uI (uI (uI (zI I 16) 15 1 4) 15 2 1073741823) 15 3 0) 15 4 0) 17) 18) 19) 20) := hZ38.z rfl
  have hI47 : FI 15 I (zI (zI (zI (zI (uI (uI (uI (uI (zI I 16) 15 1 4) 15 2 1073741823) 15 3 0) 15 4 0) 17) 18) 19) 20) := hI39.z rfl
  have hJ48 : FJ 15 J (zJ (zJ (zJ (zJ (zJ J 16) 17) 18) 19) 20) := hJ40.z rfl
  have hK49 : RK ((15, 7, 19) :: ((15, 6, 18) :: ((15, 5, 17) :: ((15, 0, 16) :: ([]))))) (zR (uR (zR (uR (zR (uR (zR (uR (zR R 16) 15 0 16) 17) 15 5 17) 18) 15 6 18) 19) 15 7 19) 20) := hK43.z rfl
  have hF50 : FR 15 R (zR (uR (zR (uR (zR (uR (zR (uR (zR R 16) 15 0 16) 17) 15 5 17) 18) 15 6 18) 19) 15 7 19) 20) := hF44.z rfl
  have hK51 : RK ((15, 8, 20) :: ((15, 7, 19) :: ((15, 6, 18) :: ((15, 5, 17) :: ((15, 0, 16) :: ([])))))) (uR (zR (uR (zR (uR (zR (uR (zR (uR (zR R 16) 15 0 16) 17) 15 5 17) 18) 15 6 18) 19) 15 7 19) 20) 15 8 20) := hK49.u rfl
  have hF52 : FR 15 R (uR (zR (uR (zR (uR (zR (uR (zR (uR (zR R 16) 15 0 16) 17) 15 5 17) 18) 15 6 18) 19) 15 7 19) 20) 15 8 20) := hF50.u rfl
  exact ⟨rfl, fun z => absurd z (by decide), hQ _ _ _ hB45 hF52 hK51 hI47 hZ46 hJ48 trivial⟩
